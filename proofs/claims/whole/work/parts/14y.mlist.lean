section MLIST
variable {tp : Nat → Nat} {n nt e d oc c v r cb la jo M B op M0 h N : Nat} {pl : Nat → Nat} {ky : Nat → Int64} {av : Int32} {es : List Nat} {S : lm_S} {I I' I0 I1 I2 I3 : lm_I} {L L' L1 L2 L3 : lm_L} {R : lm_R} {Q K : Option Value → lm_M → Prop} {z z' y z1 : Zt} {rec : Nat → Nat → Zt → Rs}
/-- rows do not see which elements a list has -/
theorem mN_z (h : mN pl ky I L z n av) (hz : ∀ c m, c < 16 → c ≠ 11 → (c ≠ 1 ∨ m ≠ N) → z' c m = z c m) (h22 : ∀ b, z' 22 b = z 22 b) (hN : n = N → z 0 n = 7) : mN pl ky I L z' n av := by
  have es : ∀ s, sM z' s = sM z s := fun s => sM_eq (fun _ _ => h22 _)
  have eo : ∀ v, oM z' v = oM z v := fun v => oM_eq (fun _ => hz 6 v (by decide) (by decide) (Or.inl (by decide)))
  have e0 := hz 0 n (by decide) (by decide) (Or.inl (by decide))
  by_cases k7 : z 0 n = 7
  · unfold mN at h ⊢
    obtain ⟨⟨c1, c2, c3, c4, c5, c6, c7, c8, c9⟩, d1, d2, d3, d4⟩ := h
    rw [hz 0 n (by decide) (by decide) (Or.inl (by decide)), hz 2 n (by decide) (by decide) (Or.inl (by decide)), hz 3 n (by decide) (by decide) (Or.inl (by decide)), hz 4 n (by decide) (by decide) (Or.inl (by decide)), hz 5 n (by decide) (by decide) (Or.inl (by decide)), hz 6 n (by decide) (by decide) (Or.inl (by decide)), hz 7 n (by decide) (by decide) (Or.inl (by decide)), hz 8 n (by decide) (by decide) (Or.inl (by decide)), hz 9 n (by decide) (by decide) (Or.inl (by decide)), hz 10 n (by decide) (by decide) (Or.inl (by decide)), hz 13 n (by decide) (by decide) (Or.inl (by decide)), hz 14 n (by decide) (by decide) (Or.inl (by decide)), es, eo, eo, eo, hz 0 _ (by decide) (by decide) (Or.inl (by decide)), if_pos k7]
    rw [if_pos k7] at c3
    exact ⟨⟨c1, c2, c3, c4, c5, c6, c7, c8, c9⟩, fun h => by omega, fun h => by omega, fun h => by omega, d4⟩
  · have nN : n ≠ N := fun q => k7 (hN q)
    unfold mN at h ⊢
    rw [hz 0 n (by decide) (by decide) (Or.inl (by decide)), hz 1 n (by decide) (by decide) (Or.inr nN), hz 2 n (by decide) (by decide) (Or.inl (by decide)), hz 3 n (by decide) (by decide) (Or.inl (by decide)), hz 4 n (by decide) (by decide) (Or.inl (by decide)), hz 5 n (by decide) (by decide) (Or.inl (by decide)), hz 6 n (by decide) (by decide) (Or.inl (by decide)), hz 7 n (by decide) (by decide) (Or.inl (by decide)), hz 8 n (by decide) (by decide) (Or.inl (by decide)), hz 9 n (by decide) (by decide) (Or.inl (by decide)), hz 10 n (by decide) (by decide) (Or.inl (by decide)), hz 13 n (by decide) (by decide) (Or.inl (by decide)), hz 14 n (by decide) (by decide) (Or.inl (by decide)), es, eo, eo, eo, hz 0 _ (by decide) (by decide) (Or.inl (by decide)), hz 5 (z 1 n) (by decide) (by decide) (Or.inl (by decide)), hz 6 (z 1 n) (by decide) (by decide) (Or.inl (by decide)), hz 6 (z 2 n) (by decide) (by decide) (Or.inl (by decide)), hz 9 (z 2 n) (by decide) (by decide) (Or.inl (by decide)), hz 9 (z 3 n) (by decide) (by decide) (Or.inl (by decide))]
    exact h
theorem SGm_z {lo hi : Nat} (h : SGm pl ky I L z lo hi r av) (hz : ∀ c m, c < 16 → c ≠ 11 → (c ≠ 1 ∨ m ≠ N) → z' c m = z c m) (h22 : ∀ b, z' 22 b = z 22 b) (hN : lo ≤ N → N < hi → z 0 N = 7) : SGm pl ky I L z' lo hi r av := fun x x1 x2 => by
  have := mN_z (h x x1 x2) hz h22 (fun q => by rw [q]; exact hN (by omega) (by omega))
  rw [hz 5 x (by decide) (by decide) (Or.inl (by decide)), oM_eq (fun _ => hz 6 _ (by decide) (by decide) (Or.inl (by decide)))]
  exact this
theorem SGm_adv {lo hi : Nat} (h : SGm pl ky I L z lo hi r av) : SGm pl ky I L (adv z) lo hi r av := SGm_z (N := hi) h (fun c m h1 _ _ => adv_n (by omega)) (fun b => adv_n (by omega)) (fun _ h => by omega)
/-- only the rows count -/
theorem SGm_eq {lo hi : Nat} (h : SGm pl ky I L z lo hi r av) (hI : ∀ o, 99 ≤ o → o ≤ 109 → I' o = I o) (hL : ∀ m, L' 101 m = L 101 m) : SGm pl ky I' L' z lo hi r av := fun x x1 x2 => by
  have := h x x1 x2
  unfold mN at this ⊢
  rw [hI 99 (by decide) (by decide), hI 100 (by decide) (by decide), hI 102 (by decide) (by decide), hI 103 (by decide) (by decide), hI 104 (by decide) (by decide), hI 105 (by decide) (by decide), hI 106 (by decide) (by decide), hI 107 (by decide) (by decide), hI 108 (by decide) (by decide), hI 109 (by decide) (by decide), hL]
  exact this
theorem mQA.fr {x : Rs} (h : mQA tp n e S R Q d oc cb z I L x) (f : frP (z 30 3) (z 30 2) (d + 1) oc I I1 L L1) : mQA tp n e S R Q d oc cb z I1 L1 x := by
  cases x with
  | inl t => exact mF.fr (M := t) h f.1
  | inr q => exact fun I' L' a b => h I' L' a (frPc.tr f b (Nat.le_refl _) (Nat.le_refl _) (Nat.le_refl _) (Nat.le_refl _))
/-- a list and one more element, in the draft -/
theorem masm_el (hl : LI (xk tp n) (xp tp n) nt z y d la es) (hs : PSI (xk tp n) (xp tp n) nt y 0 (d + 1) r z1) (h6 : y 6 (z 30 0) = z 30 3) (s0 : SGm (xp tp n) (xy tp n) I1 L1 y (z 30 0) (y 30 0) (z 30 0) (-9)) {av2 : Int32} (s1 : SGm (xp tp n) (xy tp n) I2 L2 z1 (y 30 0) (z1 30 0) r av2)
    (hI1 : ∀ o m, 99 ≤ o → o ≤ 109 → m < y 30 3 → I3 o m = I1 o m) (hL1 : ∀ m, m < y 30 3 → L3 101 m = L1 101 m)
    (hI2 : ∀ o m, 99 ≤ o → o ≤ 109 → y 30 3 ≤ m → (m ≠ z1 6 r ∨ (o ≠ 105 ∧ o ≠ 108)) → I3 o m = I2 o m) (hL2 : ∀ m, y 30 3 ≤ m → L3 101 m = L2 101 m)
    (h5 : I3 105 (z1 6 r) = nI (z 30 3)) (h8 : I3 108 (z1 6 r) = nI (xp tp n jo)) : SGm (xp tp n) (xy tp n) I3 L3 (zel z1 (z 30 0) la jo r) (z 30 0) (z1 30 0) (z 30 0) (-9) := by
  obtain ⟨⟨wy, y4, y0, y3, y6, y5, y5', y2, yN, yi⟩, sy, cy, ay, ⟨k0, k2, k3, k15, k8, k9, k11⟩, ⟨ch, pw, mb, iff, lst⟩, bc, g33⟩ := hl
  have lar : la = 1000 ∨ la < y 30 0 := by
    rcases lst with h | h
    · exact Or.inl h.1
    · exact Or.inr (mb la (List.mem_of_getLast? h)).2.1
  have w1 := hs.1
  have sg1 := hs.2.2.1
  have ch1 := hs.2.2.2.1
  have hr1 := sg1.1
  have m400 := hr1.2.2
  have nr1 := (sg1.2.2.1 r hr1.1 hr1.2.1).2.1
  have x0 := sy.1
  have E := zel_e (z1 := z1) (n := z 30 0) (la := la) (jo := jo) (r := r)
  have fr : ∀ c n, c < 16 → n < y 30 0 → z1 c n = y c n := w1.2.1
  have e22 : ∀ b, zel z1 (z 30 0) la jo r 22 b = z1 22 b := fun b => by rw [E, if_neg (by omega), if_neg (by omega), if_neg (by omega), if_neg (by omega)]
  have chy : CHD (xk tp n) y (z 30 0) (y 30 0) := fun x x1 x2 => by
    by_cases s : x = z 30 0
    · subst s
      unfold chq
      rw [k0, k2, k3]
      exact ⟨by rw [if_neg (by decide)]; exact fun s => absurd rfl s, by rw [if_neg (by decide)], by rw [if_neg (by decide)], fun s => by omega⟩
    · exact cy x (by omega) x2
  -- the part before, under a table that keeps its elements
  obtain ⟨zz, hzz⟩ : ∃ zz : Zt, zz = fun c m => if c = 11 ∨ (c = 1 ∧ m = z 30 0) then y c m else zel z1 (z 30 0) la jo r c m := ⟨_, rfl⟩
  have zn : ∀ c m, c ≠ 11 → (c ≠ 1 ∨ m ≠ z 30 0) → zel z1 (z 30 0) la jo r c m = zz c m := fun c m h1 h2 => by
    rw [hzz]
    show _ = if c = 11 ∨ (c = 1 ∧ m = z 30 0) then y c m else zel z1 (z 30 0) la jo r c m
    rw [if_neg (by omega)]
  have rt0 : RT y zz (z 30 0) (y 30 0) (z 30 0) := fun c x c1 x1 x2 _ => by
    by_cases s : c = 11 ∨ (c = 1 ∧ x = z 30 0)
    · rw [hzz]
      show (if c = 11 ∨ (c = 1 ∧ x = z 30 0) then y c x else _) = _
      rw [if_pos s]
    · rw [← zn c x (by omega) (by omega), E, if_neg (by omega), if_neg (by omega), if_neg (by omega), if_neg (by omega)]
      exact fr c x c1 x2
  have z22 : ∀ b, zz 22 b = z1 22 b := fun b => by rw [← zn 22 b (by decide) (Or.inl (by decide))]; exact e22 b
  have r0 := s0 (z 30 0) (Nat.le_refl _) (by omega)
  rw [if_pos rfl] at r0
  have n0 := (sy.2.2.1 (z 30 0) (Nat.le_refl _) (by omega)).2.1
  have S0 : SGm (xp tp n) (xy tp n) I3 L3 zz (z 30 0) (y 30 0) (z 30 0) (-9) := by
    refine SGm_mv s0 sy chy rt0 (fun o m h1 h2 h3 h4 h5 => hI1 o m h1 h2 h4) (fun m h1 h2 => hL1 m h2) (fun b hb => by rw [z22]; exact w1.2.2.2.1 22 b (by decide) (by decide) hb) ?_ ?_ (fun h => ?_)
    · rw [hI1 105 _ (by decide) (by decide) n0.2.1]; exact r0.1.2.2.2.2.2.1
    · rw [hI1 109 _ (by decide) (by decide) n0.2.1, show zz 13 (z 30 0) = y 13 (z 30 0) by rw [← zn 13 _ (by decide) (Or.inl (by decide)), E, if_neg (by omega), if_neg (by omega), if_neg (by omega), if_neg (by omega)]; exact fr 13 _ (by decide) (by omega)]; exact r0.1.2.2.2.2.2.2.2.2
    · rw [← zn 5 _ (by decide) (Or.inl (by decide)), E, if_neg (by omega), if_neg (by omega), if_neg (by omega), if_neg (by omega), fr 5 _ (by decide) (by omega), sy.2.1] at h
      omega
  have S0' : SGm (xp tp n) (xy tp n) I3 L3 (zel z1 (z 30 0) la jo r) (z 30 0) (y 30 0) (z 30 0) (-9) := SGm_z (N := z 30 0) S0 (fun c m _ h2 h3 => zn c m h2 h3) (fun b => by rw [e22, z22]) (fun _ _ => by rw [rt0 0 _ (by decide) (Nat.le_refl _) (by omega) (Or.inr ⟨by decide, by decide, by decide, by decide⟩)]; exact k0)
  have rt1 : RT z1 (zel z1 (z 30 0) la jo r) (y 30 0) (z1 30 0) r := fun c x h1 h2 h3 h4 => by
    rw [E, if_neg (by omega), if_neg (by omega), if_neg (by omega), if_neg (by omega)]
  have p5 : zel z1 (z 30 0) la jo r 5 r = z 30 0 := by rw [E, if_pos ⟨rfl, rfl⟩]
  have p9 : zel z1 (z 30 0) la jo r 9 r = jo := by rw [E, if_neg (by omega), if_neg (by omega), if_pos ⟨rfl, rfl⟩]
  have p6 : zel z1 (z 30 0) la jo r 6 (z 30 0) = z 30 3 := by rw [E, if_neg (by omega), if_neg (by omega), if_neg (by omega), if_neg (by omega), fr 6 _ (by decide) (by omega)]; exact h6
  have S1 : SGm (xp tp n) (xy tp n) I3 L3 (zel z1 (z 30 0) la jo r) (y 30 0) (z1 30 0) r (nI (z 30 3)) := by
    refine SGm_mv s1 sg1 ch1 rt1 (fun o m h1 h2 h3 h4 h5 => hI2 o m h1 h2 h3 (by omega)) (fun m h1 h2 => hL2 m h1) (fun b hb => e22 b) h5 ?_ (fun _ _ => ?_)
    · rw [hI2 109 _ (by decide) (by decide) nr1.1 (Or.inr (by decide)), E, if_neg (by omega), if_neg (by omega), if_neg (by omega), if_neg (by omega)]
      exact (s1 r hr1.1 hr1.2.1).1.2.2.2.2.2.2.2.2
    · rw [p9]; exact h8
  intro x x1 x2
  by_cases q1 : x < y 30 0
  · exact S0' x x1 q1
  · rw [if_neg (by omega)]
    have := S1 x (by omega) x2
    by_cases sw : x = r
    · rw [if_pos sw] at this
      rw [sw] at this ⊢
      rw [p5, oM_lt (by omega), p6]; exact this
    · rw [if_neg sw] at this; exact this
end MLIST
