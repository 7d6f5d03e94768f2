/-! ===== the cells that a text's rules cost ===== -/
def wsum (w : Nat → Nat) : Nat → Nat
  | 0 => 0
  | m + 1 => wsum w m + w m
theorem wsum_le {w w' : Nat → Nat} : ∀ (M : Nat), (∀ i, i < M → w' i ≤ w i) → wsum w' M ≤ wsum w M
  | 0, _ => Nat.le_refl _
  | M + 1, h => by
    have a := wsum_le M (fun i hi => h i (by omega))
    have b := h M (by omega)
    show wsum w' M + w' M ≤ wsum w M + w M
    omega
theorem wsum_z {w : Nat → Nat} {s : Nat} : ∀ (M : Nat), s < M → w s + wsum (fun i => if i = s then 0 else w i) M ≤ wsum w M
  | 0, h => absurd h (Nat.not_lt_zero _)
  | M + 1, h => by
    show w s + (wsum (fun i => if i = s then 0 else w i) M + (if M = s then 0 else w M)) ≤ wsum w M + w M
    by_cases q : M = s
    · rw [if_pos q, ← q]
      have := wsum_le (w := w) (w' := fun i => if i = M then 0 else w i) M (fun i hi => by show (if i = M then 0 else w i) ≤ w i; split <;> omega)
      omega
    · rw [if_neg q]
      have := wsum_z (w := w) M (show s < M by omega)
      omega
theorem inj_sum {F Y g : Nat → Nat} {M : Nat} : ∀ (m a : Nat) (w : Nat → Nat), (∀ r, a ≤ r → r < a + m → 0 < rcost (F r) (Y r) → g r < M ∧ rcost (F r) (Y r) ≤ w (g r)) → (∀ r r', a ≤ r → r < r' → r' < a + m → 0 < rcost (F r) (Y r) → 0 < rcost (F r') (Y r') → g r ≠ g r') → rsum F Y a m ≤ wsum w M
  | 0, a, w, _, _ => Nat.zero_le _
  | m + 1, a, w, h1, h2 => by
    show rcost (F a) (Y a) + rsum F Y (a + 1) m ≤ wsum w M
    by_cases q : 0 < rcost (F a) (Y a)
    · obtain ⟨b1, b2⟩ := h1 a (Nat.le_refl _) (by omega) q
      have c := wsum_z (w := w) M b1
      have d := inj_sum (F := F) (Y := Y) (g := g) (M := M) m (a + 1) (fun i => if i = g a then 0 else w i) (fun r r1 r2 r3 => by
        obtain ⟨e1, e2⟩ := h1 r (by omega) (by omega) r3
        refine ⟨e1, ?_⟩
        show _ ≤ (if g r = g a then 0 else w (g r))
        rw [if_neg (fun z => h2 a r (Nat.le_refl _) (by omega) (by omega) q r3 z.symm)]
        exact e2) (fun r r' r1 r2 r3 => h2 r r' (by omega) r2 (by omega))
      omega
    · have d := inj_sum (F := F) (Y := Y) (g := g) (M := M) m (a + 1) w (fun r r1 r2 r3 => h1 r (by omega) (by omega) r3) (fun r r' r1 r2 r3 => h2 r r' (by omega) r2 (by omega))
      omega
section COST
variable {kd pl : Nat → Nat} {nt c p : Nat} {z : Zt} {ky bi : Nat → Int64} {mn : Nat → Nat} {l : Nat → Rr} {I : lm_I} {L : lm_L}
theorem own_head {n : Nat} {x : Rr} (h13 : z 0 n ≤ 13) (hx : x ∈ own z n) (hs : x.2.1 = 0 ∨ x.2.1 = 2 ∨ x.2.1 = 5 ∨ x.2.1 = 9 ∨ x.2.1 = 10 ∨ x.2.1 = 19 ∨ x.2.1 = 21) : x = (own z n).headD (0, 0, 0, 0) := by
  unfold own at hx ⊢
  rcases (show z 0 n = 0 ∨ z 0 n = 1 ∨ z 0 n = 2 ∨ z 0 n = 3 ∨ z 0 n = 4 ∨ z 0 n = 5 ∨ z 0 n = 6 ∨ z 0 n = 7 ∨ z 0 n = 8 ∨ z 0 n = 9 ∨ z 0 n = 10 ∨ z 0 n = 11 ∨ z 0 n = 12 ∨ z 0 n = 13 by omega) with h | h | h | h | h | h | h | h | h | h | h | h | h | h <;> rw [h] at hx ⊢ <;> simp at hx
  all_goals
    first
      | (rcases hx with rfl | rfl | rfl <;> first | rfl | (exfalso; simp at hs))
      | (rcases hx with rfl | rfl <;> first | rfl | (exfalso; simp at hs))
      | (subst hx; first | rfl | (exfalso; simp at hs))
theorem cost_s {x : Rr} (hs : x.2.1 ≤ 23) (h : 0 < rcost (cF z mn x).1 (cF z mn x).2.2.1) : (x.2.1 = 1 ∧ rcost (cF z mn x).1 (cF z mn x).2.2.1 = z 17 x.2.2.1) ∨ ((x.2.1 = 0 ∨ x.2.1 = 2 ∨ x.2.1 = 5 ∨ x.2.1 = 9 ∨ x.2.1 = 10 ∨ x.2.1 = 19 ∨ x.2.1 = 21) ∧ rcost (cF z mn x).1 (cF z mn x).2.2.1 ≤ 4) := by
  obtain ⟨k, s, nd, o⟩ := x
  replace hs : s ≤ 23 := hs
  rcases s23_c hs with rfl | rfl | rfl | rfl | rfl | rfl | rfl | rfl | rfl | rfl | rfl | rfl | rfl | rfl | rfl | rfl | rfl | rfl | rfl | rfl | rfl | rfl | rfl | rfl
  · exact Or.inr ⟨Or.inl rfl, by show 1 ≤ 4; decide⟩
  · exact Or.inl ⟨rfl, rfl⟩
  · refine Or.inr ⟨Or.inr (Or.inl rfl), ?_⟩
    show rcost (if mn nd < 11 then _ else _ : Nat × Nat × Nat × Nat).1 (if mn nd < 11 then _ else _ : Nat × Nat × Nat × Nat).2.2.1 ≤ 4
    by_cases q : mn nd < 11
    · rw [if_pos q]; exact Nat.le_refl 4
    · rw [if_neg q]; exact Nat.zero_le 4
  all_goals first
    | exact absurd (show 0 < 0 from h) (by decide)
    | exact Or.inr ⟨by simp, by show 1 ≤ 4; decide⟩
theorem RUL_23 (hT : TX kd pl nt z) {x : Rr} (hx : RUL z x) : x.2.1 ≤ 23 := by
  rcases (RUL_t hT hx).1 with q | q
  · omega
  · exact (need_sok q.2.2 (Or.inl rfl)).1
/-- all rules together -/
theorem cost_T (hx : TXX kd pl nt z) (hsq : SQ l c (RUL z)) : rsum (fun r => (cF z mn (l r)).1) (fun r => (cF z mn (l r)).2.2.1) 0 c ≤ 4 * z 30 0 + z 30 2 := by
  have hT := hx.1
  have hr : ∀ r, r < c → RUL z (l r) := fun r h => (hsq.2 (l r)).mpr ⟨r, h, rfl⟩
  have h1 := inj_sum (F := fun r => (cF z mn (l r)).1) (Y := fun r => (cF z mn (l r)).2.2.1) (g := fun r => if (l r).2.1 = 1 then z 30 0 + (l r).2.2.1 else (l r).2.2.1) (M := z 30 0 + z 30 1) c 0 (fun s => if s < z 30 0 then 4 else z 17 (s - z 30 0)) (fun r _ r2 r3 => ?_) (fun r r' _ r2 r3 r4 r5 q => ?_)
  · refine Nat.le_trans h1 ?_
    have hN : ∀ k, k ≤ z 30 0 → wsum (fun s => if s < z 30 0 then 4 else z 17 (s - z 30 0)) k ≤ 4 * k := by
      intro k
      induction k with
      | zero => intro _; exact Nat.le_refl _
      | succ k ih =>
        intro hk
        have := ih (by omega)
        show wsum _ k + (if k < z 30 0 then 4 else z 17 (k - z 30 0)) ≤ _
        rw [if_pos (by omega)]
        omega
    have hD : ∀ k, k ≤ z 30 1 → wsum (fun s => if s < z 30 0 then 4 else z 17 (s - z 30 0)) (z 30 0 + k) ≤ 4 * z 30 0 + (if k = 0 then 0 else z 16 (k - 1) + z 17 (k - 1)) := by
      intro k
      induction k with
      | zero => intro _; exact hN _ (Nat.le_refl _)
      | succ k ih =>
        intro hk
        have a := ih (by omega)
        show wsum _ (z 30 0 + k) + (if z 30 0 + k < z 30 0 then 4 else z 17 (z 30 0 + k - z 30 0)) ≤ _
        rw [if_neg (by omega), if_neg (by omega), Nat.add_sub_cancel_left, Nat.add_sub_cancel]
        by_cases s : k = 0
        · rw [if_pos s] at a; omega
        · rw [if_neg s] at a
          have := (hT.2.2.2.1 (k - 1) k (by omega) (by omega)).1
          omega
    have a := hD _ (Nat.le_refl _)
    have d1 := hx.2.2.1
    rw [if_neg (by omega)] at a
    have := (hT.2.2.1 (z 30 1 - 1) (by omega)).2.1.1
    omega
  · have R := hr r (by omega)
    rcases cost_s (RUL_23 hT R) r3 with ⟨q1, q2⟩ | ⟨q1, q2⟩
    · have := (RUL_t hT R).1
      show (if (l r).2.1 = 1 then z 30 0 + (l r).2.2.1 else (l r).2.2.1) < z 30 0 + z 30 1 ∧ rcost (cF z mn (l r)).1 (cF z mn (l r)).2.2.1 ≤ if (if (l r).2.1 = 1 then z 30 0 + (l r).2.2.1 else (l r).2.2.1) < z 30 0 then 4 else z 17 ((if (l r).2.1 = 1 then z 30 0 + (l r).2.2.1 else (l r).2.2.1) - z 30 0)
      rw [if_pos q1, q2, if_neg (by omega), Nat.add_sub_cancel_left]
      exact ⟨by omega, Nat.le_refl _⟩
    · have := (RUL_t hT R).1
      show (if (l r).2.1 = 1 then z 30 0 + (l r).2.2.1 else (l r).2.2.1) < z 30 0 + z 30 1 ∧ rcost (cF z mn (l r)).1 (cF z mn (l r)).2.2.1 ≤ if (if (l r).2.1 = 1 then z 30 0 + (l r).2.2.1 else (l r).2.2.1) < z 30 0 then 4 else z 17 ((if (l r).2.1 = 1 then z 30 0 + (l r).2.2.1 else (l r).2.2.1) - z 30 0)
      rw [if_neg (by omega), if_pos (by omega)]
      exact ⟨by omega, q2⟩
  · have R := hr r (by omega)
    have R' := hr r' (by omega)
    replace q : (if (l r).2.1 = 1 then z 30 0 + (l r).2.2.1 else (l r).2.2.1) = (if (l r').2.1 = 1 then z 30 0 + (l r').2.2.1 else (l r').2.2.1) := q
    have t1 := (RUL_t hT R).1
    have t2 := (RUL_t hT R').1
    have ne : l r ≠ l r' := fun h => by
      have := hsq.1 r r' r2 (by omega)
      rw [h] at this
      omega
    apply ne
    have hh : ∀ x, RUL z x → (x.2.1 = 0 ∨ x.2.1 = 2 ∨ x.2.1 = 5 ∨ x.2.1 = 9 ∨ x.2.1 = 10 ∨ x.2.1 = 19 ∨ x.2.1 = 21) → x = (own z x.2.2.1).headD (0, 0, 0, 0) := fun x hx hs => by
      rcases hx with ⟨d, hd, rfl⟩ | ⟨n, hn, hx⟩ | ⟨e, he, h5, h7, rfl⟩
      · exact absurd hs (by show ¬ ((1 : Nat) = 0 ∨ (1 : Nat) = 2 ∨ (1 : Nat) = 5 ∨ (1 : Nat) = 9 ∨ (1 : Nat) = 10 ∨ (1 : Nat) = 19 ∨ (1 : Nat) = 21); decide)
      · have a := own_head (hT.2.1.1 n hn).1.1 hx hs
        rw [(own_sok (hT.2.1.1 n hn).1.1 hx).2.2.1]
        exact a
      · exact absurd hs (by show ¬ ((11 : Nat) = 0 ∨ (11 : Nat) = 2 ∨ (11 : Nat) = 5 ∨ (11 : Nat) = 9 ∨ (11 : Nat) = 10 ∨ (11 : Nat) = 19 ∨ (11 : Nat) = 21); decide)
    have hd : ∀ x, RUL z x → x.2.1 = 1 → x = dclR z x.2.2.1 := fun x hx hs => by
      rcases hx with ⟨d, hd, rfl⟩ | ⟨n, hn, hx⟩ | ⟨e, he, h5, h7, rfl⟩
      · rfl
      · exact absurd hs (own_sok (hT.2.1.1 n hn).1.1 hx).1
      · exact absurd (show (11 : Nat) = 1 from hs) (by decide)
    rcases cost_s (RUL_23 hT R) r4 with ⟨q1, -⟩ | ⟨q1, -⟩ <;> rcases cost_s (RUL_23 hT R') r5 with ⟨q2, -⟩ | ⟨q2, -⟩
    · rw [if_pos q1, if_pos q2] at q
      rw [hd _ R q1, hd _ R' q2, show (l r).2.2.1 = (l r').2.2.1 by omega]
    · rw [if_pos q1, if_neg (by omega)] at q
      omega
    · rw [if_neg (by omega), if_pos q2] at q
      omega
    · rw [if_neg (by omega), if_neg (by omega)] at q
      rw [hh _ R q1, hh _ R' q2, q]
/-- the class holds the table -/
theorem c_rtab (hx : TXX kd pl nt z) (hmn : ∀ n, n < z 30 0 → z 0 n = 0 → mnz ky bi z n < 11 + z 30 2) (h : cOK pl ky bi I L p z l c) : rtab I (p + 27) c (2 * z 30 0 + z 30 2 + 1) (fun r => (cF z (mnz ky bi z) (l r)).1) (fun r => (cF z (mnz ky bi z) (l r)).2.1) (fun r => (cF z (mnz ky bi z) (l r)).2.2.1) (fun r => (cF z (mnz ky bi z) (l r)).2.2.2) := by
  obtain ⟨hbl, hnd, hb, hk, hra, hsq⟩ := h
  have ht := tz_tok hx hsq hmn
  refine ⟨hra.1, by have q : c ≤ 160 := ht.2.2.2.2.1; show c ≤ 168; omega, ⟨z 30 0, z 30 2, hbl.1.2.1, hbl.1.2.2, rfl⟩, fun r hr => ⟨?_, (cF_row hx.1 ht hr).2.1⟩⟩
  obtain ⟨a1, a2, a3, a4, a5, a6⟩ := hra.2 r hr
  obtain ⟨b1, b2, b3, b4⟩ := cC_cF (z := z) (mn := mnz ky bi z) (RUL_23 hx.1 ((hsq.2 (l r)).mpr ⟨r, hr, rfl⟩))
  exact ⟨a3.trans b1, fun _ => ⟨a4.trans b2, a5.trans b3⟩, fun q1 q2 => a6.trans (b4 q1 q2)⟩
end COST
