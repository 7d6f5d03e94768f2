section CARD
variable {kd pl : Nat → Nat} {pr : Nat → Bool} {nt f r : Nat} {z z' : Zt}
theorem ch_sD (ht : tko kd pl nt) (hf : 148 ≤ f) (hw : WFd nt z) (q : Nat × Zt) (h : sD kd pl pr f z = .inr q) : CHP q.2 (z 30 0) (q.2 30 0) := by
  unfold sD at h
  split at h
  · exact (flt_r h).elim
  rename_i h0
  have n0 : kd (z 30 4) = 0 := by omega
  have c6 : z 30 1 < 6 := by omega
  obtain ⟨r0, z1, hx, h2⟩ := rb_r h
  have hwp := wfp_zd ht hw n0 c6
  obtain ⟨⟨hw1, ⟨y0, -⟩, -⟩, k0⟩ := P_lpP ht 18 _ _ _ hwp hx
  obtain ⟨⟨x1, x2, x3, x4, x5, x6⟩, x7, x8⟩ := id hw1
  have q0 : zd z 30 0 = z 30 0 := zd_o (by omega) (by omega) (by omega) (by omega)
  rw [q0] at y0
  split at h2
  · exact (flt_r h2).elim
  rename_i h15
  have k15 : kd (z1 30 4) = 15 := Classical.not_not.mp h15
  obtain ⟨r, z2, hx2, h3⟩ := rb_r h2
  cases h3
  obtain ⟨k, hk⟩ : ∃ k, k = z1 30 2 - 1 - z1 16 (z 30 1) := ⟨_, rfl⟩
  rw [← hk] at hx2
  obtain ⟨zb, hzb⟩ : ∃ zb, zb = zu z1 17 (z 30 1) k := ⟨_, rfl⟩
  rw [← hzb] at hx2
  have zbo : ∀ c m, (c ≠ 17 ∨ m ≠ z 30 1) → zb c m = z1 c m := fun c m h => by rw [hzb, zu_n h]
  have tl := tk_lt ht x1 (by omega)
  have a4 : adv zb 30 4 = z1 30 4 + 1 := by rw [adv_4, zbo _ _ (by omega)]
  have ao : ∀ c m, (c ≠ 30 ∨ m ≠ 4) → (c ≠ 17 ∨ m ≠ z 30 1) → adv zb c m = z1 c m := fun c m h h2 => by rw [adv_n h, zbo c m h2]
  have hwa : WFz nt 0 (adv zb) := by
    unfold WFz
    rw [a4, ao 30 3 (by omega) (by omega), ao 30 0 (by omega) (by omega), ao 30 2 (by omega) (by omega), ao 30 1 (by omega) (by omega), ao 30 5 (by omega) (by omega), ao 30 6 (by omega) (by omega)]
    exact ⟨by omega, by omega, by omega, by omega, ⟨by omega, by omega, by omega, by omega⟩, by omega⟩
  have c := K_all (pr := pr) ht f 0 0 (adv zb) _ (by omega) (by omega) hwa hx2
  rw [ao 30 0 (by omega) (by omega), y0] at c
  have c : CHP z2 (z 30 0) (z2 30 0) := c
  show CHP (zu z2 18 (z 30 1) r) (z 30 0) (zu z2 18 (z 30 1) r 30 0)
  rw [zu_n (by omega)]
  exact chp_e c (fun c m hc => zu_n (by omega))
theorem ch_step (hT : TX kd pl nt z) (c : CHP z 0 (z 30 0)) (hs : SDI kd pl nt z r z') (c' : CHP z' (z 30 0) (z' 30 0)) : CHP z' 0 (z' 30 0) := by
  obtain ⟨⟨hw, h03⟩, ⟨t1, t2, t3, -⟩, -⟩ := hT
  obtain ⟨⟨⟨⟨w4, w0, w3, w2, w1⟩, wn, -⟩, hw', h03'⟩, -, -, sg, ch, -⟩ := hs
  obtain ⟨⟨s1, s2, s3⟩, sr, snd, spr, -, -⟩ := sg
  have n80 : z' 30 0 ≤ 80 := by have := hw'.2.1; omega
  intro m _ m2 k7
  by_cases s : m < z 30 0
  · rw [wn 0 m (by decide) s] at k7
    rw [wn 1 m (by decide) s, wn 2 m (by decide) s, wn 3 m (by decide) s]
    obtain ⟨h1, h2, h3⟩ := c m (Nat.zero_le _) s k7
    obtain ⟨q1, q2, q3, -⟩ := t3 m (Nat.zero_le _) s
    have c1 : z 1 m < z 30 0 ∨ z 1 m = 1000 := by
      split at q1
      · exact Or.inl q1.2
      · exact Or.inr (q1 k7)
    have c2 : z 2 m < z 30 0 ∨ z 2 m = 1000 := by
      split at q2
      · exact Or.inl q2.2
      · exact Or.inr q2
    have c3 : z 3 m < z 30 0 ∨ z 3 m = 1000 := by
      split at q3
      · exact Or.inl q3.1.2
      · exact Or.inr q3
    refine ⟨fun e _ e2 => ?_, h2, h3⟩
    by_cases se : e < z 30 0
    · rw [wn 5 e (by decide) se]
      exact h1 e (Nat.zero_le _) se
    · have p : z' 5 e = 1000 ∨ z 30 0 ≤ z' 5 e := by
        by_cases er : e = r
        · rw [er]; exact Or.inl sr
        · exact Or.inr (spr e (by omega) e2 er).1
      constructor
      · intro q; omega
      · intro q; omega
  · obtain ⟨h1, h2, h3⟩ := c' m (by omega) m2 k7
    obtain ⟨q1, q2, q3, -⟩ := ch m (by omega) m2
    have c1 : z 30 0 ≤ z' 1 m := by
      split at q1
      · exact q1.1
      · have := q1 k7; omega
    have c2 : z 30 0 ≤ z' 2 m := by
      split at q2
      · exact q2.1
      · omega
    have c3 : z 30 0 ≤ z' 3 m := by
      split at q3
      · exact q3.1.1
      · omega
    refine ⟨fun e _ e2 => ?_, h2, h3⟩
    by_cases se : e < z 30 0
    · rw [wn 5 e (by decide) se]
      have p : z 5 e = 1000 ∨ z 5 e < z 30 0 := by
        rcases t2 e se with x | x
        · exact Or.inl x.2
        · exact Or.inr x.2.1
      constructor
      · intro q; omega
      · intro q; omega
    · exact h1 e (by omega) e2
/-- what a whole text leaves -/
theorem T_all (ht : tko kd pl nt) (hf : 148 ≤ f) : ∀ (m : Nat) (z : Zt) (q : Nat × Zt), TX kd pl nt z → CHP z 0 (z 30 0) → sT kd pl pr f m z = .inr q → TX kd pl nt q.2 ∧ CHP q.2 0 (q.2 30 0) ∧ 1 ≤ q.2 30 1 := by
  intro m
  induction m with
  | zero => intro z q _ _ h; cases h
  | succ m ih =>
    intro z q hT hc h
    unfold sT at h
    obtain ⟨r0, z1, h1, h2⟩ := rb_r h
    have hs := (D_all (pr := pr) ht hf hT.1.1 hT.1.2 _ h1).1
    have c1 := ch_sD (pr := pr) ht hf hT.1.1 _ h1
    replace hs : SDI kd pl nt z r0 z1 := hs
    replace c1 : CHP z1 (z 30 0) (z1 30 0) := c1
    have T1 := TX_step ht hT hs
    have C1 := ch_step hT hc hs c1
    split at h2
    · rename_i k14
      refine ih (adv z1) q (TX_adv ht T1 (by rw [k14]; decide)) ?_ h2
      rw [adv_30 (by decide)]
      exact chp_e C1 (fun c m hc => adv_n (by omega))
    · split at h2
      · cases h2
        have e := hs.1.1.1.2.2.2.2
        exact ⟨T1, C1, by show 1 ≤ z1 30 1; omega⟩
      · exact (flt_r h2).elim
/-- the rule that is counted at a number -/
def inR (z : Zt) (k : Nat) : Rr :=
  if k < z 30 0 then (own z k).headD (0, 0, 0, 0) else if z 5 (k - z 30 0) = 1000 then dclR z (z 14 (k - z 30 0)) else if z 0 (z 5 (k - z 30 0)) = 7 then prtR z (k - z 30 0)
  else if k - z 30 0 = z 1 (z 5 (k - z 30 0)) then (own z (z 5 (k - z 30 0))).getD 1 (0, 0, 0, 0)
  else if k - z 30 0 = z 2 (z 5 (k - z 30 0)) ∧ z 0 (z 5 (k - z 30 0)) = 5 then (own z (z 5 (k - z 30 0))).getD 1 (0, 0, 0, 0) else (own z (z 5 (k - z 30 0))).getD 2 (0, 0, 0, 0)
theorem inR_1 (hT : TX kd pl nt z) (hc : CHP z 0 (z 30 0)) {n : Nat} (hn : n < z 30 0) (h8 : 8 ≤ z 0 n) : (z 1 n < z 30 0 ∧ inR z (z 30 0 + z 1 n) = (own z n).getD 1 (0, 0, 0, 0)) ∧ z 2 n < z 30 0 ∧ inR z (z 30 0 + z 2 n) = (own z n).getD 2 (0, 0, 0, 0) := by
  obtain ⟨⟨hw, h03⟩, ⟨t1, t2, t3, -⟩, -⟩ := hT
  have n80 : z 30 0 ≤ 80 := by have := hw.2.1; omega
  obtain ⟨q1, q2, -⟩ := t3 n (Nat.zero_le _) hn
  rw [if_pos (by omega)] at q1 q2
  obtain ⟨h1, h2, h3⟩ := hc n (Nat.zero_le _) hn (by omega)
  have p1 := (h1 (z 1 n) (Nat.zero_le _) q1.2).mpr (Or.inl rfl)
  have p2 := (h1 (z 2 n) (Nat.zero_le _) q2.2).mpr (Or.inr (Or.inl rfl))
  have ne := h2 (by omega)
  refine ⟨⟨q1.2, ?_⟩, q2.2, ?_⟩
  · unfold inR
    rw [Nat.add_sub_cancel_left, p1, if_neg (by omega), if_neg (by omega), if_neg (by omega), if_pos rfl]
  · unfold inR
    rw [Nat.add_sub_cancel_left, p2, if_neg (by omega), if_neg (by omega), if_neg (by omega), if_neg (by omega), if_neg (by omega)]
theorem inR_5 (hT : TX kd pl nt z) (hc : CHP z 0 (z 30 0)) {n : Nat} (hn : n < z 30 0) (h8 : z 0 n = 5) : (z 2 n < z 30 0 ∧ inR z (z 30 0 + z 2 n) = (own z n).getD 1 (0, 0, 0, 0)) ∧ z 3 n < z 30 0 ∧ inR z (z 30 0 + z 3 n) = (own z n).getD 2 (0, 0, 0, 0) := by
  obtain ⟨⟨hw, h03⟩, ⟨t1, t2, t3, -⟩, -⟩ := hT
  have n80 : z 30 0 ≤ 80 := by have := hw.2.1; omega
  obtain ⟨-, q2, q3, -⟩ := t3 n (Nat.zero_le _) hn
  rw [if_pos (by omega)] at q2 q3
  obtain ⟨h1, h2, h3⟩ := hc n (Nat.zero_le _) hn (by omega)
  have ne := h2 (by omega)
  have ne3 := h3 (by omega)
  have p2 := q3.2.1.1
  have p3 := q3.2.2.1
  refine ⟨⟨q2.2, ?_⟩, q3.1.2, ?_⟩
  · unfold inR
    rw [Nat.add_sub_cancel_left, p2, if_neg (by omega), if_neg (by omega), if_neg (by omega), if_neg (by omega), if_pos ⟨rfl, h8⟩]
  · unfold inR
    rw [Nat.add_sub_cancel_left, p3, if_neg (by omega), if_neg (by omega), if_neg (by omega), if_neg (by omega), if_neg (by omega)]
theorem RUL_in (hT : TX kd pl nt z) (hc : CHP z 0 (z 30 0)) {x : Rr} (hx : RUL z x) : ∃ k, k < 2 * z 30 0 ∧ inR z k = x := by
  have n80 : z 30 0 ≤ 80 := by have := hT.1.1.2.1; have := hT.1.2; omega
  rcases hx with ⟨d, hd, rfl⟩ | ⟨n, hn, hx⟩ | ⟨e, he, h5, h7, rfl⟩
  · obtain ⟨⟨d1, d2⟩, -⟩ := hT.2.2.1 d hd
    refine ⟨z 30 0 + z 18 d, by omega, ?_⟩
    have p := hT.2.1.2.1 (z 18 d) d1
    rw [show prt z (z 18 d) = ((z 18 d = z 18 (z 14 (z 18 d)) ∧ z 5 (z 18 d) = 1000) ∨ (z 18 d ≠ z 18 (z 14 (z 18 d)) ∧ z 5 (z 18 d) < z 30 0 ∧ z 14 (z 5 (z 18 d)) = z 14 (z 18 d) ∧ lvz z (z 5 (z 18 d)) < lvz z (z 18 d))) from rfl, d2] at p
    have p5 : z 5 (z 18 d) = 1000 := by
      rcases p with p | p
      · exact p.2
      · exact absurd rfl p.1
    unfold inR
    rw [Nat.add_sub_cancel_left, if_neg (by omega), if_pos p5, d2]
  · have hb : ∀ y l, own z n = y :: l → inR z n = y := fun y l h => by
      unfold inR
      rw [if_pos hn, h]; rfl
    have one : ∀ y, own z n = [y] → ∃ k, k < 2 * z 30 0 ∧ inR z k = x := fun y h => by
      rw [h] at hx
      rw [List.mem_singleton.mp hx]
      exact ⟨n, by omega, hb y [] h⟩
    have k13 := (hT.2.1.1 n hn).1.1
    by_cases s8 : 8 ≤ z 0 n
    · obtain ⟨⟨a1, a2⟩, b1, b2⟩ := inR_1 hT hc hn s8
      have two : ∀ y1 y2 l, own z n = y1 :: y2 :: l → (∀ y, y ∈ l → l = [y]) → ∃ k, k < 2 * z 30 0 ∧ inR z k = x := fun y1 y2 l h hl => by
        have hx' := hx
        rw [h] at hx' a2 b2
        rcases List.mem_cons.mp hx' with q | q
        · rw [q]; exact ⟨n, by omega, hb _ _ h⟩
        · rcases List.mem_cons.mp q with q | q
          · rw [q]; exact ⟨z 30 0 + z 1 n, by omega, a2⟩
          · have el := hl x q
            rw [el] at b2
            exact ⟨z 30 0 + z 2 n, by omega, b2⟩
      have h9 : z 0 n = 8 ∨ z 0 n = 9 ∨ z 0 n = 10 ∨ z 0 n = 11 ∨ z 0 n = 12 ∨ z 0 n = 13 := by omega
      rcases h9 with q | q | q | q | q | q <;> exact two _ _ _ (by unfold own; rw [q]; rfl) (by intro y hy; simp at hy; try rw [hy])
    · by_cases s5 : z 0 n = 5
      · obtain ⟨⟨a1, a2⟩, b1, b2⟩ := inR_5 hT hc hn s5
        have h : own z n = [(4 * z 8 n + 1, 6, n, 1000), (4 * z 9 (z 2 n) + 1, 7, n, 1000), (4 * z 9 (z 3 n) + 1, 8, n, 1000)] := by unfold own; rw [s5]; rfl
        rw [h] at hx a2 b2
        rcases List.mem_cons.mp hx with q | q
        · rw [q]; exact ⟨n, by omega, hb _ _ h⟩
        · rcases List.mem_cons.mp q with q | q
          · rw [q]; exact ⟨z 30 0 + z 2 n, by omega, a2⟩
          · rw [List.mem_singleton.mp q]; exact ⟨z 30 0 + z 3 n, by omega, b2⟩
      · have h9 : z 0 n = 0 ∨ z 0 n = 1 ∨ z 0 n = 2 ∨ z 0 n = 3 ∨ z 0 n = 4 ∨ z 0 n = 6 ∨ z 0 n = 7 := by omega
        rcases h9 with q | q | q | q | q | q | q <;> exact one _ (by unfold own; rw [q]; rfl)
  · refine ⟨z 30 0 + e, by omega, ?_⟩
    unfold inR
    rw [Nat.add_sub_cancel_left, if_neg (by omega), if_neg (by omega), if_pos h7]
theorem card2_T (hT : TX kd pl nt z) (hc : CHP z 0 (z 30 0)) : card2 z := by
  intro l c h1 h2
  have n80 : z 30 0 ≤ 80 := by have := hT.1.1.2.1; have := hT.1.2; omega
  apply Classical.byContradiction
  intro h
  have hin := fun i (hi : i < c) => RUL_in hT hc (h2 i hi)
  obtain ⟨g, hg⟩ : ∃ g : Nat → Nat, ∀ i, i < c → g i < 2 * z 30 0 ∧ inR z (g i) = l i := by
    refine ⟨fun i => if hi : i < c then Classical.choose (hin i hi) else 0, fun i hi => ?_⟩
    show (if hi : i < c then Classical.choose (hin i hi) else 0) < 2 * z 30 0 ∧ inR z (if hi : i < c then Classical.choose (hin i hi) else 0) = l i
    rw [dif_pos hi]
    exact Classical.choose_spec (hin i hi)
  have inj : ∀ i j, i < c → j < c → g i = g j → i = j := fun i j hi hj q => by
    have a := (hg i hi).2
    have b := (hg j hj).2
    rw [q, b] at a
    rcases Nat.lt_trichotomy i j with s | s | s
    · exact absurd a.symm (h1 i j s hj)
    · exact s
    · exact absurd a (h1 j i s hi)
  obtain ⟨i, i1, i2⟩ := pig (2 * z 30 0) g (fun i hi => (hg i (by omega)).1) (fun i j hi hj => inj i j (by omega) (by omega)) (g (2 * z 30 0)) (hg _ (by omega)).1
  have := inj i (2 * z 30 0) (by omega) (by omega) i2
  omega
theorem card_T (h : card2 z) : card z := fun l c M hs hM => h l c (fun i j hij hj q => by have := hs.1 i j hij hj; rw [q] at this; omega) (fun i hi => hM _ ((hs.2 (l i)).mpr ⟨i, hi, rfl⟩))
end CARD
