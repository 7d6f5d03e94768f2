/-! ===== the table of a text ===== -/
def tz (z : Zt) (mn : Nat → Nat) (l : Nat → Rr) (c : Nat) : Nat → Nat → Nat := fun k i =>
  if k = 4 then (if z 0 i = 4 then z 4 i - 11 else mn i) else if k = 11 then z 18 i else if k = 12 then z 16 i else if k = 13 then z 17 i else if k = 14 then z 22 i else if k = 15 then z 23 i
  else if k = 17 then (l i).2.1 else if k = 18 then (l i).2.2.1 else if k = 19 then (l i).2.2.2 else if k = 20 then (if i = 0 then z 30 0 else if i = 1 then z 30 1 else if i = 2 then z 30 2 else c) else z k i
section TABLE
variable {kd pl : Nat → Nat} {nt c : Nat} {z : Zt} {ky bi : Nat → Int64} {mn : Nat → Nat} {l : Nat → Rr}
theorem own_sok {n : Nat} {x : Rr} (h13 : z 0 n ≤ 13) (hx : x ∈ own z n) : x.2.1 ≠ 1 ∧ x.2.1 ≠ 11 ∧ x.2.2.1 = n ∧ sok x.2.1 (z 0 n) := by
  unfold own at hx
  rcases (show z 0 n = 0 ∨ z 0 n = 1 ∨ z 0 n = 2 ∨ z 0 n = 3 ∨ z 0 n = 4 ∨ z 0 n = 5 ∨ z 0 n = 6 ∨ z 0 n = 7 ∨ z 0 n = 8 ∨ z 0 n = 9 ∨ z 0 n = 10 ∨ z 0 n = 11 ∨ z 0 n = 12 ∨ z 0 n = 13 by omega) with h | h | h | h | h | h | h | h | h | h | h | h | h | h <;> rw [h] at hx ⊢ <;> simp at hx
  all_goals
    first
      | (rcases hx with rfl | rfl | rfl <;> simp [sok])
      | (rcases hx with rfl | rfl <;> simp [sok])
      | (subst hx; simp [sok])
theorem D_le (hT : TX kd pl nt z) : z 30 1 ≤ z 30 0 := by
  apply Classical.byContradiction
  intro h
  have h8 := hT.2.2.1
  have inj : ∀ i j, i < z 30 1 → j < z 30 1 → z 18 i = z 18 j → i = j := fun i j hi hj q => by
    have a := (h8 i hi).1.2
    have b := (h8 j hj).1.2
    rw [q, b] at a
    exact a.symm
  obtain ⟨i, i1, i2⟩ := pig (z 30 0) (z 18) (fun i hi => (h8 i (by omega)).1.1) (fun i j hi hj => inj i j (by omega) (by omega)) (z 18 (z 30 0)) (h8 _ (by omega)).1.1
  have := inj i (z 30 0) (by omega) (by omega) i2
  omega
theorem RUL_t (hT : TX kd pl nt z) {x : Rr} (hx : RUL z x) : ((x.2.1 = 1 ∧ x.2.2.1 < z 30 1) ∨ (x.2.1 ≠ 1 ∧ x.2.2.1 < z 30 0 ∧ sok x.2.1 (z 0 x.2.2.1))) ∧ (x.2.1 = 11 → x.2.2.2 < z 30 0) := by
  rcases hx with ⟨d, hd, rfl⟩ | ⟨n, hn, hx⟩ | ⟨e, he, h5, h7, rfl⟩
  · exact ⟨Or.inl ⟨rfl, hd⟩, fun q => absurd (show (1 : Nat) = 11 from q) (by decide)⟩
  · obtain ⟨a1, a2, a3, a4⟩ := own_sok (hT.2.1.1 n hn).1.1 hx
    rw [a3]
    exact ⟨Or.inr ⟨a1, hn, a4⟩, fun q => absurd q a2⟩
  · have h5' : z 5 e < z 30 0 := by
      rcases hT.2.1.2.1 e he with q | q
      · omega
      · exact q.2.1
    exact ⟨Or.inr ⟨by show (11 : Nat) ≠ 1; decide, h5', by show sok 11 (z 0 (z 5 e)); rw [h7]; unfold sok; decide⟩, fun _ => he⟩
/-- the table is one of a text -/
theorem tz_tok (hx : TXX kd pl nt z) (hsq : SQ l c (RUL z)) (hmn : ∀ n, n < z 30 0 → z 0 n = 0 → mn n < 11 + z 30 2) : tok (tz z mn l c) := by
  obtain ⟨hT, hc, hD, ho, hb, hc2⟩ := hx
  have n80 : z 30 0 ≤ 80 := by have := hT.1.1.2.1; have := hT.1.2; omega
  have w := hT.1.1.2.2.2
  refine ⟨n80, by show z 30 2 ≤ 22; omega, by show z 30 1 ≤ 6; omega, D_le hT, card_T hc2 l c _ hsq (fun _ h => h), fun n hn => ?_, fun d hd => ?_, fun r hr => ?_⟩
  · replace hn : n < z 30 0 := hn
    obtain ⟨a1, a2, a3, a4, a5, a6, a7, a8⟩ := hT.2.1.1 n hn
    obtain ⟨q1, q2, q3, -⟩ := hT.2.1.2.2.1 n (Nat.zero_le _) hn
    refine ⟨a1.1, fun h => ?_, fun h => ?_, fun h => ?_, fun h => ?_, fun h => ?_⟩
    · replace h : 3 ≤ z 0 n ∧ z 0 n ≠ 7 := h
      rw [if_pos h] at q1
      exact q1.2
    · replace h : 3 ≤ z 0 n ∧ z 0 n ≠ 7 ∧ z 0 n ≠ 4 := h
      rw [if_pos h] at q2
      exact q2.2
    · replace h : z 0 n = 5 := h
      rw [if_pos h] at q3
      exact q3.1.2
    · replace h : z 0 n = 0 := h
      show (if z 0 n = 4 then z 4 n - 11 else mn n) < 11 + z 30 2
      rw [if_neg (by omega)]
      exact hmn n hn h
    · replace h : z 0 n = 4 := h
      show (if z 0 n = 4 then z 4 n - 11 else mn n) < z 30 2
      rw [if_pos h]
      have := a7 h
      omega
  · replace hd : d < z 30 1 := hd
    obtain ⟨⟨d1, d2⟩, d3, -⟩ := hT.2.2.1 d hd
    exact ⟨d1, d3.1⟩
  · exact RUL_t hT ((hsq.2 (l r)).mpr ⟨r, hr, rfl⟩)
/-- meanings are within the text -/
theorem mnz_B (hT : TX kd pl nt z) (ho : hot z) (hz : ∀ n, n < z 30 0 → z 0 n = 0 → mgz ky bi z n ≠ 1000) : ∀ n, n < z 30 0 → z 0 n = 0 → mnz ky bi z n < 11 + z 30 2 := fun n hn h0 => by
  have a := hz n hn h0
  unfold mnz
  rw [if_pos h0]
  unfold mgz at a ⊢
  unfold cmg at a ⊢
  split
  · rename_i q
    rcases fls_ge (P := fun b => decide (kbz ky z b = ky (z 8 n))) (clz z n) with q2 | ⟨q2, -⟩
    · omega
    · have := cch_mem (clz z n) (z 10 n) (node_ch hT ho hn).1.1 _ q2
      omega
  · rename_i q
    rw [if_neg q] at a
    unfold dcm at a ⊢
    split
    · rename_i q3
      rcases fup_ge (P := fun d => decide (kbz ky z (z 16 d) = ky (z 8 n))) (z 30 1) 0 with q4 | ⟨-, q5, -⟩
      · omega
      · have := (hT.2.2.1 _ (show fup (fun d => decide (kbz ky z (z 16 d) = ky (z 8 n))) 0 (z 30 1) < z 30 1 by omega)).2.1.1
        omega
    · rename_i q3
      rw [if_neg q3] at a
      unfold bim at a ⊢
      rcases fup_ge (P := fun k => decide (bi k = ky (z 8 n))) 11 0 with q4 | ⟨-, q5, -⟩
      · exact absurd q4 a
      · omega
end TABLE
