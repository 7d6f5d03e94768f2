section AGREEK
variable {z : Zt} {kb ky bi : Nat → Int64} {kd pl : Nat → Nat} {nt : Nat} {key : Int64}
theorem mg_eqk (hT : TX kd pl nt z) (ho : hot z) {n : Nat} (hn : n < z 30 0) (hnw : ∀ b, b < z 30 2 → wrM (kbz ky z) bi (z 22) (z 23) b = false) : cmg (kbz ky z) bi (z 16) (z 30 1) key (clz z n) = mmg (kbz ky z) bi (z 22) (z 23) (z 30 2) key (z 14 n) (lam z (z 10 n)) := by
  obtain ⟨-, -, lm⟩ := node_ch hT ho hn
  have hT' := hT
  obtain ⟨⟨hw, h03⟩, ⟨t1, -⟩, t8, t9, t10⟩ := hT
  obtain ⟨v1, v2, v3, v4, v5, v6⟩ := hw
  have hd := (t1 n hn).2.2.2.2.1
  obtain ⟨-, ⟨d3, d4, d5⟩, d6⟩ := t8 _ hd
  -- two binders of one sort and one key
  have two : ∀ b c, b < c → c < z 30 2 → kbz ky z b = kbz ky z c → z 22 b = z 22 c → z 22 c < 2 → (z 22 c = 0 ∨ z 23 b = z 23 c) → False := fun b c h1 h2 h3 h4 h5 h6 => by
    have w := hnw c h2
    unfold wrM at w
    rw [if_pos h5, (exU_iff _ _).mpr ⟨b, by omega, by omega, decide_eq_true ⟨h3, h4, h6⟩⟩, Bool.true_or] at w
    cases w
  unfold cmg mmg
  have lno : ∀ b, b ∈ lam z (z 10 n) → b < 1000 := fun b hb => by have := (lm b hb).1; omega
  by_cases sA : fls (fun b => decide (kbz ky z b = key)) (lam z (z 10 n)) < 1000
  · have e1 : fls (fun b => decide (kbz ky z b = key)) (clz z n) = fls (fun b => decide (kbz ky z b = key)) (lam z (z 10 n)) := fls_app _ _ sA
    rw [e1, if_pos sA, if_pos sA]
  · have gA := fls_ge (P := fun b => decide (kbz ky z b = key)) (lam z (z 10 n))
    have nA : fls (fun b => decide (kbz ky z b = key)) (lam z (z 10 n)) = 1000 := by
      rcases gA with q | ⟨q, -⟩
      · exact q
      · have := lno _ q; omega
    have e1 : fls (fun b => decide (kbz ky z b = key)) (clz z n) = fls (fun b => decide (kbz ky z b = key)) (pds (z 16 (z 14 n)) (z 17 (z 14 n))) := fls_app2 _ _ ((fls_no _ lno).mp nA)
    have gP := fls_ge (P := fun b => decide (kbz ky z b = key)) (pds (z 16 (z 14 n)) (z 17 (z 14 n)))
    have pno : ∀ b, b ∈ pds (z 16 (z 14 n)) (z 17 (z 14 n)) → b < 1000 := fun b hb => by have := (pds_mem _ _ _).mp hb; omega
    have fP := fls_no (P := fun b => decide (kbz ky z b = key)) _ pno
    have par : ∀ b, b ∈ pds (z 16 (z 14 n)) (z 17 (z 14 n)) → b < z 30 2 ∧ z 22 b = 1 ∧ z 23 b = z 14 n := fun b hb => by
      have hq := (pds_mem _ _ _).mp hb
      obtain ⟨-, -, -, e22, e23⟩ := d6 (b - z 16 (z 14 n)) (by omega)
      rw [show z 16 (z 14 n) + (b - z 16 (z 14 n)) = b by omega] at e22 e23
      rw [if_neg (by omega)] at e22
      exact ⟨by omega, e22, e23⟩
    rw [e1, if_neg sA]
    have g1 := fup_ge (P := pS (kbz ky z) (z 22) (z 23) key (z 14 n) 1) (z 30 2) 0
    by_cases s1 : fup (pS (kbz ky z) (z 22) (z 23) key (z 14 n) 1) 0 (z 30 2) < 1000
    · rcases g1 with q | ⟨-, q2, q3⟩
      · omega
      · obtain ⟨p1, p2, p3⟩ := of_decide_eq_true q3
        generalize fup (pS (kbz ky z) (z 22) (z 23) key (z 14 n) 1) 0 (z 30 2) = b1 at *
        have p3 : z 23 b1 = z 14 n := by omega
        have m1 : b1 ∈ pds (z 16 (z 14 n)) (z 17 (z 14 n)) := (pds_mem _ _ _).mpr (by have := (bd_0 hT' (show b1 < z 30 2 by omega)).2.1.mp p1; rw [p3] at this; exact this)
        rcases gP with q | ⟨r1, r2⟩
        · exact absurd (decide_eq_true p2) (fP.mp q b1 m1)
        · generalize fls (fun b => decide (kbz ky z b = key)) (pds (z 16 (z 14 n)) (z 17 (z 14 n))) = b2 at *
          have r2 := of_decide_eq_true r2
          obtain ⟨u1, u2, u3⟩ := par b2 r1
          have eb : b2 = b1 := by
            rcases Nat.lt_trichotomy b2 b1 with s | s | s
            · exact (two b2 b1 s (by omega) (r2.trans p2.symm) (u2.trans p1.symm) (by omega) (Or.inr (u3.trans p3.symm))).elim
            · exact s
            · exact (two b1 b2 s u1 (p2.trans r2.symm) (p1.trans u2.symm) (by omega) (Or.inr (p3.trans u3.symm))).elim
          rw [eb, if_pos s1, if_pos s1]
    · rw [if_neg s1]
      have f1 := (fup_no (P := pS (kbz ky z) (z 22) (z 23) key (z 14 n) 1) (z 30 2) 0 (by omega)).mp (by omega)
      have nP : ¬ (fls (fun b => decide (kbz ky z b = key)) (pds (z 16 (z 14 n)) (z 17 (z 14 n))) < 1000) := fun hl => by
        rcases gP with q | ⟨r1, r2⟩
        · omega
        · obtain ⟨u1, u2, u3⟩ := par _ r1
          exact f1 _ (by omega) (by omega) (decide_eq_true ⟨u2, of_decide_eq_true r2, Or.inr u3⟩)
      rw [if_neg nP]
      unfold dcm
      have g0 := fup_ge (P := pS (kbz ky z) (z 22) (z 23) key (z 14 n) 0) (z 30 2) 0
      have gD := fup_ge (P := fun d => decide (kbz ky z (z 16 d) = key)) (z 30 1) 0
      have fD := fup_no (P := fun d => decide (kbz ky z (z 16 d) = key)) (z 30 1) 0 (by omega)
      have st0 : ∀ d, d < z 30 1 → z 16 d < z 30 2 ∧ z 22 (z 16 d) = 0 := fun d q => by
        obtain ⟨-, ⟨c3, -⟩, c6⟩ := t8 d q
        obtain ⟨-, -, -, e22, -⟩ := c6 0 (by omega)
        rw [Nat.add_zero, if_pos rfl] at e22
        exact ⟨by omega, e22⟩
      by_cases s0 : fup (pS (kbz ky z) (z 22) (z 23) key (z 14 n) 0) 0 (z 30 2) < 1000
      · rw [if_pos s0]
        rcases g0 with q | ⟨-, q2, q3⟩
        · omega
        · obtain ⟨p1, p2, -⟩ := of_decide_eq_true q3
          generalize fup (pS (kbz ky z) (z 22) (z 23) key (z 14 n) 0) 0 (z 30 2) = b0 at *
          have hb0 := bd_0 hT' (show b0 < z 30 2 by omega)
          have e0 := hb0.1.mp p1
          rcases gD with q | ⟨-, r2, r3⟩
          · exact absurd (decide_eq_true (by rw [← e0]; exact p2)) (fD.mp q (z 23 b0) (by omega) (by have := hb0.2.2.2; omega))
          · generalize fup (fun d => decide (kbz ky z (z 16 d) = key)) 0 (z 30 1) = d1 at *
            have r3 := of_decide_eq_true r3
            obtain ⟨u1, u2⟩ := st0 d1 (by omega)
            rw [if_pos (by omega)]
            have eb : z 16 d1 = b0 := by
              rcases Nat.lt_trichotomy (z 16 d1) b0 with s | s | s
              · exact (two _ b0 s (by omega) (r3.trans p2.symm) (u2.trans p1.symm) (by omega) (Or.inl p1)).elim
              · exact s
              · exact (two b0 _ s u1 (p2.trans r3.symm) (p1.trans u2.symm) (by omega) (Or.inl u2)).elim
            rw [eb]
      · rw [if_neg s0]
        have f0 := (fup_no (P := pS (kbz ky z) (z 22) (z 23) key (z 14 n) 0) (z 30 2) 0 (by omega)).mp (by omega)
        rw [if_neg]
        intro hl
        rcases gD with q | ⟨-, r2, r3⟩
        · omega
        · obtain ⟨u1, u2⟩ := st0 _ (show fup (fun d => decide (kbz ky z (z 16 d) = key)) 0 (z 30 1) < z 30 1 by omega)
          exact f0 _ (by omega) (by omega) (decide_eq_true ⟨u2, of_decide_eq_true r3, Or.inl rfl⟩)
end AGREEK
