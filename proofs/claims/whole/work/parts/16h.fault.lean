section FAULT
variable {z : Zt} {kb ky bi : Nat → Int64} {kd pl : Nat → Nat} {nt : Nat} {key : Int64}
def wrH (kb bi : Nat → Int64) (hb : Nat → Nat) (D d i : Nat) : Bool := if i = 0 then wrD kb bi hb D d else wrP kb hb d i
theorem ftk_c {hb ni : Nat → Nat} {D : Nat} (hD : D ≤ 6) (hni : ∀ d, d < D → ni d ≤ 22 ∧ hb d ≤ 22) : ∀ (m d : Nat), d + m = D → (ftk kb bi hb ni D d m = 1000 ∧ ∀ d' i, d ≤ d' → d' < D → i ≤ ni d' → wrH kb bi hb D d' i = false) ∨ (∃ d' i, d ≤ d' ∧ d' < D ∧ i ≤ ni d' ∧ wrH kb bi hb D d' i = true ∧ ftk kb bi hb ni D d m = hb d' + i ∧ ∀ d'' j, d ≤ d'' → (d'' < d' ∨ (d'' = d' ∧ j < i)) → j ≤ ni d'' → wrH kb bi hb D d'' j = false) := by
  intro m
  induction m with
  | zero => intro d hm; exact Or.inl ⟨rfl, fun d' i h1 h2 => by omega⟩
  | succ m ih =>
    intro d hm
    have ef : ftk kb bi hb ni D d (m + 1) = if wrD kb bi hb D d = true then hb d else if fup (wrP kb hb d) 1 (ni d) < 1000 then hb d + fup (wrP kb hb d) 1 (ni d) else ftk kb bi hb ni D (d + 1) m := rfl
    have fF : ∀ b : Bool, b ≠ true → b = false := fun b h => by cases b with | true => exact absurd rfl h | false => rfl
    rw [ef]
    have n22 := hni d (by omega)
    by_cases s1 : wrD kb bi hb D d = true
    · rw [if_pos s1]
      refine Or.inr ⟨d, 0, Nat.le_refl _, by omega, Nat.zero_le _, ?_, rfl, fun d'' j h1 h2 => by omega⟩
      unfold wrH
      rw [if_pos rfl]; exact s1
    · rw [if_neg s1]
      have w0 : wrH kb bi hb D d 0 = false := by unfold wrH; rw [if_pos rfl]; exact fF _ s1
      by_cases s2 : fup (wrP kb hb d) 1 (ni d) < 1000
      · rw [if_pos s2]
        obtain ⟨f1, f2, f3, f4⟩ := fup_lt (ni d) 1 (by omega) s2
        refine Or.inr ⟨d, fup (wrP kb hb d) 1 (ni d), Nat.le_refl _, by omega, by omega, ?_, rfl, fun d'' j h1 h2 h3 => ?_⟩
        · unfold wrH
          rw [if_neg (by omega)]; exact f3
        · have ed : d'' = d := by omega
          subst ed
          by_cases j0 : j = 0
          · rw [j0]; exact w0
          · unfold wrH
            rw [if_neg j0]
            exact fF _ (f4 j (by omega) (by omega))
      · rw [if_neg s2]
        have f0 := (fup_no (P := wrP kb hb d) (ni d) 1 (by omega)).mp (by have := fup_ge (P := wrP kb hb d) (ni d) 1; omega)
        have wd : ∀ i, i ≤ ni d → wrH kb bi hb D d i = false := fun i hi => by
          by_cases j0 : i = 0
          · rw [j0]; exact w0
          · unfold wrH
            rw [if_neg j0]
            exact fF _ (f0 i (by omega) (by omega))
        rcases ih (d + 1) (by omega) with ⟨a1, a2⟩ | ⟨d', i, a1, a2, a3, a4, a5, a6⟩
        · refine Or.inl ⟨a1, fun d' i h1 h2 h3 => ?_⟩
          by_cases e : d' = d
          · rw [e] at h3 ⊢; exact wd i h3
          · exact a2 d' i (by omega) h2 h3
        · refine Or.inr ⟨d', i, by omega, a2, a3, a4, a5, fun d'' j h1 h2 h3 => ?_⟩
          by_cases e : d'' = d
          · rw [e] at h3 ⊢; exact wd j h3
          · exact a6 d'' j (by omega) h2 h3
theorem bool_ext {a b : Bool} (h : a = true ↔ b = true) : a = b := by
  cases a <;> cases b
  · rfl
  · exact absurd (h.mpr rfl) (by decide)
  · exact absurd (h.mp rfl) (by decide)
  · rfl
/-- the header's binders: taken in one, taken in the other -/
theorem wr_eq (hT : TX kd pl nt z) {d i : Nat} (hd : d < z 30 1) (hi : i ≤ z 17 d) : wrM (kbz ky z) bi (z 22) (z 23) (z 16 d + i) = wrH (kbz ky z) bi (z 16) (z 30 1) d i := by
  have hT' := hT
  obtain ⟨⟨hw, h03⟩, -, t8, t9, t10⟩ := hT
  obtain ⟨v1, v2, v3, v4, v5, v6⟩ := hw
  obtain ⟨-, ⟨d3, d4, d5⟩, d6⟩ := t8 d hd
  obtain ⟨-, -, -, e22, e23⟩ := d6 i hi
  unfold wrM wrH
  by_cases i0 : i = 0
  · subst i0
    rw [Nat.add_zero] at e22 e23 ⊢
    rw [if_pos rfl] at e22
    rw [e22, if_pos (by decide), if_pos rfl, if_pos rfl]
    unfold wrD
    -- an earlier declaration of the same name
    have ear : exU (wrQ (kbz ky z) (z 22) (z 23) (z 16 d)) 0 (z 16 d) = true ↔ ∃ d', d' < d ∧ kbz ky z (z 16 d') = kbz ky z (z 16 d) := by
      rw [exU_iff]
      constructor
      · rintro ⟨o, o1, o2, o3⟩
        unfold wrQ at o3
        obtain ⟨p1, p2, -⟩ := of_decide_eq_true o3
        rw [e22] at p2
        have b0 := bd_0 hT' (show o < z 30 2 by omega)
        have eo := b0.1.mp p2
        refine ⟨z 23 o, ?_, by rw [← eo]; exact p1⟩
        rcases Nat.lt_trichotomy (z 23 o) d with q | q | q
        · exact q
        · rw [q] at eo; omega
        · have := (t9 d _ q b0.2.2.2).1; omega
      · rintro ⟨d', q1, q2⟩
        have m := (t9 d' d q1 hd).1
        obtain ⟨-, -, c6⟩ := t8 d' (by omega)
        obtain ⟨-, -, -, c22, -⟩ := c6 0 (by omega)
        rw [Nat.add_zero, if_pos rfl] at c22
        exact ⟨z 16 d', by omega, by omega, decide_eq_true ⟨q2, by rw [c22, e22], Or.inl e22⟩⟩
    have fu := fup_lt (P := fun d' => decide (kbz ky z (z 16 d') = kbz ky z (z 16 d))) (z 30 1) 0 (by omega)
    have fn := fup_no (P := fun d' => decide (kbz ky z (z 16 d') = kbz ky z (z 16 d))) (z 30 1) 0 (by omega)
    have ge := fup_ge (P := fun d' => decide (kbz ky z (z 16 d') = kbz ky z (z 16 d))) (z 30 1) 0
    have lt : fup (fun d' => decide (kbz ky z (z 16 d') = kbz ky z (z 16 d))) 0 (z 30 1) < 1000 := by
      rcases ge with q | ⟨_, q, _⟩
      · exact absurd (decide_eq_true rfl) (fn.mp q d (by omega) (by omega))
      · omega
    obtain ⟨f1, f2, f3, f4⟩ := fu lt
    have f3 := of_decide_eq_true f3
    have fd : fup (fun d' => decide (kbz ky z (z 16 d') = kbz ky z (z 16 d))) 0 (z 30 1) ≤ d := by
      rcases Nat.lt_or_ge d (fup (fun d' => decide (kbz ky z (z 16 d') = kbz ky z (z 16 d))) 0 (z 30 1)) with q | q
      · exact absurd (decide_eq_true rfl) (f4 d (by omega) q)
      · exact q
    have ed : dcm (kbz ky z) bi (z 16) (kbz ky z (z 16 d)) 0 (z 30 1) = 11 + z 16 (fup (fun d' => decide (kbz ky z (z 16 d') = kbz ky z (z 16 d))) 0 (z 30 1)) := by unfold dcm; rw [if_pos lt]
    rw [ed]
    by_cases q : fup (fun d' => decide (kbz ky z (z 16 d') = kbz ky z (z 16 d))) 0 (z 30 1) = d
    · rw [q, if_pos rfl]
      have : exU (wrQ (kbz ky z) (z 22) (z 23) (z 16 d)) 0 (z 16 d) = false := by
        cases hh : exU (wrQ (kbz ky z) (z 22) (z 23) (z 16 d)) 0 (z 16 d) with
        | false => rfl
        | true =>
          obtain ⟨d', q1, q2⟩ := ear.mp hh
          exact absurd (decide_eq_true q2) (f4 d' (by omega) (by omega))
      rw [this, Bool.false_or]
    · have m := (t9 _ d (show fup (fun d' => decide (kbz ky z (z 16 d') = kbz ky z (z 16 d))) 0 (z 30 1) < d by omega) hd).1
      rw [if_neg (by omega), ear.mpr ⟨_, by omega, f3⟩, Bool.true_or]
  · rw [if_neg i0] at e22
    rw [e22, if_pos (by decide), if_neg (by decide), Bool.or_false, if_neg i0]
    refine bool_ext ?_
    unfold wrP
    rw [exU_iff, exU_iff]
    constructor
    · rintro ⟨o, o1, o2, o3⟩
      unfold wrQ at o3
      obtain ⟨p1, p2, p3⟩ := of_decide_eq_true o3
      rw [e22] at p2 p3
      rw [e23] at p3
      have p3 : z 23 o = d := by omega
      have b0 := (bd_0 hT' (show o < z 30 2 by omega)).2.1.mp p2
      rw [p3] at b0
      exact ⟨o, by omega, by omega, decide_eq_true p1⟩
    · rintro ⟨o, o1, o2, o3⟩
      obtain ⟨-, -, -, c22, c23⟩ := d6 (o - z 16 d) (by omega)
      rw [show z 16 d + (o - z 16 d) = o by omega] at c22 c23
      rw [if_neg (by omega)] at c22
      exact ⟨o, by omega, by omega, decide_eq_true ⟨of_decide_eq_true o3, by rw [c22, e22], Or.inr (by rw [c23, e23])⟩⟩
theorem wr_2 {st dl : Nat → Nat} {b : Nat} (h : st b = 2) : wrM kb bi st dl b = false := by
  unfold wrM
  rw [h, if_neg (by decide), if_neg (by decide)]; rfl
theorem pl_mono (ht : tko kd pl nt) : ∀ (j i : Nat), i < j → j ≤ nt → pl i < pl j := by
  intro j
  induction j with
  | zero => intro i h; omega
  | succ j ih =>
    intro i h1 h2
    have a := (ht.2.2.1 j (by omega)).2
    by_cases s : i = j
    · rw [s]; exact a
    · have := ih i (by omega) (by omega); omega
/-- the first name that is taken already: the same place in both -/
theorem fault_v (ht : tko kd pl nt) (hT : TX kd pl nt z) : ∃ v, ((ftk (kbz ky z) bi (z 16) (z 17) (z 30 1) 0 (z 30 1) = 1000 ∧ v = 1000) ∨ (ftk (kbz ky z) bi (z 16) (z 17) (z 30 1) 0 (z 30 1) < z 30 2 ∧ v = pl (z 20 (ftk (kbz ky z) bi (z 16) (z 17) (z 30 1) 0 (z 30 1))))) ∧ MIN (fun t => ∃ b, b < z 30 2 ∧ wrM (kbz ky z) bi (z 22) (z 23) b = true ∧ t = pl (z 20 b)) v := by
  have hT' := hT
  obtain ⟨⟨hw, h03⟩, -, t8, t9, t10⟩ := hT
  obtain ⟨v1, v2, v3, v4, v5, v6⟩ := hw
  -- every taken binder stands in a header
  have hdr : ∀ b, b < z 30 2 → wrM (kbz ky z) bi (z 22) (z 23) b = true → ∃ d i, d < z 30 1 ∧ i ≤ z 17 d ∧ b = z 16 d + i ∧ wrH (kbz ky z) bi (z 16) (z 30 1) d i = true := fun b hb hw => by
    obtain ⟨a1, a2, a3⟩ := t10 b hb
    rcases a3 with a | ⟨_, a, _⟩
    · refine ⟨z 23 b, b - z 16 (z 23 b), a1, by omega, by omega, ?_⟩
      rw [← wr_eq hT' a1 (by omega), show z 16 (z 23 b) + (b - z 16 (z 23 b)) = b by omega]
      exact hw
    · rw [wr_2 a] at hw; cases hw
  rcases ftk_c (kb := kbz ky z) (bi := bi) (hb := z 16) (ni := z 17) v6 (fun d hd => by have := (t8 d hd).2.1.1; omega) (z 30 1) 0 (by omega) with ⟨a1, a2⟩ | ⟨d', i, a1, a2, a3, a4, a5, a6⟩
  · refine ⟨1000, Or.inl ⟨a1, rfl⟩, Or.inl ⟨rfl, ?_⟩⟩
    rintro t ⟨b, b1, b2, -⟩
    obtain ⟨d, j, q1, q2, -, q4⟩ := hdr b b1 b2
    rw [a2 d j (by omega) q1 q2] at q4
    cases q4
  · obtain ⟨-, ⟨c3, c4, c5⟩, c6⟩ := t8 d' a2
    refine ⟨_, Or.inr ⟨by rw [a5]; omega, rfl⟩, Or.inr ⟨(ht.2.2.2 _).2, ⟨_, by rw [a5]; omega, by rw [a5, wr_eq hT' a2 a3]; exact a4, rfl⟩, ?_⟩⟩
    rintro t ⟨b, b1, b2, rfl⟩
    obtain ⟨d, j, q1, q2, q3, q4⟩ := hdr b b1 b2
    obtain ⟨-, ⟨g3, g4, g5⟩, g6⟩ := t8 d q1
    rw [a5, q3, (c6 i a3).2.1, (g6 j q2).2.1]
    rcases Nat.lt_trichotomy d d' with s | s | s
    · rw [a6 d j (by omega) (Or.inl s) q2] at q4; cases q4
    · subst s
      by_cases sj : j < i
      · rw [a6 d j (by omega) (Or.inr ⟨rfl, sj⟩) q2] at q4; cases q4
      · by_cases e : j = i
        · rw [e]; exact Nat.le_refl _
        · exact Nat.le_of_lt (pl_mono ht _ _ (by omega) (by omega))
    · have := (t9 d' d s q1).2
      exact Nat.le_of_lt (pl_mono ht _ _ (by omega) (by omega))
end FAULT
