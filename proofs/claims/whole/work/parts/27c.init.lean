/-! ===== the constructors: run by the kernel ===== -/
def lp_r1 : Option (Option Value × lm_M) := lm_call 3000 50 123 [.ref 0] (lp_new lp_empty 9)
def lp_r2 : Option (Option Value × lm_M) := match lp_r1 with
  | some (_, M) => lm_call 3000 50 146 [.ref 96] (lp_new M 10)
  | none => none
def lp_t1 : Bool := match lp_r1 with
  | some (v, M) => v == none && M.1.1 == 96
  | none => false
def lp_t2 : Bool := match lp_r2 with
  | some (v, M) => v == none && lp_chk M
  | none => false
theorem lp_t1_ok : lp_t1 = true := by decide +kernel
theorem lp_t2_ok : lp_t2 = true := by decide +kernel
/-- the memory behind the constructors -/
theorem lp_begun {Inv : lm_M → Prop} (h : ∀ M, lp_chk M = true → Inv M) : lp_start 96 Inv := by
  have h1 := lp_t1_ok
  have h2 := lp_t2_ok
  unfold lp_t1 at h1
  unfold lp_t2 lp_r2 at h2
  cases e1 : lp_r1 with
  | none => rw [e1] at h1; cases h1
  | some q =>
    obtain ⟨v, M1⟩ := q
    rw [e1] at h1 h2
    simp only [Bool.and_eq_true, beq_iff_eq] at h1
    simp only at h2
    cases e2 : lm_call 3000 50 146 [.ref 96] (lp_new M1 10) with
    | none => rw [e2] at h2; cases h2
    | some q =>
      obtain ⟨v2, M2⟩ := q
      rw [e2] at h2
      simp only [Bool.and_eq_true, beq_iff_eq] at h2
      exact ⟨3000, v, M1, lm_call_dp 3000 50 lp_D _ _ _ _ (by decide) e1, h1.1, h1.2, 3000, v2, M2, lm_call_dp 3000 50 lp_D _ _ _ _ (by decide) e2, h2.1, h M2 h2.2⟩
