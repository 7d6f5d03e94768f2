/-! ===== the invariant behind the constructors ===== -/
def lp_ini : List (Nat × Nat × Int32) := [(0, 1, nI 0), (0, 4, nI 0), (96, 1, nI 0), (96, 3, nI 0), (96, 48, nI 0), (96, 84, -9), (96, 85, nI 0), (9, 12, nI 0), (22, 6, nI 0), (22, 8, nI 11), (29, 6, nI 0), (77, 3, nI 0), (77, 4, nI 0), (77, 5, nI 0), (90, 1, nI 0)]
def lp_ck (M : lm_M) : Bool := lp_chk M && decide (M.1.2.2 (lm_B + 10) = (30, 8)) && (List.range 8).all (fun j => decide (M.2.1 (lm_B + 10) j = nI (cstS j))) && (List.range 11).all (fun k => decide (M.2.2.1 57 k = M.2.2.1 23 k) && decide (M.2.2.1 140 k = M.2.2.1 23 k)) && lp_ini.all (fun q => decide (M.2.1 q.1 q.2.1 = q.2.2))
def lp_t3 : Bool := match lp_r2 with
  | some (v, M) => v == none && lp_ck M
  | none => false
theorem lp_t3_ok : lp_t3 = true := by decide +kernel
theorem lp_begun3 {Inv : lm_M → Prop} (h : ∀ M, lp_ck M = true → Inv M) : lp_start 96 Inv := by
  have h1 := lp_t1_ok
  have h2 := lp_t3_ok
  unfold lp_t1 at h1
  unfold lp_t3 lp_r2 at h2
  cases e1 : lp_r1 with
  | none => rw [e1] at h1; cases h1
  | some q =>
    obtain ⟨v, M1⟩ := q
    rw [e1] at h1 h2
    simp only [Bool.and_eq_true, beq_iff_eq] at h1
    simp only at h2
    cases e2 : lm_call 3000 50 146 [.ref 96] (lp_new M1 10) with
    | none => rw [e2] at h2; cases h2
    | some q =>
      obtain ⟨v2, M2⟩ := q
      rw [e2] at h2
      simp only [Bool.and_eq_true, beq_iff_eq] at h2
      exact ⟨3000, v, M1, lm_call_dp 3000 50 lp_D _ _ _ _ (by decide) e1, h1.1, h1.2, 3000, v2, M2, lm_call_dp 3000 50 lp_D _ _ _ _ (by decide) e2, h2.1, h M2 h2.2⟩
theorem INV_0 (M : lm_M) (h : lp_ck M = true) : INV M := by
  obtain ⟨S, I, L, R⟩ := M
  unfold lp_ck lp_chk at h
  simp only [Bool.and_eq_true, beq_iff_eq, List.all_eq_true, decide_eq_true_eq, List.mem_range] at h
  obtain ⟨⟨⟨⟨⟨⟨⟨⟨⟨⟨⟨⟨a, b⟩, sh⟩, rf⟩, r2⟩, r3⟩, -⟩, -⟩, ev⟩, kc⟩, k8⟩, b11⟩, ints⟩ := h
  have g : ∀ q ∈ lp_ini, I q.1 q.2.1 = q.2.2 := ints
  have i1 : I 0 1 = nI 0 := g (0, 1, nI 0) (by decide)
  have i2 : I 0 4 = nI 0 := g (0, 4, nI 0) (by decide)
  have i3 : I 96 1 = nI 0 := g (96, 1, nI 0) (by decide)
  have i4 : I 96 3 = nI 0 := g (96, 3, nI 0) (by decide)
  have i5 : I 96 48 = nI 0 := g (96, 48, nI 0) (by decide)
  have i6 : I 96 84 = -9 := g (96, 84, -9) (by decide)
  have i7 : I 96 85 = nI 0 := g (96, 85, nI 0) (by decide)
  have i8 : I 9 12 = nI 0 := g (9, 12, nI 0) (by decide)
  have i9 : I 22 6 = nI 0 := g (22, 6, nI 0) (by decide)
  have i10' : I 22 8 = nI 11 := g (22, 8, nI 11) (by decide)
  have i11 : I 29 6 = nI 0 := g (29, 6, nI 0) (by decide)
  have i12 : I 77 3 = nI 0 := g (77, 3, nI 0) (by decide)
  have i13 : I 77 4 = nI 0 := g (77, 4, nI 0) (by decide)
  have i14 : I 77 5 = nI 0 := g (77, 5, nI 0) (by decide)
  have i15 : I 90 1 = nI 0 := g (90, 1, nI 0) (by decide)
  refine ⟨2, 36, L 23, fun _ => 0, 0, ⟨⟨sh, a, b⟩, ⟨rf, Or.inl ⟨rfl, rfl⟩, r2, r3⟩, ⟨⟨kc, k8⟩, ev⟩, ⟨⟨Nat.zero_le _, fun j hj => absurd hj (Nat.not_lt_zero _)⟩, ⟨Nat.zero_le _, i3, fun j hj => absurd hj (Nat.not_lt_zero _)⟩, i1⟩, fun k hk => ⟨rfl, (b11 k hk).1, (b11 k hk).2⟩, ⟨[], Nat.zero_le _, ⟨i15, fun j hj => absurd hj (Nat.not_lt_zero _)⟩, i4, fun j hj => absurd hj (Nat.not_lt_zero _)⟩, i6, 0, by decide, i7⟩, Or.inl ⟨⟨i2, i5⟩, ⟨i8, i9, i10', i11⟩, i12, i13, i14⟩⟩
/-- all that the law asks -/
theorem lp_done : lp_all 96 INV := by
  refine ⟨fun M h => ?_, lp_begun3 INV_0, L_feed, L_read, L_told, L_node, L_rule, L_fits, L_conflict, L_search, L_set, L_less, L_type, L_binder, L_without, L_changes, L_change, L_mended, L_out⟩
  obtain ⟨S, I, L, R⟩ := M
  obtain ⟨p, p', bi, tp, n, hB, -⟩ := h
  replace hB : BAS p p' bi tp n S I L R := hB
  have hS := hB.1.1
  have h1 := hB.1.2.1
  have h2 := hB.1.2.2
  refine ⟨by show (S.2.2 0).1 = 9; rw [sh_0 hS], by show (S.2.2 96).1 = 10; rw [sh_96 hS], ?_, ?_, ?_, ?_⟩
  · show 0 < S.1; omega
  · show 96 < S.1; omega
  · show S.1 ≤ 600000; omega
  · show S.2.1 ≤ 7302250; omega
