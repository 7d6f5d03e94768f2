/-! ===== inversions of the light machine's steps (by program) ===== -/
section LMINV
variable {c c' : lm_C} {ls ls' st st' : List Value} {M M' : lm_M} {J : Nat → lm_C}
theorem lm_ldI_inv {k : Nat} (h : lm_ldI k c ls st M = some (.inl (c', ls', st', M'))) : ∃ x : Int32, ls[k]? = some (.int x) ∧ c = c' ∧ ls = ls' ∧ .int x :: st = st' ∧ M = M' := by
  unfold lm_ldI at h
  split at h
  · rename_i x hx
    simp only [lm_nx, Option.some.injEq, Sum.inl.injEq, Prod.mk.injEq] at h
    exact ⟨x, hx, h⟩
  · cases h
theorem lm_ldL_inv {k : Nat} (h : lm_ldL k c ls st M = some (.inl (c', ls', st', M'))) : ∃ x : Int64, ls[k]? = some (.long x) ∧ c = c' ∧ ls = ls' ∧ .long x :: st = st' ∧ M = M' := by
  unfold lm_ldL at h
  split at h
  · rename_i x hx
    simp only [lm_nx, Option.some.injEq, Sum.inl.injEq, Prod.mk.injEq] at h
    exact ⟨x, hx, h⟩
  · cases h
theorem lm_ldA_inv {k : Nat} (h : lm_ldA k c ls st M = some (.inl (c', ls', st', M'))) : ∃ x : Nat, ls[k]? = some (.ref x) ∧ c = c' ∧ ls = ls' ∧ .ref x :: st = st' ∧ M = M' := by
  unfold lm_ldA at h
  split at h
  · rename_i x hx
    simp only [lm_nx, Option.some.injEq, Sum.inl.injEq, Prod.mk.injEq] at h
    exact ⟨x, hx, h⟩
  · cases h
theorem lm_stI_inv {k : Nat} (h : lm_stI k c ls st M = some (.inl (c', ls', st', M'))) : ∃ (x : Int32) (r : List Value), st = .int x :: r ∧ k < ls.length ∧ c = c' ∧ lm_set1 ls k (.int x) = ls' ∧ r = st' ∧ M = M' := by
  unfold lm_stI at h
  split at h
  · split at h
    · rename_i hg
      simp only [lm_nx, Option.some.injEq, Sum.inl.injEq, Prod.mk.injEq] at h
      exact ⟨_, _, rfl, hg, h⟩
    · cases h
  · cases h
theorem lm_stA_inv {k : Nat} (h : lm_stA k c ls st M = some (.inl (c', ls', st', M'))) : ∃ (x : Nat) (r : List Value), st = .ref x :: r ∧ k < ls.length ∧ c = c' ∧ lm_set1 ls k (.ref x) = ls' ∧ r = st' ∧ M = M' := by
  unfold lm_stA at h
  split at h
  · split at h
    · rename_i hg
      simp only [lm_nx, Option.some.injEq, Sum.inl.injEq, Prod.mk.injEq] at h
      exact ⟨_, _, rfl, hg, h⟩
    · cases h
  · cases h
theorem lm_stL_inv {k : Nat} (h : lm_stL k c ls st M = some (.inl (c', ls', st', M'))) : ∃ (x : Int64) (r : List Value), st = .long x :: r ∧ k + 1 < ls.length ∧ c = c' ∧ lm_set2 ls k (.long x) = ls' ∧ r = st' ∧ M = M' := by
  unfold lm_stL at h
  split at h
  · split at h
    · rename_i hg
      simp only [lm_nx, Option.some.injEq, Sum.inl.injEq, Prod.mk.injEq] at h
      exact ⟨_, _, rfl, hg, h⟩
    · cases h
  · cases h
theorem lm_iinc_inv {k : Nat} {n : Int} (h : lm_iinc k n c ls st M = some (.inl (c', ls', st', M'))) : ∃ x : Int32, ls[k]? = some (.int x) ∧ c = c' ∧ lm_set1 ls k (.int (x + Int32.ofInt n)) = ls' ∧ st = st' ∧ M = M' := by
  unfold lm_iinc at h
  split at h
  · rename_i x hx
    simp only [lm_nx, Option.some.injEq, Sum.inl.injEq, Prod.mk.injEq] at h
    exact ⟨x, hx, h⟩
  · cases h
theorem lm_bin_inv {f : Int32 → Int32 → Int32} (h : lm_bin f c ls st M = some (.inl (c', ls', st', M'))) : ∃ (x : Int32) (y : Int32) (r : List Value), st = .int y :: .int x :: r ∧ c = c' ∧ ls = ls' ∧ .int (f x y) :: r = st' ∧ M = M' := by
  unfold lm_bin at h
  split at h
  · simp only [lm_nx, Option.some.injEq, Sum.inl.injEq, Prod.mk.injEq] at h
    exact ⟨_, _, _, rfl, h⟩
  · cases h
theorem lm_binL_inv {f : Int64 → Int64 → Int64} (h : lm_binL f c ls st M = some (.inl (c', ls', st', M'))) : ∃ (x : Int64) (y : Int64) (r : List Value), st = .long y :: .long x :: r ∧ c = c' ∧ ls = ls' ∧ .long (f x y) :: r = st' ∧ M = M' := by
  unfold lm_binL at h
  split at h
  · simp only [lm_nx, Option.some.injEq, Sum.inl.injEq, Prod.mk.injEq] at h
    exact ⟨_, _, _, rfl, h⟩
  · cases h
theorem lm_shL_inv {f : Int64 → Int32 → Int64} (h : lm_shL f c ls st M = some (.inl (c', ls', st', M'))) : ∃ (x : Int64) (y : Int32) (r : List Value), st = .int y :: .long x :: r ∧ c = c' ∧ ls = ls' ∧ .long (f x y) :: r = st' ∧ M = M' := by
  unfold lm_shL at h
  split at h
  · simp only [lm_nx, Option.some.injEq, Sum.inl.injEq, Prod.mk.injEq] at h
    exact ⟨_, _, _, rfl, h⟩
  · cases h
theorem lm_cmpL_inv  (h : lm_cmpL c ls st M = some (.inl (c', ls', st', M'))) : ∃ (x : Int64) (y : Int64) (r : List Value), st = .long y :: .long x :: r ∧ c = c' ∧ ls = ls' ∧ .int (lg_cmp x y) :: r = st' ∧ M = M' := by
  unfold lm_cmpL at h
  split at h
  · simp only [lm_nx, Option.some.injEq, Sum.inl.injEq, Prod.mk.injEq] at h
    exact ⟨_, _, _, rfl, h⟩
  · cases h
theorem lm_un_inv {f : Int32 → Value} (h : lm_un f c ls st M = some (.inl (c', ls', st', M'))) : ∃ (x : Int32) (r : List Value), st = .int x :: r ∧ c = c' ∧ ls = ls' ∧ f x :: r = st' ∧ M = M' := by
  unfold lm_un at h
  split at h
  · simp only [lm_nx, Option.some.injEq, Sum.inl.injEq, Prod.mk.injEq] at h
    exact ⟨_, _, rfl, h⟩
  · cases h
theorem lm_unL_inv {f : Int64 → Value} (h : lm_unL f c ls st M = some (.inl (c', ls', st', M'))) : ∃ (x : Int64) (r : List Value), st = .long x :: r ∧ c = c' ∧ ls = ls' ∧ f x :: r = st' ∧ M = M' := by
  unfold lm_unL at h
  split at h
  · simp only [lm_nx, Option.some.injEq, Sum.inl.injEq, Prod.mk.injEq] at h
    exact ⟨_, _, rfl, h⟩
  · cases h
theorem lm_div_inv {f : Int32 → Int32 → Int32} (h : lm_div f c ls st M = some (.inl (c', ls', st', M'))) : ∃ (x : Int32) (y : Int32) (r : List Value), st = .int y :: .int x :: r ∧ ¬ y = 0 ∧ c = c' ∧ ls = ls' ∧ .int (f x y) :: r = st' ∧ M = M' := by
  unfold lm_div at h
  split at h
  · split at h
    · cases h
    · rename_i hg
      simp only [lm_nx, Option.some.injEq, Sum.inl.injEq, Prod.mk.injEq] at h
      exact ⟨_, _, _, rfl, hg, h⟩
  · cases h
theorem lm_br1_inv {f : Int32 → Bool} {t : Int} (h : lm_br1 f J t c ls st M = some (.inl (c', ls', st', M'))) : ∃ (x : Int32) (r : List Value), st = .int x :: r ∧ ((f x = true ∧ J t.toNat = c') ∨ (¬ f x = true ∧ c = c')) ∧ ls = ls' ∧ r = st' ∧ M = M' := by
  unfold lm_br1 at h
  split at h
  · split at h
    · rename_i hg
      simp only [lm_nx, Option.some.injEq, Sum.inl.injEq, Prod.mk.injEq] at h
      exact ⟨_, _, rfl, Or.inl ⟨hg, h.1⟩, h.2⟩
    · rename_i hg
      simp only [lm_nx, Option.some.injEq, Sum.inl.injEq, Prod.mk.injEq] at h
      exact ⟨_, _, rfl, Or.inr ⟨hg, h.1⟩, h.2⟩
  · cases h
theorem lm_br2_inv {f : Int32 → Int32 → Bool} {t : Int} (h : lm_br2 f J t c ls st M = some (.inl (c', ls', st', M'))) : ∃ (x : Int32) (y : Int32) (r : List Value), st = .int y :: .int x :: r ∧ ((f x y = true ∧ J t.toNat = c') ∨ (¬ f x y = true ∧ c = c')) ∧ ls = ls' ∧ r = st' ∧ M = M' := by
  unfold lm_br2 at h
  split at h
  · split at h
    · rename_i hg
      simp only [lm_nx, Option.some.injEq, Sum.inl.injEq, Prod.mk.injEq] at h
      exact ⟨_, _, _, rfl, Or.inl ⟨hg, h.1⟩, h.2⟩
    · rename_i hg
      simp only [lm_nx, Option.some.injEq, Sum.inl.injEq, Prod.mk.injEq] at h
      exact ⟨_, _, _, rfl, Or.inr ⟨hg, h.1⟩, h.2⟩
  · cases h
theorem lm_tab_inv {d lo hi : Int} {os : Array Int} (h : lm_tab J d lo hi os ls st M = some (.inl (c', ls', st', M'))) : ∃ (x : Int32) (r : List Value), st = .int x :: r ∧ (((x.toInt < lo ∨ hi < x.toInt) ∧ J d.toNat = c') ∨ (¬ (x.toInt < lo ∨ hi < x.toInt) ∧ ∃ t, os.toList[(x.toInt - lo).toNat]? = some t ∧ J t.toNat = c')) ∧ ls = ls' ∧ r = st' ∧ M = M' := by
  unfold lm_tab at h
  split at h
  · split at h
    · rename_i hg
      simp only [lm_nx, Option.some.injEq, Sum.inl.injEq, Prod.mk.injEq] at h
      exact ⟨_, _, rfl, Or.inl ⟨hg, h.1⟩, h.2⟩
    · rename_i hg
      split at h
      · rename_i t ht
        simp only [lm_nx, Option.some.injEq, Sum.inl.injEq, Prod.mk.injEq] at h
        exact ⟨_, _, rfl, Or.inr ⟨hg, t, ht, h.1⟩, h.2⟩
      · cases h
  · cases h
theorem lm_lk_inv {d : Int} {ps : Array (Int × Int)} (h : lm_lk J d ps ls st M = some (.inl (c', ls', st', M'))) : ∃ (x : Int32) (r : List Value), st = .int x :: r ∧ J (lm_lku d x.toInt ps.toList).toNat = c' ∧ ls = ls' ∧ r = st' ∧ M = M' := by
  unfold lm_lk at h
  split at h
  · simp only [lm_nx, Option.some.injEq, Sum.inl.injEq, Prod.mk.injEq] at h
    exact ⟨_, _, rfl, h⟩
  · cases h
theorem lm_dup_inv  (h : lm_dup c ls st M = some (.inl (c', ls', st', M'))) : ∃ (v : Value) (r : List Value), st = v :: r ∧ v.category = 1 ∧ c = c' ∧ ls = ls' ∧ v :: v :: r = st' ∧ M = M' := by
  unfold lm_dup at h
  split at h
  · split at h
    · rename_i hg
      simp only [lm_nx, Option.some.injEq, Sum.inl.injEq, Prod.mk.injEq] at h
      exact ⟨_, _, rfl, hg, h⟩
    · cases h
  · cases h
theorem lm_pop1_inv  (h : lm_pop1 c ls st M = some (.inl (c', ls', st', M'))) : ∃ (v : Value) (r : List Value), st = v :: r ∧ v.category = 1 ∧ c = c' ∧ ls = ls' ∧ r = st' ∧ M = M' := by
  unfold lm_pop1 at h
  split at h
  · split at h
    · rename_i hg
      simp only [lm_nx, Option.some.injEq, Sum.inl.injEq, Prod.mk.injEq] at h
      exact ⟨_, _, rfl, hg, h⟩
    · cases h
  · cases h
theorem lm_dup2_inv  (h : lm_dup2 c ls st M = some (.inl (c', ls', st', M'))) : ∃ (v : Value) (w : Value) (r : List Value), st = v :: w :: r ∧ (v.category = 1 ∧ w.category = 1) ∧ c = c' ∧ ls = ls' ∧ v :: w :: v :: w :: r = st' ∧ M = M' := by
  unfold lm_dup2 at h
  split at h
  · split at h
    · rename_i hg
      simp only [lm_nx, Option.some.injEq, Sum.inl.injEq, Prod.mk.injEq] at h
      exact ⟨_, _, _, rfl, hg, h⟩
    · cases h
  · cases h
theorem lm_ald_inv  (h : lm_ald c ls st M = some (.inl (c', ls', st', M'))) : ∃ (i : Int32) (a : Nat) (r : List Value), st = .int i :: .ref a :: r ∧ (((M.1.2.2 a).1 = 21 ∨ (M.1.2.2 a).1 = 30) ∧ ¬ (i < 0 ∨ (M.1.2.2 a).2 ≤ i.toNatClampNeg)) ∧ c = c' ∧ ls = ls' ∧ .int (M.2.1 a i.toNatClampNeg) :: r = st' ∧ M = M' := by
  unfold lm_ald at h
  split at h
  · split at h
    · rename_i hg
      simp only [lm_nx, Option.some.injEq, Sum.inl.injEq, Prod.mk.injEq] at h
      exact ⟨_, _, _, rfl, hg, h⟩
    · cases h
  · cases h
theorem lm_bld_inv  (h : lm_bld c ls st M = some (.inl (c', ls', st', M'))) : ∃ (i : Int32) (a : Nat) (r : List Value), st = .int i :: .ref a :: r ∧ (((M.1.2.2 a).1 = 23 ∨ (M.1.2.2 a).1 = 24) ∧ ¬ (i < 0 ∨ (M.1.2.2 a).2 ≤ i.toNatClampNeg)) ∧ c = c' ∧ ls = ls' ∧ .int (M.2.1 a i.toNatClampNeg) :: r = st' ∧ M = M' := by
  unfold lm_bld at h
  split at h
  · split at h
    · rename_i hg
      simp only [lm_nx, Option.some.injEq, Sum.inl.injEq, Prod.mk.injEq] at h
      exact ⟨_, _, _, rfl, hg, h⟩
    · cases h
  · cases h
theorem lm_lld_inv  (h : lm_lld c ls st M = some (.inl (c', ls', st', M'))) : ∃ (i : Int32) (a : Nat) (r : List Value), st = .int i :: .ref a :: r ∧ ((M.1.2.2 a).1 = 22 ∧ ¬ (i < 0 ∨ (M.1.2.2 a).2 ≤ i.toNatClampNeg)) ∧ c = c' ∧ ls = ls' ∧ .long (M.2.2.1 a i.toNatClampNeg) :: r = st' ∧ M = M' := by
  unfold lm_lld at h
  split at h
  · split at h
    · rename_i hg
      simp only [lm_nx, Option.some.injEq, Sum.inl.injEq, Prod.mk.injEq] at h
      exact ⟨_, _, _, rfl, hg, h⟩
    · cases h
  · cases h
theorem lm_ast_inv  (h : lm_ast c ls st M = some (.inl (c', ls', st', M'))) : ∃ (x : Int32) (i : Int32) (a : Nat) (r : List Value), st = .int x :: .int i :: .ref a :: r ∧ ((M.1.2.2 a).1 = 21 ∧ ¬ (i < 0 ∨ (M.1.2.2 a).2 ≤ i.toNatClampNeg)) ∧ c = c' ∧ ls = ls' ∧ r = st' ∧ ((M.1, lm_up M.2.1 a i.toNatClampNeg x, M.2.2) : lm_M) = M' := by
  unfold lm_ast at h
  split at h
  · split at h
    · rename_i hg
      simp only [lm_nx, Option.some.injEq, Sum.inl.injEq, Prod.mk.injEq] at h
      exact ⟨_, _, _, _, rfl, hg, h⟩
    · cases h
  · cases h
theorem lm_bst_inv  (h : lm_bst c ls st M = some (.inl (c', ls', st', M'))) : ∃ (x : Int32) (i : Int32) (a : Nat) (r : List Value), st = .int x :: .int i :: .ref a :: r ∧ (((M.1.2.2 a).1 = 23 ∨ (M.1.2.2 a).1 = 24) ∧ ¬ (i < 0 ∨ (M.1.2.2 a).2 ≤ i.toNatClampNeg)) ∧ c = c' ∧ ls = ls' ∧ r = st' ∧ ((M.1, lm_up M.2.1 a i.toNatClampNeg (lm_nar (M.1.2.2 a).1 x), M.2.2) : lm_M) = M' := by
  unfold lm_bst at h
  split at h
  · split at h
    · rename_i hg
      simp only [lm_nx, Option.some.injEq, Sum.inl.injEq, Prod.mk.injEq] at h
      exact ⟨_, _, _, _, rfl, hg, h⟩
    · cases h
  · cases h
theorem lm_lst_inv  (h : lm_lst c ls st M = some (.inl (c', ls', st', M'))) : ∃ (x : Int64) (i : Int32) (a : Nat) (r : List Value), st = .long x :: .int i :: .ref a :: r ∧ ((M.1.2.2 a).1 = 22 ∧ ¬ (i < 0 ∨ (M.1.2.2 a).2 ≤ i.toNatClampNeg)) ∧ c = c' ∧ ls = ls' ∧ r = st' ∧ ((M.1, M.2.1, lm_up M.2.2.1 a i.toNatClampNeg x, M.2.2.2) : lm_M) = M' := by
  unfold lm_lst at h
  split at h
  · split at h
    · rename_i hg
      simp only [lm_nx, Option.some.injEq, Sum.inl.injEq, Prod.mk.injEq] at h
      exact ⟨_, _, _, _, rfl, hg, h⟩
    · cases h
  · cases h
theorem lm_len_inv  (h : lm_len c ls st M = some (.inl (c', ls', st', M'))) : ∃ (a : Nat) (r : List Value), st = .ref a :: r ∧ (21 ≤ (M.1.2.2 a).1 ∧ (M.1.2.2 a).1 ≤ 30) ∧ c = c' ∧ ls = ls' ∧ .int (Int32.ofNat (M.1.2.2 a).2) :: r = st' ∧ M = M' := by
  unfold lm_len at h
  split at h
  · split at h
    · rename_i hg
      simp only [lm_nx, Option.some.injEq, Sum.inl.injEq, Prod.mk.injEq] at h
      exact ⟨_, _, rfl, hg, h⟩
    · cases h
  · cases h
theorem lm_newa_inv {t : ArrayType} (h : lm_newa t c ls st M = some (.inl (c', ls', st', M'))) : ∃ (n : Int32) (r : List Value), st = .int n :: r ∧ (¬ n < 0 ∧ lm_ty t ≠ 99 ∧ n.toNatClampNeg ≤ 65536) ∧ c = c' ∧ ls = ls' ∧ .ref M.1.1 :: r = st' ∧ (((M.1.1 + 1, M.1.2.1 + n.toNatClampNeg, lm_us M.1.2.2 M.1.1 (lm_ty t, n.toNatClampNeg)), lm_z M.2.1 M.1.1 0, lm_z M.2.2.1 M.1.1 0, lm_z M.2.2.2 M.1.1 .null) : lm_M) = M' := by
  unfold lm_newa at h
  split at h
  · split at h
    · rename_i hg
      simp only [lm_nx, Option.some.injEq, Sum.inl.injEq, Prod.mk.injEq] at h
      exact ⟨_, _, rfl, hg, h⟩
    · cases h
  · cases h
theorem lm_new_inv {ci : Nat} (h : lm_new ci c ls st M = some (.inl (c', ls', st', M'))) : ci < 11 ∧ c = c' ∧ ls = ls' ∧ .ref M.1.1 :: st = st' ∧ (((M.1.1 + 1, M.1.2.1 + lm_cN ci, lm_us M.1.2.2 M.1.1 (ci, 0)), lm_z M.2.1 M.1.1 0, lm_z M.2.2.1 M.1.1 0, lm_z M.2.2.2 M.1.1 .null) : lm_M) = M' := by
  unfold lm_new at h
  split at h
  · rename_i hg
    simp only [lm_nx, Option.some.injEq, Sum.inl.injEq, Prod.mk.injEq] at h
    exact ⟨hg, h⟩
  · cases h
theorem lm_copy_inv  (h : lm_copy c ls st M = some (.inl (c', ls', st', M'))) : ∃ (n : Int32) (dp : Int32) (b : Nat) (sp : Int32) (a : Nat) (r : List Value), st = .int n :: .int dp :: .ref b :: .int sp :: .ref a :: r ∧ ((M.1.2.2 a).1 = 21 ∧ (M.1.2.2 b).1 = 21 ∧ ¬ sp < 0 ∧ ¬ dp < 0 ∧ ¬ n < 0 ∧ sp.toNatClampNeg + n.toNatClampNeg ≤ (M.1.2.2 a).2 ∧ dp.toNatClampNeg + n.toNatClampNeg ≤ (M.1.2.2 b).2 ∧ (r.map fun v => v.category).sum ≤ 8) ∧ c = c' ∧ ls = ls' ∧ r = st' ∧ ((M.1, lm_cpy M.2.1 a b sp.toNatClampNeg dp.toNatClampNeg n.toNatClampNeg, M.2.2) : lm_M) = M' := by
  unfold lm_copy at h
  split at h
  · split at h
    · rename_i hg
      simp only [lm_nx, Option.some.injEq, Sum.inl.injEq, Prod.mk.injEq] at h
      exact ⟨_, _, _, _, _, _, rfl, hg, h⟩
    · cases h
  · cases h
theorem lm_obj_inv  (h : lm_obj c ls st M = some (.inl (c', ls', st', M'))) : ∃ (a : Nat) (r : List Value), st = .ref a :: r ∧ ((r.map fun v => v.category).sum ≤ 8) ∧ c = c' ∧ ls = ls' ∧ r = st' ∧ M = M' := by
  unfold lm_obj at h
  split at h
  · split at h
    · rename_i hg
      simp only [lm_nx, Option.some.injEq, Sum.inl.injEq, Prod.mk.injEq] at h
      exact ⟨_, _, rfl, hg, h⟩
    · cases h
  · cases h
theorem lm_getf_inv {r : Nat} (h : lm_getf r c ls st M = some (.inl (c', ls', st', M'))) : ∃ (o : Nat) (q : List Value) (v : Value), st = .ref o :: q ∧ (M.1.2.2 o).1 = r / 1024 ∧ ((r % 8 = 0 ∧ v = .int (M.2.1 o (r / 8 % 128))) ∨ (r % 8 = 1 ∧ v = .long (M.2.2.1 o (r / 8 % 128))) ∨ (r % 8 = 2 ∧ v = M.2.2.2 o (r / 8 % 128)) ∨ (r % 8 = 3 ∧ v = .int (M.2.1 o (r / 8 % 128)))) ∧ c = c' ∧ ls = ls' ∧ v :: q = st' ∧ M = M' := by
  unfold lm_getf at h
  split at h
  · split at h
    · rename_i hg
      split at h
      · rename_i hk
        simp only [lm_nx, Option.some.injEq, Sum.inl.injEq, Prod.mk.injEq] at h
        exact ⟨_, _, _, rfl, hg, Or.inl ⟨hk, rfl⟩, h⟩
      · rename_i hk
        simp only [lm_nx, Option.some.injEq, Sum.inl.injEq, Prod.mk.injEq] at h
        exact ⟨_, _, _, rfl, hg, Or.inr (Or.inl ⟨hk, rfl⟩), h⟩
      · rename_i hk
        simp only [lm_nx, Option.some.injEq, Sum.inl.injEq, Prod.mk.injEq] at h
        exact ⟨_, _, _, rfl, hg, Or.inr (Or.inr (Or.inl ⟨hk, rfl⟩)), h⟩
      · rename_i hk
        simp only [lm_nx, Option.some.injEq, Sum.inl.injEq, Prod.mk.injEq] at h
        exact ⟨_, _, _, rfl, hg, Or.inr (Or.inr (Or.inr ⟨hk, rfl⟩)), h⟩
      · cases h
    · cases h
  · cases h
theorem lm_putf_inv {r : Nat} (h : lm_putf r c ls st M = some (.inl (c', ls', st', M'))) : ∃ (o : Nat) (q : List Value) (v : Value), st = v :: .ref o :: q ∧ (M.1.2.2 o).1 = r / 1024 ∧ c = c' ∧ ls = ls' ∧ q = st' ∧ ((∃ x, r % 8 = 0 ∧ v = .int x ∧ ((M.1, lm_up M.2.1 o (r / 8 % 128) x, M.2.2) : lm_M) = M') ∨ (∃ x, r % 8 = 1 ∧ v = .long x ∧ ((M.1, M.2.1, lm_up M.2.2.1 o (r / 8 % 128) x, M.2.2.2) : lm_M) = M') ∨ (∃ x, r % 8 = 2 ∧ v = .ref x ∧ ((M.1, M.2.1, M.2.2.1, lm_up M.2.2.2 o (r / 8 % 128) (.ref x)) : lm_M) = M') ∨ (∃ x, r % 8 = 3 ∧ v = .int x ∧ (x = 0 ∨ x = 1) ∧ ((M.1, lm_up M.2.1 o (r / 8 % 128) x, M.2.2) : lm_M) = M')) := by
  unfold lm_putf at h
  split at h
  · split at h
    · rename_i hg
      split at h
      · rename_i hk
        simp only [lm_nx, Option.some.injEq, Sum.inl.injEq, Prod.mk.injEq] at h
        exact ⟨_, _, _, rfl, hg, h.1, h.2.1, h.2.2.1, Or.inl ⟨_, hk, rfl, h.2.2.2⟩⟩
      · rename_i hk
        simp only [lm_nx, Option.some.injEq, Sum.inl.injEq, Prod.mk.injEq] at h
        exact ⟨_, _, _, rfl, hg, h.1, h.2.1, h.2.2.1, Or.inr (Or.inl ⟨_, hk, rfl, h.2.2.2⟩)⟩
      · rename_i hk
        simp only [lm_nx, Option.some.injEq, Sum.inl.injEq, Prod.mk.injEq] at h
        exact ⟨_, _, _, rfl, hg, h.1, h.2.1, h.2.2.1, Or.inr (Or.inr (Or.inl ⟨_, hk, rfl, h.2.2.2⟩))⟩
      · rename_i hk
        split at h
        · rename_i hx
          simp only [lm_nx, Option.some.injEq, Sum.inl.injEq, Prod.mk.injEq] at h
          exact ⟨_, _, _, rfl, hg, h.1, h.2.1, h.2.2.1, Or.inr (Or.inr (Or.inr ⟨_, hk, rfl, hx, h.2.2.2⟩))⟩
        · cases h
      · cases h
    · cases h
  · cases h
theorem lm_slen_inv (h : lm_slen c ls st M = some (.inl (c', ls', st', M'))) : ∃ (a : Nat) (r : List Value) (t : List Nat), st = .ref a :: r ∧ lm_B ≤ a ∧ (r.map fun v => v.category).sum ≤ 8 ∧ lm_str[a - lm_B]? = some t ∧ c = c' ∧ ls = ls' ∧ .int (Int32.ofNat t.length) :: r = st' ∧ M = M' := by
  unfold lm_slen at h
  split at h
  · split at h
    · rename_i hg
      split at h
      · rename_i t ht
        simp only [lm_nx, Option.some.injEq, Sum.inl.injEq, Prod.mk.injEq] at h
        exact ⟨_, _, _, rfl, hg.1, hg.2, ht, h⟩
      · cases h
    · cases h
  · cases h
theorem lm_sat_inv (h : lm_sat c ls st M = some (.inl (c', ls', st', M'))) : ∃ (i : Int32) (a : Nat) (r : List Value) (t : List Nat) (x : Nat), st = .int i :: .ref a :: r ∧ lm_B ≤ a ∧ ¬ i < 0 ∧ (r.map fun v => v.category).sum ≤ 8 ∧ lm_str[a - lm_B]? = some t ∧ t[i.toNatClampNeg]? = some x ∧ c = c' ∧ ls = ls' ∧ .int (Int32.ofNat x) :: r = st' ∧ M = M' := by
  unfold lm_sat at h
  split at h
  · split at h
    · rename_i hg
      split at h
      · rename_i t ht
        split at h
        · rename_i x hx
          simp only [lm_nx, Option.some.injEq, Sum.inl.injEq, Prod.mk.injEq] at h
          exact ⟨_, _, _, _, _, rfl, hg.1, hg.2.1, hg.2.2, ht, hx, h⟩
        · cases h
      · cases h
    · cases h
  · cases h
end LMINV
