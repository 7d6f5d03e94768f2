/-! ===== the simulation: calls, returns, whole methods ===== -/
section LMMONO
variable {J : Nat → lm_C} {i : Instr} {cd c' : lm_C} {ls ls' st st' : List Value} {M M' : lm_M}
theorem lm_step_swap : lm_step J .swap cd ls st M = lm_slen cd ls st M := by unfold lm_step; rfl
theorem lm_step_athrow : lm_step J .athrow cd ls st M = lm_sat cd ls st M := by unfold lm_step; rfl
set_option maxRecDepth 100000 in
set_option maxHeartbeats 4000000 in
theorem lm_step_mono (hs : lm_step J i cd ls st M = some (.inl (c', ls', st', M'))) : M.1.1 ≤ M'.1.1 ∧ M.1.2.1 ≤ M'.1.2.1 := by
  cases i
  case iconst a =>
    obtain ⟨rfl, rfl, rfl, rfl⟩ : cd = c' ∧ ls = ls' ∧ .int (Int32.ofInt a) :: st = st' ∧ M = M' := by simpa [lm_step, lm_nx] using hs
    exact ⟨Nat.le_refl _, Nat.le_refl _⟩
  case bipush a =>
    obtain ⟨rfl, rfl, rfl, rfl⟩ : cd = c' ∧ ls = ls' ∧ .int (Int8.ofInt a).toInt32 :: st = st' ∧ M = M' := by simpa [lm_step, lm_nx] using hs
    exact ⟨Nat.le_refl _, Nat.le_refl _⟩
  case sipush a =>
    obtain ⟨rfl, rfl, rfl, rfl⟩ : cd = c' ∧ ls = ls' ∧ .int (Int16.ofInt a).toInt32 :: st = st' ∧ M = M' := by simpa [lm_step, lm_nx] using hs
    exact ⟨Nat.le_refl _, Nat.le_refl _⟩
  case lconst a =>
    obtain ⟨rfl, rfl, rfl, rfl⟩ : cd = c' ∧ ls = ls' ∧ .long (Int64.ofNat (a : Nat)) :: st = st' ∧ M = M' := by simpa [lm_step, lm_nx] using hs
    exact ⟨Nat.le_refl _, Nat.le_refl _⟩
  case ldc2_w a =>
    obtain ⟨rfl, rfl, rfl, rfl⟩ : cd = c' ∧ ls = ls' ∧ .long (Int64.ofNat a) :: st = st' ∧ M = M' := by simpa [lm_step, lm_nx] using hs
    exact ⟨Nat.le_refl _, Nat.le_refl _⟩
  case ldc a =>
    obtain ⟨rfl, rfl, rfl, rfl⟩ : cd = c' ∧ ls = ls' ∧ .ref (lm_B + a) :: st = st' ∧ M = M' := by simpa [lm_step, lm_nx] using hs
    exact ⟨Nat.le_refl _, Nat.le_refl _⟩
  case getstatic a =>
    obtain ⟨rfl, rfl, rfl, rfl⟩ : cd = c' ∧ ls = ls' ∧ .ref (lm_B + a) :: st = st' ∧ M = M' := by simpa [lm_step, lm_nx] using hs
    exact ⟨Nat.le_refl _, Nat.le_refl _⟩
  case goto t =>
    obtain ⟨rfl, rfl, rfl, rfl⟩ : J t.toNat = c' ∧ ls = ls' ∧ st = st' ∧ M = M' := by simpa [lm_step, lm_nx] using hs
    exact ⟨Nat.le_refl _, Nat.le_refl _⟩
  case iload a =>
    obtain ⟨_, _, _, _, _, rfl⟩ := lm_ldI_inv hs
    exact ⟨Nat.le_refl _, Nat.le_refl _⟩
  case iload_n a =>
    obtain ⟨_, _, _, _, _, rfl⟩ := lm_ldI_inv hs
    exact ⟨Nat.le_refl _, Nat.le_refl _⟩
  case lload a =>
    obtain ⟨_, _, _, _, _, rfl⟩ := lm_ldL_inv hs
    exact ⟨Nat.le_refl _, Nat.le_refl _⟩
  case lload_n a =>
    obtain ⟨_, _, _, _, _, rfl⟩ := lm_ldL_inv hs
    exact ⟨Nat.le_refl _, Nat.le_refl _⟩
  case aload a =>
    obtain ⟨_, _, _, _, _, rfl⟩ := lm_ldA_inv hs
    exact ⟨Nat.le_refl _, Nat.le_refl _⟩
  case aload_n a =>
    obtain ⟨_, _, _, _, _, rfl⟩ := lm_ldA_inv hs
    exact ⟨Nat.le_refl _, Nat.le_refl _⟩
  case istore a =>
    obtain ⟨_, _, _, _, _, _, _, rfl⟩ := lm_stI_inv hs
    exact ⟨Nat.le_refl _, Nat.le_refl _⟩
  case istore_n a =>
    obtain ⟨_, _, _, _, _, _, _, rfl⟩ := lm_stI_inv hs
    exact ⟨Nat.le_refl _, Nat.le_refl _⟩
  case lstore a =>
    obtain ⟨_, _, _, _, _, _, _, rfl⟩ := lm_stL_inv hs
    exact ⟨Nat.le_refl _, Nat.le_refl _⟩
  case lstore_n a =>
    obtain ⟨_, _, _, _, _, _, _, rfl⟩ := lm_stL_inv hs
    exact ⟨Nat.le_refl _, Nat.le_refl _⟩
  case astore a =>
    obtain ⟨_, _, _, _, _, _, _, rfl⟩ := lm_stA_inv hs
    exact ⟨Nat.le_refl _, Nat.le_refl _⟩
  case astore_n a =>
    obtain ⟨_, _, _, _, _, _, _, rfl⟩ := lm_stA_inv hs
    exact ⟨Nat.le_refl _, Nat.le_refl _⟩
  case iinc a b =>
    obtain ⟨_, _, _, _, _, rfl⟩ := lm_iinc_inv hs
    exact ⟨Nat.le_refl _, Nat.le_refl _⟩
  case iadd =>
    obtain ⟨_, _, _, _, _, _, _, rfl⟩ := lm_bin_inv hs
    exact ⟨Nat.le_refl _, Nat.le_refl _⟩
  case isub =>
    obtain ⟨_, _, _, _, _, _, _, rfl⟩ := lm_bin_inv hs
    exact ⟨Nat.le_refl _, Nat.le_refl _⟩
  case imul =>
    obtain ⟨_, _, _, _, _, _, _, rfl⟩ := lm_bin_inv hs
    exact ⟨Nat.le_refl _, Nat.le_refl _⟩
  case iand =>
    obtain ⟨_, _, _, _, _, _, _, rfl⟩ := lm_bin_inv hs
    exact ⟨Nat.le_refl _, Nat.le_refl _⟩
  case ior =>
    obtain ⟨_, _, _, _, _, _, _, rfl⟩ := lm_bin_inv hs
    exact ⟨Nat.le_refl _, Nat.le_refl _⟩
  case ishl =>
    obtain ⟨_, _, _, _, _, _, _, rfl⟩ := lm_bin_inv hs
    exact ⟨Nat.le_refl _, Nat.le_refl _⟩
  case ishr =>
    obtain ⟨_, _, _, _, _, _, _, rfl⟩ := lm_bin_inv hs
    exact ⟨Nat.le_refl _, Nat.le_refl _⟩
  case idiv =>
    obtain ⟨_, _, _, _, _, _, _, _, rfl⟩ := lm_div_inv hs
    exact ⟨Nat.le_refl _, Nat.le_refl _⟩
  case irem =>
    obtain ⟨_, _, _, _, _, _, _, _, rfl⟩ := lm_div_inv hs
    exact ⟨Nat.le_refl _, Nat.le_refl _⟩
  case land =>
    obtain ⟨_, _, _, _, _, _, _, rfl⟩ := lm_binL_inv hs
    exact ⟨Nat.le_refl _, Nat.le_refl _⟩
  case lor =>
    obtain ⟨_, _, _, _, _, _, _, rfl⟩ := lm_binL_inv hs
    exact ⟨Nat.le_refl _, Nat.le_refl _⟩
  case lshl =>
    obtain ⟨_, _, _, _, _, _, _, rfl⟩ := lm_shL_inv hs
    exact ⟨Nat.le_refl _, Nat.le_refl _⟩
  case lshr =>
    obtain ⟨_, _, _, _, _, _, _, rfl⟩ := lm_shL_inv hs
    exact ⟨Nat.le_refl _, Nat.le_refl _⟩
  case lushr =>
    obtain ⟨_, _, _, _, _, _, _, rfl⟩ := lm_shL_inv hs
    exact ⟨Nat.le_refl _, Nat.le_refl _⟩
  case lcmp =>
    obtain ⟨_, _, _, _, _, _, _, rfl⟩ := lm_cmpL_inv hs
    exact ⟨Nat.le_refl _, Nat.le_refl _⟩
  case i2l =>
    obtain ⟨_, _, _, _, _, _, rfl⟩ := lm_un_inv hs
    exact ⟨Nat.le_refl _, Nat.le_refl _⟩
  case i2b =>
    obtain ⟨_, _, _, _, _, _, rfl⟩ := lm_un_inv hs
    exact ⟨Nat.le_refl _, Nat.le_refl _⟩
  case l2i =>
    obtain ⟨_, _, _, _, _, _, rfl⟩ := lm_unL_inv hs
    exact ⟨Nat.le_refl _, Nat.le_refl _⟩
  case dup =>
    obtain ⟨_, _, _, _, _, _, _, rfl⟩ := lm_dup_inv hs
    exact ⟨Nat.le_refl _, Nat.le_refl _⟩
  case pop =>
    obtain ⟨_, _, _, _, _, _, _, rfl⟩ := lm_pop1_inv hs
    exact ⟨Nat.le_refl _, Nat.le_refl _⟩
  case dup2 =>
    obtain ⟨_, _, _, _, _, _, _, _, rfl⟩ := lm_dup2_inv hs
    exact ⟨Nat.le_refl _, Nat.le_refl _⟩
  case ifCond b t => cases b <;> (obtain ⟨_, _, _, _, _, _, rfl⟩ := lm_br1_inv hs; exact ⟨Nat.le_refl _, Nat.le_refl _⟩)
  case if_icmp b t => cases b <;> (obtain ⟨_, _, _, _, _, _, _, rfl⟩ := lm_br2_inv hs; exact ⟨Nat.le_refl _, Nat.le_refl _⟩)
  case tableswitch d lo hi os =>
    obtain ⟨_, _, _, _, _, _, rfl⟩ := lm_tab_inv hs
    exact ⟨Nat.le_refl _, Nat.le_refl _⟩
  case lookupswitch d ps =>
    obtain ⟨_, _, _, _, _, _, rfl⟩ := lm_lk_inv hs
    exact ⟨Nat.le_refl _, Nat.le_refl _⟩
  case getfield r =>
    obtain ⟨_, _, _, _, _, _, _, _, _, rfl⟩ := lm_getf_inv hs
    exact ⟨Nat.le_refl _, Nat.le_refl _⟩
  case putfield r =>
    obtain ⟨o, q, v, rfl, ht, rfl, rfl, rfl, hM⟩ := lm_putf_inv hs
    rcases hM with ⟨x, hk, rfl, rfl⟩ | ⟨x, hk, rfl, rfl⟩ | ⟨x, hk, rfl, rfl⟩ | ⟨x, hk, rfl, hx01, rfl⟩ <;> exact ⟨Nat.le_refl _, Nat.le_refl _⟩
  case iaload =>
    obtain ⟨_, _, _, _, _, _, _, _, rfl⟩ := lm_ald_inv hs
    exact ⟨Nat.le_refl _, Nat.le_refl _⟩
  case baload =>
    obtain ⟨_, _, _, _, _, _, _, _, rfl⟩ := lm_bld_inv hs
    exact ⟨Nat.le_refl _, Nat.le_refl _⟩
  case laload =>
    obtain ⟨_, _, _, _, _, _, _, _, rfl⟩ := lm_lld_inv hs
    exact ⟨Nat.le_refl _, Nat.le_refl _⟩
  case iastore =>
    obtain ⟨_, _, _, _, _, _, _, _, _, rfl⟩ := lm_ast_inv hs
    exact ⟨Nat.le_refl _, Nat.le_refl _⟩
  case bastore =>
    obtain ⟨_, _, _, _, _, _, _, _, _, rfl⟩ := lm_bst_inv hs
    exact ⟨Nat.le_refl _, Nat.le_refl _⟩
  case lastore =>
    obtain ⟨_, _, _, _, _, _, _, _, _, rfl⟩ := lm_lst_inv hs
    exact ⟨Nat.le_refl _, Nat.le_refl _⟩
  case arraylength =>
    obtain ⟨_, _, _, _, _, _, _, rfl⟩ := lm_len_inv hs
    exact ⟨Nat.le_refl _, Nat.le_refl _⟩
  case newarray t => obtain ⟨_, _, _, _, _, _, _, rfl⟩ := lm_newa_inv hs; exact ⟨Nat.le_succ _, Nat.le_add_right _ _⟩
  case new ci => obtain ⟨_, _, _, _, rfl⟩ := lm_new_inv hs; exact ⟨Nat.le_succ _, Nat.le_add_right _ _⟩
  case monitorenter =>
    obtain ⟨_, _, _, _, _, _, _, _, _, _, _, rfl⟩ := lm_copy_inv hs
    exact ⟨Nat.le_refl _, Nat.le_refl _⟩
  case monitorexit =>
    obtain ⟨_, _, _, _, _, _, _, rfl⟩ := lm_obj_inv hs
    exact ⟨Nat.le_refl _, Nat.le_refl _⟩
  case swap =>
    rw [lm_step_swap] at hs
    obtain ⟨_, _, _, _, _, _, _, _, _, _, rfl⟩ := lm_slen_inv hs
    exact ⟨Nat.le_refl _, Nat.le_refl _⟩
  case athrow =>
    rw [lm_step_athrow] at hs
    obtain ⟨_, _, _, _, _, _, _, _, _, _, _, _, _, _, rfl⟩ := lm_sat_inv hs
    exact ⟨Nat.le_refl _, Nat.le_refl _⟩
  case invokevirtual r =>
    have hs2 : lm_inv r cd ls st M = some (.inl (c', ls', st', M')) := hs
    unfold lm_inv at hs2
    split at hs2
    · split at hs2 <;> cases hs2
    · cases hs2
  case invokespecial r =>
    have hs2 : lm_inv r cd ls st M = some (.inl (c', ls', st', M')) := hs
    unfold lm_inv at hs2
    split at hs2
    · split at hs2 <;> cases hs2
    · cases hs2
  case invokestatic r =>
    have hs2 : lm_inv r cd ls st M = some (.inl (c', ls', st', M')) := hs
    unfold lm_inv at hs2
    split at hs2
    · split at hs2 <;> cases hs2
    · cases hs2
  case ireturn =>
    have hs2 : lm_ret true cd ls st M = some (.inl (c', ls', st', M')) := hs
    unfold lm_ret at hs2
    split at hs2 <;> cases hs2
  case return_ =>
    have hs2 : lm_ret false cd ls st M = some (.inl (c', ls', st', M')) := hs
    unfold lm_ret at hs2
    split at hs2 <;> cases hs2
  all_goals (exact nomatch hs)
theorem lm_inv_call {r : Nat} {mm : Nat} {as : List Value} (h : lm_inv r cd ls st M = some (.inr (.inr (mm, as, c', ls', st', M')))) : lm_pop (r / 128 % 16) [] st = some (as, st') ∧ (st'.map fun v => v.category).sum ≤ 8 ∧ lm_rc r as M = true ∧ r / 2048 = mm ∧ cd = c' ∧ ls = ls' ∧ M = M' := by
  unfold lm_inv at h
  split at h
  · rename_i as2 st2 hp
    split at h
    · rename_i hg
      simp only [Option.some.injEq, Sum.inr.injEq, Prod.mk.injEq] at h
      obtain ⟨h1, rfl, h3, h4, rfl, h6⟩ := h
      exact ⟨hp, hg.1, hg.2, h1, h3, h4, h6⟩
    · cases h
  · cases h
theorem lm_pop_spec : ∀ (n : Nat) (acc st as st' : List Value), lm_pop n acc st = some (as, st') → ∃ b, st = b ++ st' ∧ b.length = n ∧ as = b.reverse ++ acc
  | 0, acc, st, as, st', h => by
    simp only [lm_pop, Option.some.injEq, Prod.mk.injEq] at h
    exact ⟨[], by simp [h.2], rfl, by simp [h.1]⟩
  | n + 1, acc, [], as, st', h => by simp [lm_pop] at h
  | n + 1, acc, v :: st, as, st', h => by
    obtain ⟨b, h1, h2, h3⟩ := lm_pop_spec n (v :: acc) st as st' h
    exact ⟨v :: b, by simp [h1], by simp [h2], by simp [h3]⟩
theorem lm_ldI_L {k : Nat} {c : lm_C} {ls : List Value} {st : List Value} {M : lm_M} {y : (Option Value × lm_M) ⊕ (Nat × List Value × lm_C × List Value × List Value × lm_M)} (h : lm_ldI k c ls st M = some (.inr y)) : False := by
  unfold lm_ldI at h
  repeat' (split at h)
  all_goals (cases h)
theorem lm_ldL_L {k : Nat} {c : lm_C} {ls : List Value} {st : List Value} {M : lm_M} {y : (Option Value × lm_M) ⊕ (Nat × List Value × lm_C × List Value × List Value × lm_M)} (h : lm_ldL k c ls st M = some (.inr y)) : False := by
  unfold lm_ldL at h
  repeat' (split at h)
  all_goals (cases h)
theorem lm_ldA_L {k : Nat} {c : lm_C} {ls : List Value} {st : List Value} {M : lm_M} {y : (Option Value × lm_M) ⊕ (Nat × List Value × lm_C × List Value × List Value × lm_M)} (h : lm_ldA k c ls st M = some (.inr y)) : False := by
  unfold lm_ldA at h
  repeat' (split at h)
  all_goals (cases h)
theorem lm_stI_L {k : Nat} {c : lm_C} {ls : List Value} {st : List Value} {M : lm_M} {y : (Option Value × lm_M) ⊕ (Nat × List Value × lm_C × List Value × List Value × lm_M)} (h : lm_stI k c ls st M = some (.inr y)) : False := by
  unfold lm_stI at h
  repeat' (split at h)
  all_goals (cases h)
theorem lm_stL_L {k : Nat} {c : lm_C} {ls : List Value} {st : List Value} {M : lm_M} {y : (Option Value × lm_M) ⊕ (Nat × List Value × lm_C × List Value × List Value × lm_M)} (h : lm_stL k c ls st M = some (.inr y)) : False := by
  unfold lm_stL at h
  repeat' (split at h)
  all_goals (cases h)
theorem lm_stA_L {k : Nat} {c : lm_C} {ls : List Value} {st : List Value} {M : lm_M} {y : (Option Value × lm_M) ⊕ (Nat × List Value × lm_C × List Value × List Value × lm_M)} (h : lm_stA k c ls st M = some (.inr y)) : False := by
  unfold lm_stA at h
  repeat' (split at h)
  all_goals (cases h)
theorem lm_iinc_L {k : Nat} {n : Int} {c : lm_C} {ls : List Value} {st : List Value} {M : lm_M} {y : (Option Value × lm_M) ⊕ (Nat × List Value × lm_C × List Value × List Value × lm_M)} (h : lm_iinc k n c ls st M = some (.inr y)) : False := by
  unfold lm_iinc at h
  repeat' (split at h)
  all_goals (cases h)
theorem lm_bin_L {f : Int32 → Int32 → Int32} {c : lm_C} {ls : List Value} {st : List Value} {M : lm_M} {y : (Option Value × lm_M) ⊕ (Nat × List Value × lm_C × List Value × List Value × lm_M)} (h : lm_bin f c ls st M = some (.inr y)) : False := by
  unfold lm_bin at h
  repeat' (split at h)
  all_goals (cases h)
theorem lm_div_L {f : Int32 → Int32 → Int32} {c : lm_C} {ls : List Value} {st : List Value} {M : lm_M} {y : (Option Value × lm_M) ⊕ (Nat × List Value × lm_C × List Value × List Value × lm_M)} (h : lm_div f c ls st M = some (.inr y)) : False := by
  unfold lm_div at h
  repeat' (split at h)
  all_goals (cases h)
theorem lm_binL_L {f : Int64 → Int64 → Int64} {c : lm_C} {ls : List Value} {st : List Value} {M : lm_M} {y : (Option Value × lm_M) ⊕ (Nat × List Value × lm_C × List Value × List Value × lm_M)} (h : lm_binL f c ls st M = some (.inr y)) : False := by
  unfold lm_binL at h
  repeat' (split at h)
  all_goals (cases h)
theorem lm_shL_L {f : Int64 → Int32 → Int64} {c : lm_C} {ls : List Value} {st : List Value} {M : lm_M} {y : (Option Value × lm_M) ⊕ (Nat × List Value × lm_C × List Value × List Value × lm_M)} (h : lm_shL f c ls st M = some (.inr y)) : False := by
  unfold lm_shL at h
  repeat' (split at h)
  all_goals (cases h)
theorem lm_cmpL_L {c : lm_C} {ls : List Value} {st : List Value} {M : lm_M} {y : (Option Value × lm_M) ⊕ (Nat × List Value × lm_C × List Value × List Value × lm_M)} (h : lm_cmpL c ls st M = some (.inr y)) : False := by
  unfold lm_cmpL at h
  repeat' (split at h)
  all_goals (cases h)
theorem lm_un_L {f : Int32 → Value} {c : lm_C} {ls : List Value} {st : List Value} {M : lm_M} {y : (Option Value × lm_M) ⊕ (Nat × List Value × lm_C × List Value × List Value × lm_M)} (h : lm_un f c ls st M = some (.inr y)) : False := by
  unfold lm_un at h
  repeat' (split at h)
  all_goals (cases h)
theorem lm_unL_L {f : Int64 → Value} {c : lm_C} {ls : List Value} {st : List Value} {M : lm_M} {y : (Option Value × lm_M) ⊕ (Nat × List Value × lm_C × List Value × List Value × lm_M)} (h : lm_unL f c ls st M = some (.inr y)) : False := by
  unfold lm_unL at h
  repeat' (split at h)
  all_goals (cases h)
theorem lm_br1_L {f : Int32 → Bool} {J : Nat → lm_C} {t : Int} {c : lm_C} {ls : List Value} {st : List Value} {M : lm_M} {y : (Option Value × lm_M) ⊕ (Nat × List Value × lm_C × List Value × List Value × lm_M)} (h : lm_br1 f J t c ls st M = some (.inr y)) : False := by
  unfold lm_br1 at h
  repeat' (split at h)
  all_goals (cases h)
theorem lm_br2_L {f : Int32 → Int32 → Bool} {J : Nat → lm_C} {t : Int} {c : lm_C} {ls : List Value} {st : List Value} {M : lm_M} {y : (Option Value × lm_M) ⊕ (Nat × List Value × lm_C × List Value × List Value × lm_M)} (h : lm_br2 f J t c ls st M = some (.inr y)) : False := by
  unfold lm_br2 at h
  repeat' (split at h)
  all_goals (cases h)
theorem lm_tab_L {J : Nat → lm_C} {d : Int} {lo : Int} {hi : Int} {os : Array Int} {ls : List Value} {st : List Value} {M : lm_M} {y : (Option Value × lm_M) ⊕ (Nat × List Value × lm_C × List Value × List Value × lm_M)} (h : lm_tab J d lo hi os ls st M = some (.inr y)) : False := by
  unfold lm_tab at h
  repeat' (split at h)
  all_goals (cases h)
theorem lm_lk_L {J : Nat → lm_C} {d : Int} {ps : Array (Int × Int)} {ls : List Value} {st : List Value} {M : lm_M} {y : (Option Value × lm_M) ⊕ (Nat × List Value × lm_C × List Value × List Value × lm_M)} (h : lm_lk J d ps ls st M = some (.inr y)) : False := by
  unfold lm_lk at h
  repeat' (split at h)
  all_goals (cases h)
theorem lm_dup_L {c : lm_C} {ls : List Value} {st : List Value} {M : lm_M} {y : (Option Value × lm_M) ⊕ (Nat × List Value × lm_C × List Value × List Value × lm_M)} (h : lm_dup c ls st M = some (.inr y)) : False := by
  unfold lm_dup at h
  repeat' (split at h)
  all_goals (cases h)
theorem lm_pop1_L {c : lm_C} {ls : List Value} {st : List Value} {M : lm_M} {y : (Option Value × lm_M) ⊕ (Nat × List Value × lm_C × List Value × List Value × lm_M)} (h : lm_pop1 c ls st M = some (.inr y)) : False := by
  unfold lm_pop1 at h
  repeat' (split at h)
  all_goals (cases h)
theorem lm_dup2_L {c : lm_C} {ls : List Value} {st : List Value} {M : lm_M} {y : (Option Value × lm_M) ⊕ (Nat × List Value × lm_C × List Value × List Value × lm_M)} (h : lm_dup2 c ls st M = some (.inr y)) : False := by
  unfold lm_dup2 at h
  repeat' (split at h)
  all_goals (cases h)
theorem lm_getf_L {r : Nat} {c : lm_C} {ls : List Value} {st : List Value} {M : lm_M} {y : (Option Value × lm_M) ⊕ (Nat × List Value × lm_C × List Value × List Value × lm_M)} (h : lm_getf r c ls st M = some (.inr y)) : False := by
  unfold lm_getf at h
  repeat' (split at h)
  all_goals (cases h)
theorem lm_putf_L {r : Nat} {c : lm_C} {ls : List Value} {st : List Value} {M : lm_M} {y : (Option Value × lm_M) ⊕ (Nat × List Value × lm_C × List Value × List Value × lm_M)} (h : lm_putf r c ls st M = some (.inr y)) : False := by
  unfold lm_putf at h
  repeat' (split at h)
  all_goals (cases h)
theorem lm_ald_L {c : lm_C} {ls : List Value} {st : List Value} {M : lm_M} {y : (Option Value × lm_M) ⊕ (Nat × List Value × lm_C × List Value × List Value × lm_M)} (h : lm_ald c ls st M = some (.inr y)) : False := by
  unfold lm_ald at h
  repeat' (split at h)
  all_goals (cases h)
theorem lm_bld_L {c : lm_C} {ls : List Value} {st : List Value} {M : lm_M} {y : (Option Value × lm_M) ⊕ (Nat × List Value × lm_C × List Value × List Value × lm_M)} (h : lm_bld c ls st M = some (.inr y)) : False := by
  unfold lm_bld at h
  repeat' (split at h)
  all_goals (cases h)
theorem lm_lld_L {c : lm_C} {ls : List Value} {st : List Value} {M : lm_M} {y : (Option Value × lm_M) ⊕ (Nat × List Value × lm_C × List Value × List Value × lm_M)} (h : lm_lld c ls st M = some (.inr y)) : False := by
  unfold lm_lld at h
  repeat' (split at h)
  all_goals (cases h)
theorem lm_ast_L {c : lm_C} {ls : List Value} {st : List Value} {M : lm_M} {y : (Option Value × lm_M) ⊕ (Nat × List Value × lm_C × List Value × List Value × lm_M)} (h : lm_ast c ls st M = some (.inr y)) : False := by
  unfold lm_ast at h
  repeat' (split at h)
  all_goals (cases h)
theorem lm_bst_L {c : lm_C} {ls : List Value} {st : List Value} {M : lm_M} {y : (Option Value × lm_M) ⊕ (Nat × List Value × lm_C × List Value × List Value × lm_M)} (h : lm_bst c ls st M = some (.inr y)) : False := by
  unfold lm_bst at h
  repeat' (split at h)
  all_goals (cases h)
theorem lm_lst_L {c : lm_C} {ls : List Value} {st : List Value} {M : lm_M} {y : (Option Value × lm_M) ⊕ (Nat × List Value × lm_C × List Value × List Value × lm_M)} (h : lm_lst c ls st M = some (.inr y)) : False := by
  unfold lm_lst at h
  repeat' (split at h)
  all_goals (cases h)
theorem lm_len_L {c : lm_C} {ls : List Value} {st : List Value} {M : lm_M} {y : (Option Value × lm_M) ⊕ (Nat × List Value × lm_C × List Value × List Value × lm_M)} (h : lm_len c ls st M = some (.inr y)) : False := by
  unfold lm_len at h
  repeat' (split at h)
  all_goals (cases h)
theorem lm_newa_L {t : ArrayType} {c : lm_C} {ls : List Value} {st : List Value} {M : lm_M} {y : (Option Value × lm_M) ⊕ (Nat × List Value × lm_C × List Value × List Value × lm_M)} (h : lm_newa t c ls st M = some (.inr y)) : False := by
  unfold lm_newa at h
  repeat' (split at h)
  all_goals (cases h)
theorem lm_new_L {ci : Nat} {c : lm_C} {ls : List Value} {st : List Value} {M : lm_M} {y : (Option Value × lm_M) ⊕ (Nat × List Value × lm_C × List Value × List Value × lm_M)} (h : lm_new ci c ls st M = some (.inr y)) : False := by
  unfold lm_new at h
  repeat' (split at h)
  all_goals (cases h)
theorem lm_copy_L {c : lm_C} {ls : List Value} {st : List Value} {M : lm_M} {y : (Option Value × lm_M) ⊕ (Nat × List Value × lm_C × List Value × List Value × lm_M)} (h : lm_copy c ls st M = some (.inr y)) : False := by
  unfold lm_copy at h
  repeat' (split at h)
  all_goals (cases h)
theorem lm_obj_L {c : lm_C} {ls : List Value} {st : List Value} {M : lm_M} {y : (Option Value × lm_M) ⊕ (Nat × List Value × lm_C × List Value × List Value × lm_M)} (h : lm_obj c ls st M = some (.inr y)) : False := by
  unfold lm_obj at h
  repeat' (split at h)
  all_goals (cases h)
theorem lm_slen_L {c : lm_C} {ls : List Value} {st : List Value} {M : lm_M} {y : (Option Value × lm_M) ⊕ (Nat × List Value × lm_C × List Value × List Value × lm_M)} (h : lm_slen c ls st M = some (.inr y)) : False := by
  unfold lm_slen at h
  repeat' (split at h)
  all_goals (cases h)
theorem lm_sat_L {c : lm_C} {ls : List Value} {st : List Value} {M : lm_M} {y : (Option Value × lm_M) ⊕ (Nat × List Value × lm_C × List Value × List Value × lm_M)} (h : lm_sat c ls st M = some (.inr y)) : False := by
  unfold lm_sat at h
  repeat' (split at h)
  all_goals (cases h)
theorem lm_nx_L {c : lm_C} {ls : List Value} {st : List Value} {M : lm_M} {y : (Option Value × lm_M) ⊕ (Nat × List Value × lm_C × List Value × List Value × lm_M)} (h : lm_nx c ls st M = some (.inr y)) : False := by
  unfold lm_nx at h
  repeat' (split at h)
  all_goals (cases h)
/-- which steps are calls, which are returns -/
theorem lm_step_call {mm : Nat} {as : List Value} (hs : lm_step J i cd ls st M = some (.inr (.inr (mm, as, c', ls', st', M')))) : ∃ r, (i = .invokevirtual r ∨ i = .invokespecial r ∨ i = .invokestatic r) ∧ lm_inv r cd ls st M = some (.inr (.inr (mm, as, c', ls', st', M'))) := by
  cases i
  case invokevirtual r => exact ⟨r, Or.inl rfl, hs⟩
  case invokespecial r => exact ⟨r, Or.inr (Or.inl rfl), hs⟩
  case invokestatic r => exact ⟨r, Or.inr (Or.inr rfl), hs⟩
  case iload => exact (lm_ldI_L hs).elim
  case iload_n => exact (lm_ldI_L hs).elim
  case lload => exact (lm_ldL_L hs).elim
  case lload_n => exact (lm_ldL_L hs).elim
  case aload => exact (lm_ldA_L hs).elim
  case aload_n => exact (lm_ldA_L hs).elim
  case istore => exact (lm_stI_L hs).elim
  case istore_n => exact (lm_stI_L hs).elim
  case lstore => exact (lm_stL_L hs).elim
  case lstore_n => exact (lm_stL_L hs).elim
  case astore => exact (lm_stA_L hs).elim
  case astore_n => exact (lm_stA_L hs).elim
  case iinc => exact (lm_iinc_L hs).elim
  case iadd => exact (lm_bin_L hs).elim
  case isub => exact (lm_bin_L hs).elim
  case imul => exact (lm_bin_L hs).elim
  case iand => exact (lm_bin_L hs).elim
  case ior => exact (lm_bin_L hs).elim
  case ishl => exact (lm_bin_L hs).elim
  case ishr => exact (lm_bin_L hs).elim
  case idiv => exact (lm_div_L hs).elim
  case irem => exact (lm_div_L hs).elim
  case land => exact (lm_binL_L hs).elim
  case lor => exact (lm_binL_L hs).elim
  case lshl => exact (lm_shL_L hs).elim
  case lshr => exact (lm_shL_L hs).elim
  case lushr => exact (lm_shL_L hs).elim
  case lcmp => exact (lm_cmpL_L hs).elim
  case i2l => exact (lm_un_L hs).elim
  case i2b => exact (lm_un_L hs).elim
  case l2i => exact (lm_unL_L hs).elim
  case tableswitch => exact (lm_tab_L hs).elim
  case lookupswitch => exact (lm_lk_L hs).elim
  case dup => exact (lm_dup_L hs).elim
  case pop => exact (lm_pop1_L hs).elim
  case dup2 => exact (lm_dup2_L hs).elim
  case getfield => exact (lm_getf_L hs).elim
  case putfield => exact (lm_putf_L hs).elim
  case iaload => exact (lm_ald_L hs).elim
  case baload => exact (lm_bld_L hs).elim
  case laload => exact (lm_lld_L hs).elim
  case iastore => exact (lm_ast_L hs).elim
  case bastore => exact (lm_bst_L hs).elim
  case lastore => exact (lm_lst_L hs).elim
  case arraylength => exact (lm_len_L hs).elim
  case newarray => exact (lm_newa_L hs).elim
  case new => exact (lm_new_L hs).elim
  case monitorenter => exact (lm_copy_L hs).elim
  case monitorexit => exact (lm_obj_L hs).elim
  case swap =>
    rw [lm_step_swap] at hs
    exact (lm_slen_L hs).elim
  case athrow =>
    rw [lm_step_athrow] at hs
    exact (lm_sat_L hs).elim
  case iconst => exact (lm_nx_L hs).elim
  case bipush => exact (lm_nx_L hs).elim
  case sipush => exact (lm_nx_L hs).elim
  case lconst => exact (lm_nx_L hs).elim
  case ldc2_w => exact (lm_nx_L hs).elim
  case ldc => exact (lm_nx_L hs).elim
  case getstatic => exact (lm_nx_L hs).elim
  case goto => exact (lm_nx_L hs).elim
  case ifCond b t => cases b <;> exact (lm_br1_L hs).elim
  case if_icmp b t => cases b <;> exact (lm_br2_L hs).elim
  case ireturn =>
    have hs2 : lm_ret true cd ls st M = some (.inr (.inr (mm, as, c', ls', st', M'))) := hs
    unfold lm_ret at hs2
    split at hs2 <;> cases hs2
  case return_ =>
    have hs2 : lm_ret false cd ls st M = some (.inr (.inr (mm, as, c', ls', st', M'))) := hs
    unfold lm_ret at hs2
    split at hs2 <;> cases hs2
  all_goals (exact nomatch hs)
theorem lm_step_ret {v : Option Value} (hs : lm_step J i cd ls st M = some (.inr (.inl (v, M')))) : (i = .ireturn ∧ ∃ x : Int32, st = [.int x] ∧ v = some (.int x) ∧ M = M') ∨ (i = .return_ ∧ st = [] ∧ v = none ∧ M = M') := by
  cases i
  case ireturn =>
    have hs2 : lm_ret true cd ls st M = some (.inr (.inl (v, M'))) := hs
    unfold lm_ret at hs2
    split at hs2
    · simp only [Option.some.injEq, Sum.inr.injEq, Sum.inl.injEq, Prod.mk.injEq] at hs2
      exact Or.inl ⟨rfl, _, rfl, hs2.1.symm, hs2.2⟩
    · rename_i e; cases e
    · cases hs2
  case return_ =>
    have hs2 : lm_ret false cd ls st M = some (.inr (.inl (v, M'))) := hs
    unfold lm_ret at hs2
    split at hs2
    · rename_i e; cases e
    · simp only [Option.some.injEq, Sum.inr.injEq, Sum.inl.injEq, Prod.mk.injEq] at hs2
      exact Or.inr ⟨rfl, rfl, hs2.1.symm, hs2.2⟩
    · cases hs2
  case iload => exact (lm_ldI_L hs).elim
  case iload_n => exact (lm_ldI_L hs).elim
  case lload => exact (lm_ldL_L hs).elim
  case lload_n => exact (lm_ldL_L hs).elim
  case aload => exact (lm_ldA_L hs).elim
  case aload_n => exact (lm_ldA_L hs).elim
  case istore => exact (lm_stI_L hs).elim
  case istore_n => exact (lm_stI_L hs).elim
  case lstore => exact (lm_stL_L hs).elim
  case lstore_n => exact (lm_stL_L hs).elim
  case astore => exact (lm_stA_L hs).elim
  case astore_n => exact (lm_stA_L hs).elim
  case iinc => exact (lm_iinc_L hs).elim
  case iadd => exact (lm_bin_L hs).elim
  case isub => exact (lm_bin_L hs).elim
  case imul => exact (lm_bin_L hs).elim
  case iand => exact (lm_bin_L hs).elim
  case ior => exact (lm_bin_L hs).elim
  case ishl => exact (lm_bin_L hs).elim
  case ishr => exact (lm_bin_L hs).elim
  case idiv => exact (lm_div_L hs).elim
  case irem => exact (lm_div_L hs).elim
  case land => exact (lm_binL_L hs).elim
  case lor => exact (lm_binL_L hs).elim
  case lshl => exact (lm_shL_L hs).elim
  case lshr => exact (lm_shL_L hs).elim
  case lushr => exact (lm_shL_L hs).elim
  case lcmp => exact (lm_cmpL_L hs).elim
  case i2l => exact (lm_un_L hs).elim
  case i2b => exact (lm_un_L hs).elim
  case l2i => exact (lm_unL_L hs).elim
  case tableswitch => exact (lm_tab_L hs).elim
  case lookupswitch => exact (lm_lk_L hs).elim
  case dup => exact (lm_dup_L hs).elim
  case pop => exact (lm_pop1_L hs).elim
  case dup2 => exact (lm_dup2_L hs).elim
  case getfield => exact (lm_getf_L hs).elim
  case putfield => exact (lm_putf_L hs).elim
  case iaload => exact (lm_ald_L hs).elim
  case baload => exact (lm_bld_L hs).elim
  case laload => exact (lm_lld_L hs).elim
  case iastore => exact (lm_ast_L hs).elim
  case bastore => exact (lm_bst_L hs).elim
  case lastore => exact (lm_lst_L hs).elim
  case arraylength => exact (lm_len_L hs).elim
  case newarray => exact (lm_newa_L hs).elim
  case new => exact (lm_new_L hs).elim
  case monitorenter => exact (lm_copy_L hs).elim
  case monitorexit => exact (lm_obj_L hs).elim
  case swap =>
    rw [lm_step_swap] at hs
    exact (lm_slen_L hs).elim
  case athrow =>
    rw [lm_step_athrow] at hs
    exact (lm_sat_L hs).elim
  case iconst => exact (lm_nx_L hs).elim
  case bipush => exact (lm_nx_L hs).elim
  case sipush => exact (lm_nx_L hs).elim
  case lconst => exact (lm_nx_L hs).elim
  case ldc2_w => exact (lm_nx_L hs).elim
  case ldc => exact (lm_nx_L hs).elim
  case getstatic => exact (lm_nx_L hs).elim
  case goto => exact (lm_nx_L hs).elim
  case ifCond b t => cases b <;> exact (lm_br1_L hs).elim
  case if_icmp b t => cases b <;> exact (lm_br2_L hs).elim
  case invokevirtual r =>
    have hs2 : lm_inv r cd ls st M = some (.inr (.inl (v, M'))) := hs
    unfold lm_inv at hs2
    split at hs2
    · split at hs2 <;> cases hs2
    · cases hs2
  case invokespecial r =>
    have hs2 : lm_inv r cd ls st M = some (.inr (.inl (v, M'))) := hs
    unfold lm_inv at hs2
    split at hs2
    · split at hs2 <;> cases hs2
    · cases hs2
  case invokestatic r =>
    have hs2 : lm_inv r cd ls st M = some (.inr (.inl (v, M'))) := hs
    unfold lm_inv at hs2
    split at hs2
    · split at hs2 <;> cases hs2
    · cases hs2
  all_goals (exact nomatch hs)
theorem lm_run_mono {K : Nat → List Value → lm_M → Option (Option Value × lm_M)} (hK : ∀ mi as M v M', K mi as M = some (v, M') → M.1.1 ≤ M'.1.1 ∧ M.1.2.1 ≤ M'.1.2.1) : ∀ (f : Nat) (cd : lm_C) (ls st : List Value) (M : lm_M) (v : Option Value) (M' : lm_M), lm_run K J f cd ls st M = some (v, M') → M.1.1 ≤ M'.1.1 ∧ M.1.2.1 ≤ M'.1.2.1 := by
  intro f
  induction f with
  | zero => intro cd ls st M v M' h; simp [lm_run] at h
  | succ f ih =>
    intro cd ls st M v M' h
    match cd, h with
    | [], h => simp [lm_run] at h
    | (pc, i) :: cd, h =>
      cases hs : lm_step J i cd ls st M with
      | none => simp [lm_run, hs] at h
      | some r =>
        rcases r with ⟨c1, ls1, st1, M1⟩ | ⟨v1, M1⟩ | ⟨mm, as, c1, ls1, st1, M1⟩
        · simp only [lm_run, hs] at h
          have h1 := lm_step_mono hs
          have h2 := ih _ _ _ _ _ _ h
          exact ⟨Nat.le_trans h1.1 h2.1, Nat.le_trans h1.2 h2.2⟩
        · simp only [lm_run, hs, Option.some.injEq, Prod.mk.injEq] at h
          rcases lm_step_ret hs with ⟨-, x, -, -, e⟩ | ⟨-, -, -, e⟩ <;> (rw [e, h.2]; exact ⟨Nat.le_refl _, Nat.le_refl _⟩)
        · simp only [lm_run, hs] at h
          obtain ⟨r, -, hi⟩ := lm_step_call hs
          have e := (lm_inv_call hi).2.2.2.2.2.2
          cases hk : K mm as M1 with
          | none => simp [hk] at h
          | some q =>
            obtain ⟨v2, M2⟩ := q
            simp only [hk] at h
            have h1 := hK _ _ _ _ _ hk
            have h2 := ih _ _ _ _ _ _ h
            rw [e]
            exact ⟨Nat.le_trans h1.1 h2.1, Nat.le_trans h1.2 h2.2⟩
theorem lm_call_mono (F : Nat) : ∀ (d mi : Nat) (as : List Value) (M : lm_M) (v : Option Value) (M' : lm_M), lm_call F d mi as M = some (v, M') → M.1.1 ≤ M'.1.1 ∧ M.1.2.1 ≤ M'.1.2.1 := by
  intro d
  induction d with
  | zero => intro mi as M v M' h; simp [lm_call] at h
  | succ d ih =>
    intro mi as M v M' h
    simp only [lm_call] at h
    split at h
    · rename_i v1 M1 hr
      split at h
      · simp only [Option.some.injEq, Prod.mk.injEq] at h
        obtain ⟨rfl, rfl⟩ := h
        exact lm_run_mono ih _ _ _ _ _ _ _ hr
      · cases h
    · cases h
theorem lm_ckL_drop {cn : Nat} {ini : Bool} {cc : ByteArray} (p : Nat × Instr → Bool) : ∀ (l : lm_C), lm_ckL cn ini cc l = true → lm_ckL cn ini cc (l.dropWhile p) = true
  | [], h => h
  | (pc, i) :: l, h => by
    rw [List.dropWhile_cons]
    split
    · simp only [lm_ckL, Bool.and_eq_true] at h
      exact lm_ckL_drop p l h.2
    · exact h
def lm_hd (cd : lm_C) (pc : Nat) : Prop := match cd with
  | [] => True
  | (q, _) :: _ => q = pc
theorem lm_hd_drop (t : Nat) : ∀ l : lm_C, lm_hd (l.dropWhile (fun e => !(e.1 == t))) t
  | [] => trivial
  | (pc, i) :: l => by
    rw [List.dropWhile_cons]
    split
    · exact lm_hd_drop t l
    · rename_i h
      simp only [Bool.not_eq_true', Bool.not_eq_false, beq_iff_eq] at h
      exact h
end LMMONO
