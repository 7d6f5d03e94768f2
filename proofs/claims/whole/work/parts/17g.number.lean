/-! ===== the reference settles a text: numbers ===== -/
def cu (P : Nat → Bool) : Nat → Nat → Nat
  | _, 0 => 0
  | i, m + 1 => (if P i = true then 1 else 0) + cu P (i + 1) m
section NUMBER
variable {tp : Nat → Nat} {n nt e N : Nat} {S : lm_S} {I : lm_I} {L : lm_L} {R : lm_R} {Q : Option Value → lm_M → Prop} {kd pl : Nat → Nat} {z : Zt} {kn pn : Nat → Nat}
theorem cu_le {P : Nat → Bool} : ∀ (m i : Nat), cu P i m ≤ m := by
  intro m
  induction m with
  | zero => intro i; exact Nat.le_refl _
  | succ m ih => intro i; unfold cu; have := ih (i + 1); split <;> omega
theorem cu_c {P P' : Nat → Bool} : ∀ (m i : Nat), (∀ j, i ≤ j → j < i + m → P j = P' j) → cu P i m = cu P' i m := by
  intro m
  induction m with
  | zero => intro i _; rfl
  | succ m ih =>
    intro i h
    unfold cu
    rw [h i (Nat.le_refl _) (by omega), ih (i + 1) (fun j j1 j2 => h j (by omega) (by omega))]
theorem cu_add {P P1 P2 : Nat → Bool} : ∀ (m i : Nat), (∀ j, i ≤ j → j < i + m → ((P j = true ↔ (P1 j = true ∨ P2 j = true)) ∧ ¬ (P1 j = true ∧ P2 j = true))) → cu P i m = cu P1 i m + cu P2 i m := by
  intro m
  induction m with
  | zero => intro i _; rfl
  | succ m ih =>
    intro i h
    unfold cu
    have hh := h i (Nat.le_refl _) (by omega)
    rw [ih (i + 1) (fun j j1 j2 => h j (by omega) (by omega))]
    by_cases a : P1 i = true <;> by_cases b : P2 i = true
    · exact absurd ⟨a, b⟩ hh.2
    · rw [if_pos (hh.1.mpr (Or.inl a)), if_pos a, if_neg b]; omega
    · rw [if_pos (hh.1.mpr (Or.inr b)), if_neg a, if_pos b]; omega
    · rw [if_neg (fun q => (hh.1.mp q).elim a b), if_neg a, if_neg b]; omega
theorem cu_1 {P : Nat → Bool} {i0 : Nat} : ∀ (m i : Nat), (∀ j, i ≤ j → j < i + m → (P j = true ↔ j = i0)) → cu P i m = if i ≤ i0 ∧ i0 < i + m then 1 else 0 := by
  intro m
  induction m with
  | zero => intro i _; rw [if_neg (by omega)]; rfl
  | succ m ih =>
    intro i h
    unfold cu
    rw [ih (i + 1) (fun j j1 j2 => h j (by omega) (by omega))]
    by_cases a : i = i0
    · rw [if_pos ((h i (Nat.le_refl _) (by omega)).mpr a), if_neg (by omega), if_pos (by omega)]
    · rw [if_neg (fun q => a ((h i (Nat.le_refl _) (by omega)).mp q))]
      by_cases b : i + 1 ≤ i0 ∧ i0 < i + 1 + m
      · rw [if_pos b, if_pos (by omega)]
      · rw [if_neg b, if_neg (by omega)]
/-- how many have a smaller image -/
theorem cu_lt {f : Nat → Nat} (hf : ∀ i, i < N → f i < N) (hi : ∀ i j, i < N → j < N → f i = f j → i = j) : ∀ n, n ≤ N → cu (fun o => decide (f o < n)) 0 N = n := by
  intro n
  induction n with
  | zero => intro _; rw [cu_c (P' := fun _ => false) N 0 (fun j _ _ => by simp)]; have : ∀ m i, cu (fun _ => false) i m = 0 := by
              intro m
              induction m with
              | zero => intro i; rfl
              | succ m ih => intro i; unfold cu; rw [ih]; rfl
            exact this N 0
  | succ n ih =>
    intro hn
    obtain ⟨i0, i1, i2⟩ := pig N f hf hi n (by omega)
    rw [cu_add (P1 := fun o => decide (f o < n)) (P2 := fun o => decide (f o = n)) N 0 (fun j _ _ => by simp only [decide_eq_true_eq]; omega), ih (by omega), cu_1 (i0 := i0) N 0 (fun j _ j2 => ?_), if_pos (by omega)]
    rw [decide_eq_true_eq]
    exact ⟨fun q => hi j i0 (by omega) i1 (q.trans i2.symm), fun q => by rw [q]; exact i2⟩
def kyN (kn pn : Nat → Nat) (k : Nat) : Nat := 2 * pn k + (if kn k = 3 then 0 else 1)
theorem k_176a (hS : lp_shape S) (hR : lp_refs R) (h9 : I 96 9 = nI N) (hN : N ≤ 80) (hr : ∀ k, k < N → (I 99 k = nI (kn k) ∧ kn k ≤ 13) ∧ I 100 k = nI (pn k) ∧ pn k ≤ 240) {k K : Nat} (hK : K ≤ 1000) : ∀ (m i cn : Nat), i + m = N → cn + m ≤ 1000 → lw e 176 (lm_J 176 93) [.ref 96, .int (nI k), .int (nI (cn + cu (fun o => decide (kyN kn pn o < K)) i m)), .int (nI K), .int (nI N)] [] (S, I, L, R) Q → lw e 176 (lm_J 176 40) [.ref 96, .int (nI k), .int (nI cn), .int (nI K), .int (nI i)] [] (S, I, L, R) Q := by
  intro m
  induction m with
  | zero =>
    intro i cn hm hc hq
    have e1 : i = N := by omega
    subst e1
    rw [cb_176_40]
    simp (disch := omega) only [lk_v, lk_n, lm_isI_i, lm_isL_l, lm_isR_r, lm_vi_i, lw_iconst, lwx_istore_0, lwx_istore_1, lwx_istore_2, lwx_istore_3, lwx_iload_0, lwx_iload_1, lwx_iload_2, lwx_iload_3, lwx_aload_0, lwx_aload_1, lwx_aload_2, lwx_aload_3, lw_getI, lw_getL, lw_getR, lw_getZ, lw_icmp_ge, lw_iaload, lw_imul, lw_icmp_ne, lw_goto, lw_iadd, lw_istore, lwx_iload, lwx_iinc, lw_iastore, lwx_invokevirtual_2, lw_if_ne, lw_laload, lwx_invokevirtual_5, lw_l2i, lw_bipush, lw_baload, lw_bastore, lw_putI, lw_putL, lw_putR, lw_putZ, lw_lastore, lwx_invokevirtual_6, lwx_invokevirtual_3, lwx_invokevirtual_1, lw_vret, List.getD_cons_zero, List.getD_cons_succ, lm_set1, lm_set2, lm_cut, List.getElem?_cons_zero, List.getElem?_cons_succ, List.set_cons_zero, List.set_cons_succ, List.length_cons, List.length_nil, List.map_cons, List.map_nil, List.sum_cons, List.sum_nil, Value.category, Nat.reduceAdd, Nat.reduceDiv, Nat.reduceMod, Nat.reduceLT, Nat.reduceLeDiff, Nat.reduceMul, Int.toNat_natCast, Int.reduceToNat, true_and, and_true, lm_rok_1, lm_rok_20, lm_rok_21, lm_rok_0, lm_args, lm_ent, List.nil_append, List.cons_append, List.replicate, Nat.reduceSub, if_false, if_true, reduceCtorEq, Nat.reduceEqDiff, Bool.or_true, Bool.true_or, Bool.or_false, Bool.false_or, Bool.and_true, Bool.true_and, BEq.rfl, beq_self_eq_true, kb_m94, kb_m92, kb_m63, kb_m46, kb_m45, kb_m42, kb_m41, kb_m33, kb_m10, kb_m9, kb_m4, kb_m3, kb_m2, zkb_6, zkb_7, zkb_8, zkb_9, zkb_10, zkb_11, zkb_12, zkb_13, zkb_14, zkb_15, zkb_16, zkb_17, zkb_18, zkb_19, zkb_20, zkb_21, zkb_22, zkb_23, zkb_24, zkb_26, zkb_32, zkb_33, zkb_34, zkb_38, zkb_40, zkb_41, zkb_43, zkb_44, zkb_45, zkb_46, zkb_48, zkb_57, zkb_58, zkb_59, zkb_60, zkb_61, zkb_62, zkb_64, zkb_80, zkb_81, zkb_91, zkb_92, zkb_93, zkb_97, zkb_100, zkb_104, zkb_122, zkb_126, ki_m8, ki_m2, ki_m1, zki_0, zki_1, zki_2, zki_3, zki_4, zki_5, zks_160, zks_168, zks_240, zks_242, zks_255, zks_264, zks_300, zks_320, zks_500, zks_600, zks_625, zks_626, zks_1200, zks_1256, zks_2000, zks_2504, zks_3040, zks_4000, zks_6000, zks_12000, kl_0, kl_1, z_lt, z_le, z_eq, z_eq0, z_eq1, z_lt0, z_le0, z_0lt, z_0le, z_add, z_sub, z_add1, z_addn, z_addm, z_mul, z_cl, z_n9, z_n9s, z_n90, z_ne9, z_ne9s, z_lt_t, z_lt_f, z_le_t, z_le_f, z_eq_t, z_eq_f, z_pus, z_pun, z_row, or_self, or_false, false_or, true_or, or_true, and_self, and_false, false_and, not_true_eq_false, not_false_eq_true, false_implies, true_implies, implies_true, ne_eq, lm_row_s, lm_row_row, lm_up_row, rc_s, Classical.not_not, Nat.add_sub_cancel, i10, z_on, rok2_0, rok2_1, ml_176, rt_176, cb_176_34, cb_176_35, cb_176_74, cb_176_75, cb_176_84, cb_176_85, cb_176_106, cb_176_251, cb_176_271, cb_176_273, cb_176_316, cb_176_404, cb_176_448, cb_176_489, cb_176_516, cb_176_569, sh_96 hS, h9]
    exact hq
  | succ m ih =>
    intro i cn hm hc hq
    obtain ⟨⟨r1, r2⟩, r3, r4⟩ := hr i (by omega)
    have ec : cn + cu (fun o => decide (kyN kn pn o < K)) i (m + 1) = cn + (if decide (kyN kn pn i < K) = true then 1 else 0) + cu (fun o => decide (kyN kn pn o < K)) (i + 1) m := by
      show cn + ((if decide (kyN kn pn i < K) = true then 1 else 0) + _) = _
      omega
    rw [ec] at hq
    rw [cb_176_40]
    by_cases k3 : kn i = 3
    · have ek : kyN kn pn i = 2 * pn i := by unfold kyN; rw [if_pos k3]; rfl
      rw [k3] at r1
      by_cases hl : 2 * pn i < K
      · rw [if_pos (decide_eq_true (by omega))] at hq
        have nx := ih (i + 1) (cn + 1) (by omega) (by omega) hq
        simp (disch := omega) only [lk_v, lk_n, lm_isI_i, lm_isL_l, lm_isR_r, lm_vi_i, lw_iconst, lwx_istore_0, lwx_istore_1, lwx_istore_2, lwx_istore_3, lwx_iload_0, lwx_iload_1, lwx_iload_2, lwx_iload_3, lwx_aload_0, lwx_aload_1, lwx_aload_2, lwx_aload_3, lw_getI, lw_getL, lw_getR, lw_getZ, lw_icmp_ge, lw_iaload, lw_imul, lw_icmp_ne, lw_goto, lw_iadd, lw_istore, lwx_iload, lwx_iinc, lw_iastore, lwx_invokevirtual_2, lw_if_ne, lw_laload, lwx_invokevirtual_5, lw_l2i, lw_bipush, lw_baload, lw_bastore, lw_putI, lw_putL, lw_putR, lw_putZ, lw_lastore, lwx_invokevirtual_6, lwx_invokevirtual_3, lwx_invokevirtual_1, lw_vret, List.getD_cons_zero, List.getD_cons_succ, lm_set1, lm_set2, lm_cut, List.getElem?_cons_zero, List.getElem?_cons_succ, List.set_cons_zero, List.set_cons_succ, List.length_cons, List.length_nil, List.map_cons, List.map_nil, List.sum_cons, List.sum_nil, Value.category, Nat.reduceAdd, Nat.reduceDiv, Nat.reduceMod, Nat.reduceLT, Nat.reduceLeDiff, Nat.reduceMul, Int.toNat_natCast, Int.reduceToNat, true_and, and_true, lm_rok_1, lm_rok_20, lm_rok_21, lm_rok_0, lm_args, lm_ent, List.nil_append, List.cons_append, List.replicate, Nat.reduceSub, if_false, if_true, reduceCtorEq, Nat.reduceEqDiff, Bool.or_true, Bool.true_or, Bool.or_false, Bool.false_or, Bool.and_true, Bool.true_and, BEq.rfl, beq_self_eq_true, kb_m94, kb_m92, kb_m63, kb_m46, kb_m45, kb_m42, kb_m41, kb_m33, kb_m10, kb_m9, kb_m4, kb_m3, kb_m2, zkb_6, zkb_7, zkb_8, zkb_9, zkb_10, zkb_11, zkb_12, zkb_13, zkb_14, zkb_15, zkb_16, zkb_17, zkb_18, zkb_19, zkb_20, zkb_21, zkb_22, zkb_23, zkb_24, zkb_26, zkb_32, zkb_33, zkb_34, zkb_38, zkb_40, zkb_41, zkb_43, zkb_44, zkb_45, zkb_46, zkb_48, zkb_57, zkb_58, zkb_59, zkb_60, zkb_61, zkb_62, zkb_64, zkb_80, zkb_81, zkb_91, zkb_92, zkb_93, zkb_97, zkb_100, zkb_104, zkb_122, zkb_126, ki_m8, ki_m2, ki_m1, zki_0, zki_1, zki_2, zki_3, zki_4, zki_5, zks_160, zks_168, zks_240, zks_242, zks_255, zks_264, zks_300, zks_320, zks_500, zks_600, zks_625, zks_626, zks_1200, zks_1256, zks_2000, zks_2504, zks_3040, zks_4000, zks_6000, zks_12000, kl_0, kl_1, z_lt, z_le, z_eq, z_eq0, z_eq1, z_lt0, z_le0, z_0lt, z_0le, z_add, z_sub, z_add1, z_addn, z_addm, z_mul, z_cl, z_n9, z_n9s, z_n90, z_ne9, z_ne9s, z_lt_t, z_lt_f, z_le_t, z_le_f, z_eq_t, z_eq_f, z_pus, z_pun, z_row, or_self, or_false, false_or, true_or, or_true, and_self, and_false, false_and, not_true_eq_false, not_false_eq_true, false_implies, true_implies, implies_true, ne_eq, lm_row_s, lm_row_row, lm_up_row, rc_s, Classical.not_not, Nat.add_sub_cancel, i10, z_on, rok2_0, rok2_1, ml_176, rt_176, cb_176_34, cb_176_35, cb_176_74, cb_176_75, cb_176_84, cb_176_85, cb_176_106, cb_176_251, cb_176_271, cb_176_273, cb_176_316, cb_176_404, cb_176_448, cb_176_489, cb_176_516, cb_176_569, rc_mod hS, sh_96 hS, sh_99 hS, sh_100 hS, rf_96_10 hR, rf_96_11 hR, rf_96_96 hR, rf_96_100 hR, h9, r1, r3]
        exact nx
      · rw [if_neg (by rw [decide_eq_true_eq]; omega)] at hq
        have nx := ih (i + 1) cn (by omega) (by omega) (by rw [Nat.add_zero] at hq; exact hq)
        simp (disch := omega) only [lk_v, lk_n, lm_isI_i, lm_isL_l, lm_isR_r, lm_vi_i, lw_iconst, lwx_istore_0, lwx_istore_1, lwx_istore_2, lwx_istore_3, lwx_iload_0, lwx_iload_1, lwx_iload_2, lwx_iload_3, lwx_aload_0, lwx_aload_1, lwx_aload_2, lwx_aload_3, lw_getI, lw_getL, lw_getR, lw_getZ, lw_icmp_ge, lw_iaload, lw_imul, lw_icmp_ne, lw_goto, lw_iadd, lw_istore, lwx_iload, lwx_iinc, lw_iastore, lwx_invokevirtual_2, lw_if_ne, lw_laload, lwx_invokevirtual_5, lw_l2i, lw_bipush, lw_baload, lw_bastore, lw_putI, lw_putL, lw_putR, lw_putZ, lw_lastore, lwx_invokevirtual_6, lwx_invokevirtual_3, lwx_invokevirtual_1, lw_vret, List.getD_cons_zero, List.getD_cons_succ, lm_set1, lm_set2, lm_cut, List.getElem?_cons_zero, List.getElem?_cons_succ, List.set_cons_zero, List.set_cons_succ, List.length_cons, List.length_nil, List.map_cons, List.map_nil, List.sum_cons, List.sum_nil, Value.category, Nat.reduceAdd, Nat.reduceDiv, Nat.reduceMod, Nat.reduceLT, Nat.reduceLeDiff, Nat.reduceMul, Int.toNat_natCast, Int.reduceToNat, true_and, and_true, lm_rok_1, lm_rok_20, lm_rok_21, lm_rok_0, lm_args, lm_ent, List.nil_append, List.cons_append, List.replicate, Nat.reduceSub, if_false, if_true, reduceCtorEq, Nat.reduceEqDiff, Bool.or_true, Bool.true_or, Bool.or_false, Bool.false_or, Bool.and_true, Bool.true_and, BEq.rfl, beq_self_eq_true, kb_m94, kb_m92, kb_m63, kb_m46, kb_m45, kb_m42, kb_m41, kb_m33, kb_m10, kb_m9, kb_m4, kb_m3, kb_m2, zkb_6, zkb_7, zkb_8, zkb_9, zkb_10, zkb_11, zkb_12, zkb_13, zkb_14, zkb_15, zkb_16, zkb_17, zkb_18, zkb_19, zkb_20, zkb_21, zkb_22, zkb_23, zkb_24, zkb_26, zkb_32, zkb_33, zkb_34, zkb_38, zkb_40, zkb_41, zkb_43, zkb_44, zkb_45, zkb_46, zkb_48, zkb_57, zkb_58, zkb_59, zkb_60, zkb_61, zkb_62, zkb_64, zkb_80, zkb_81, zkb_91, zkb_92, zkb_93, zkb_97, zkb_100, zkb_104, zkb_122, zkb_126, ki_m8, ki_m2, ki_m1, zki_0, zki_1, zki_2, zki_3, zki_4, zki_5, zks_160, zks_168, zks_240, zks_242, zks_255, zks_264, zks_300, zks_320, zks_500, zks_600, zks_625, zks_626, zks_1200, zks_1256, zks_2000, zks_2504, zks_3040, zks_4000, zks_6000, zks_12000, kl_0, kl_1, z_lt, z_le, z_eq, z_eq0, z_eq1, z_lt0, z_le0, z_0lt, z_0le, z_add, z_sub, z_add1, z_addn, z_addm, z_mul, z_cl, z_n9, z_n9s, z_n90, z_ne9, z_ne9s, z_lt_t, z_lt_f, z_le_t, z_le_f, z_eq_t, z_eq_f, z_pus, z_pun, z_row, or_self, or_false, false_or, true_or, or_true, and_self, and_false, false_and, not_true_eq_false, not_false_eq_true, false_implies, true_implies, implies_true, ne_eq, lm_row_s, lm_row_row, lm_up_row, rc_s, Classical.not_not, Nat.add_sub_cancel, i10, z_on, rok2_0, rok2_1, ml_176, rt_176, cb_176_34, cb_176_35, cb_176_74, cb_176_75, cb_176_84, cb_176_85, cb_176_106, cb_176_251, cb_176_271, cb_176_273, cb_176_316, cb_176_404, cb_176_448, cb_176_489, cb_176_516, cb_176_569, rc_mod hS, sh_96 hS, sh_99 hS, sh_100 hS, rf_96_10 hR, rf_96_11 hR, rf_96_96 hR, rf_96_100 hR, h9, r1, r3]
        exact nx
    · have ek : kyN kn pn i = 2 * pn i + 1 := by unfold kyN; rw [if_neg k3]
      by_cases hl : 2 * pn i + 1 < K
      · rw [if_pos (decide_eq_true (by omega))] at hq
        have nx := ih (i + 1) (cn + 1) (by omega) (by omega) hq
        simp (disch := omega) only [lk_v, lk_n, lm_isI_i, lm_isL_l, lm_isR_r, lm_vi_i, lw_iconst, lwx_istore_0, lwx_istore_1, lwx_istore_2, lwx_istore_3, lwx_iload_0, lwx_iload_1, lwx_iload_2, lwx_iload_3, lwx_aload_0, lwx_aload_1, lwx_aload_2, lwx_aload_3, lw_getI, lw_getL, lw_getR, lw_getZ, lw_icmp_ge, lw_iaload, lw_imul, lw_icmp_ne, lw_goto, lw_iadd, lw_istore, lwx_iload, lwx_iinc, lw_iastore, lwx_invokevirtual_2, lw_if_ne, lw_laload, lwx_invokevirtual_5, lw_l2i, lw_bipush, lw_baload, lw_bastore, lw_putI, lw_putL, lw_putR, lw_putZ, lw_lastore, lwx_invokevirtual_6, lwx_invokevirtual_3, lwx_invokevirtual_1, lw_vret, List.getD_cons_zero, List.getD_cons_succ, lm_set1, lm_set2, lm_cut, List.getElem?_cons_zero, List.getElem?_cons_succ, List.set_cons_zero, List.set_cons_succ, List.length_cons, List.length_nil, List.map_cons, List.map_nil, List.sum_cons, List.sum_nil, Value.category, Nat.reduceAdd, Nat.reduceDiv, Nat.reduceMod, Nat.reduceLT, Nat.reduceLeDiff, Nat.reduceMul, Int.toNat_natCast, Int.reduceToNat, true_and, and_true, lm_rok_1, lm_rok_20, lm_rok_21, lm_rok_0, lm_args, lm_ent, List.nil_append, List.cons_append, List.replicate, Nat.reduceSub, if_false, if_true, reduceCtorEq, Nat.reduceEqDiff, Bool.or_true, Bool.true_or, Bool.or_false, Bool.false_or, Bool.and_true, Bool.true_and, BEq.rfl, beq_self_eq_true, kb_m94, kb_m92, kb_m63, kb_m46, kb_m45, kb_m42, kb_m41, kb_m33, kb_m10, kb_m9, kb_m4, kb_m3, kb_m2, zkb_6, zkb_7, zkb_8, zkb_9, zkb_10, zkb_11, zkb_12, zkb_13, zkb_14, zkb_15, zkb_16, zkb_17, zkb_18, zkb_19, zkb_20, zkb_21, zkb_22, zkb_23, zkb_24, zkb_26, zkb_32, zkb_33, zkb_34, zkb_38, zkb_40, zkb_41, zkb_43, zkb_44, zkb_45, zkb_46, zkb_48, zkb_57, zkb_58, zkb_59, zkb_60, zkb_61, zkb_62, zkb_64, zkb_80, zkb_81, zkb_91, zkb_92, zkb_93, zkb_97, zkb_100, zkb_104, zkb_122, zkb_126, ki_m8, ki_m2, ki_m1, zki_0, zki_1, zki_2, zki_3, zki_4, zki_5, zks_160, zks_168, zks_240, zks_242, zks_255, zks_264, zks_300, zks_320, zks_500, zks_600, zks_625, zks_626, zks_1200, zks_1256, zks_2000, zks_2504, zks_3040, zks_4000, zks_6000, zks_12000, kl_0, kl_1, z_lt, z_le, z_eq, z_eq0, z_eq1, z_lt0, z_le0, z_0lt, z_0le, z_add, z_sub, z_add1, z_addn, z_addm, z_mul, z_cl, z_n9, z_n9s, z_n90, z_ne9, z_ne9s, z_lt_t, z_lt_f, z_le_t, z_le_f, z_eq_t, z_eq_f, z_pus, z_pun, z_row, or_self, or_false, false_or, true_or, or_true, and_self, and_false, false_and, not_true_eq_false, not_false_eq_true, false_implies, true_implies, implies_true, ne_eq, lm_row_s, lm_row_row, lm_up_row, rc_s, Classical.not_not, Nat.add_sub_cancel, i10, z_on, rok2_0, rok2_1, ml_176, rt_176, cb_176_34, cb_176_35, cb_176_74, cb_176_75, cb_176_84, cb_176_85, cb_176_106, cb_176_251, cb_176_271, cb_176_273, cb_176_316, cb_176_404, cb_176_448, cb_176_489, cb_176_516, cb_176_569, rc_mod hS, sh_96 hS, sh_99 hS, sh_100 hS, rf_96_10 hR, rf_96_11 hR, rf_96_96 hR, rf_96_100 hR, h9, r1, r3]
        exact nx
      · rw [if_neg (by rw [decide_eq_true_eq]; omega)] at hq
        have nx := ih (i + 1) cn (by omega) (by omega) (by rw [Nat.add_zero] at hq; exact hq)
        simp (disch := omega) only [lk_v, lk_n, lm_isI_i, lm_isL_l, lm_isR_r, lm_vi_i, lw_iconst, lwx_istore_0, lwx_istore_1, lwx_istore_2, lwx_istore_3, lwx_iload_0, lwx_iload_1, lwx_iload_2, lwx_iload_3, lwx_aload_0, lwx_aload_1, lwx_aload_2, lwx_aload_3, lw_getI, lw_getL, lw_getR, lw_getZ, lw_icmp_ge, lw_iaload, lw_imul, lw_icmp_ne, lw_goto, lw_iadd, lw_istore, lwx_iload, lwx_iinc, lw_iastore, lwx_invokevirtual_2, lw_if_ne, lw_laload, lwx_invokevirtual_5, lw_l2i, lw_bipush, lw_baload, lw_bastore, lw_putI, lw_putL, lw_putR, lw_putZ, lw_lastore, lwx_invokevirtual_6, lwx_invokevirtual_3, lwx_invokevirtual_1, lw_vret, List.getD_cons_zero, List.getD_cons_succ, lm_set1, lm_set2, lm_cut, List.getElem?_cons_zero, List.getElem?_cons_succ, List.set_cons_zero, List.set_cons_succ, List.length_cons, List.length_nil, List.map_cons, List.map_nil, List.sum_cons, List.sum_nil, Value.category, Nat.reduceAdd, Nat.reduceDiv, Nat.reduceMod, Nat.reduceLT, Nat.reduceLeDiff, Nat.reduceMul, Int.toNat_natCast, Int.reduceToNat, true_and, and_true, lm_rok_1, lm_rok_20, lm_rok_21, lm_rok_0, lm_args, lm_ent, List.nil_append, List.cons_append, List.replicate, Nat.reduceSub, if_false, if_true, reduceCtorEq, Nat.reduceEqDiff, Bool.or_true, Bool.true_or, Bool.or_false, Bool.false_or, Bool.and_true, Bool.true_and, BEq.rfl, beq_self_eq_true, kb_m94, kb_m92, kb_m63, kb_m46, kb_m45, kb_m42, kb_m41, kb_m33, kb_m10, kb_m9, kb_m4, kb_m3, kb_m2, zkb_6, zkb_7, zkb_8, zkb_9, zkb_10, zkb_11, zkb_12, zkb_13, zkb_14, zkb_15, zkb_16, zkb_17, zkb_18, zkb_19, zkb_20, zkb_21, zkb_22, zkb_23, zkb_24, zkb_26, zkb_32, zkb_33, zkb_34, zkb_38, zkb_40, zkb_41, zkb_43, zkb_44, zkb_45, zkb_46, zkb_48, zkb_57, zkb_58, zkb_59, zkb_60, zkb_61, zkb_62, zkb_64, zkb_80, zkb_81, zkb_91, zkb_92, zkb_93, zkb_97, zkb_100, zkb_104, zkb_122, zkb_126, ki_m8, ki_m2, ki_m1, zki_0, zki_1, zki_2, zki_3, zki_4, zki_5, zks_160, zks_168, zks_240, zks_242, zks_255, zks_264, zks_300, zks_320, zks_500, zks_600, zks_625, zks_626, zks_1200, zks_1256, zks_2000, zks_2504, zks_3040, zks_4000, zks_6000, zks_12000, kl_0, kl_1, z_lt, z_le, z_eq, z_eq0, z_eq1, z_lt0, z_le0, z_0lt, z_0le, z_add, z_sub, z_add1, z_addn, z_addm, z_mul, z_cl, z_n9, z_n9s, z_n90, z_ne9, z_ne9s, z_lt_t, z_lt_f, z_le_t, z_le_f, z_eq_t, z_eq_f, z_pus, z_pun, z_row, or_self, or_false, false_or, true_or, or_true, and_self, and_false, false_and, not_true_eq_false, not_false_eq_true, false_implies, true_implies, implies_true, ne_eq, lm_row_s, lm_row_row, lm_up_row, rc_s, Classical.not_not, Nat.add_sub_cancel, i10, z_on, rok2_0, rok2_1, ml_176, rt_176, cb_176_34, cb_176_35, cb_176_74, cb_176_75, cb_176_84, cb_176_85, cb_176_106, cb_176_251, cb_176_271, cb_176_273, cb_176_316, cb_176_404, cb_176_448, cb_176_489, cb_176_516, cb_176_569, rc_mod hS, sh_96 hS, sh_99 hS, sh_100 hS, rf_96_10 hR, rf_96_11 hR, rf_96_96 hR, rf_96_100 hR, h9, r1, r3]
        exact nx
/-- numberOf -/
theorem k_176b (hS : lp_shape S) (hR : lp_refs R) (h9 : I 96 9 = nI N) (hN : N ≤ 80) (hr : ∀ k, k < N → (I 99 k = nI (kn k) ∧ kn k ≤ 13) ∧ I 100 k = nI (pn k) ∧ pn k ≤ 240) (hQ : ∀ I' x2 x3 x4, (∀ o, o ≠ 146 → I' o = I o) → (∀ j, j < N → I' 146 j = nI (cu (fun o => decide (kyN kn pn o < kyN kn pn j)) 0 N)) → lw e 176 (lm_J 176 106) [.ref 96, .int (nI N), x2, x3, x4] [] (S, I', L, R) Q) : ∀ (m k : Nat) (I1 : lm_I) (x2 x3 x4 : Value), k + m = N → (∀ o, o ≠ 146 → I1 o = I o) → (∀ j, j < k → I1 146 j = nI (cu (fun o => decide (kyN kn pn o < kyN kn pn j)) 0 N)) → lw e 176 (lm_J 176 2) [.ref 96, .int (nI k), x2, x3, x4] [] (S, I1, L, R) Q := by
  intro m
  induction m with
  | zero =>
    intro k I1 x2 x3 x4 hm f hj
    have e1 : k = N := by omega
    subst e1
    have h9' : I1 96 9 = nI k := by rw [f 96 (by decide)]; exact h9
    have := hQ I1 x2 x3 x4 f hj
    rw [cb_176_2]
    simp (disch := omega) only [lk_v, lk_n, lm_isI_i, lm_isL_l, lm_isR_r, lm_vi_i, lw_iconst, lwx_istore_0, lwx_istore_1, lwx_istore_2, lwx_istore_3, lwx_iload_0, lwx_iload_1, lwx_iload_2, lwx_iload_3, lwx_aload_0, lwx_aload_1, lwx_aload_2, lwx_aload_3, lw_getI, lw_getL, lw_getR, lw_getZ, lw_icmp_ge, lw_iaload, lw_imul, lw_icmp_ne, lw_goto, lw_iadd, lw_istore, lwx_iload, lwx_iinc, lw_iastore, lwx_invokevirtual_2, lw_if_ne, lw_laload, lwx_invokevirtual_5, lw_l2i, lw_bipush, lw_baload, lw_bastore, lw_putI, lw_putL, lw_putR, lw_putZ, lw_lastore, lwx_invokevirtual_6, lwx_invokevirtual_3, lwx_invokevirtual_1, lw_vret, List.getD_cons_zero, List.getD_cons_succ, lm_set1, lm_set2, lm_cut, List.getElem?_cons_zero, List.getElem?_cons_succ, List.set_cons_zero, List.set_cons_succ, List.length_cons, List.length_nil, List.map_cons, List.map_nil, List.sum_cons, List.sum_nil, Value.category, Nat.reduceAdd, Nat.reduceDiv, Nat.reduceMod, Nat.reduceLT, Nat.reduceLeDiff, Nat.reduceMul, Int.toNat_natCast, Int.reduceToNat, true_and, and_true, lm_rok_1, lm_rok_20, lm_rok_21, lm_rok_0, lm_args, lm_ent, List.nil_append, List.cons_append, List.replicate, Nat.reduceSub, if_false, if_true, reduceCtorEq, Nat.reduceEqDiff, Bool.or_true, Bool.true_or, Bool.or_false, Bool.false_or, Bool.and_true, Bool.true_and, BEq.rfl, beq_self_eq_true, kb_m94, kb_m92, kb_m63, kb_m46, kb_m45, kb_m42, kb_m41, kb_m33, kb_m10, kb_m9, kb_m4, kb_m3, kb_m2, zkb_6, zkb_7, zkb_8, zkb_9, zkb_10, zkb_11, zkb_12, zkb_13, zkb_14, zkb_15, zkb_16, zkb_17, zkb_18, zkb_19, zkb_20, zkb_21, zkb_22, zkb_23, zkb_24, zkb_26, zkb_32, zkb_33, zkb_34, zkb_38, zkb_40, zkb_41, zkb_43, zkb_44, zkb_45, zkb_46, zkb_48, zkb_57, zkb_58, zkb_59, zkb_60, zkb_61, zkb_62, zkb_64, zkb_80, zkb_81, zkb_91, zkb_92, zkb_93, zkb_97, zkb_100, zkb_104, zkb_122, zkb_126, ki_m8, ki_m2, ki_m1, zki_0, zki_1, zki_2, zki_3, zki_4, zki_5, zks_160, zks_168, zks_240, zks_242, zks_255, zks_264, zks_300, zks_320, zks_500, zks_600, zks_625, zks_626, zks_1200, zks_1256, zks_2000, zks_2504, zks_3040, zks_4000, zks_6000, zks_12000, kl_0, kl_1, z_lt, z_le, z_eq, z_eq0, z_eq1, z_lt0, z_le0, z_0lt, z_0le, z_add, z_sub, z_add1, z_addn, z_addm, z_mul, z_cl, z_n9, z_n9s, z_n90, z_ne9, z_ne9s, z_lt_t, z_lt_f, z_le_t, z_le_f, z_eq_t, z_eq_f, z_pus, z_pun, z_row, or_self, or_false, false_or, true_or, or_true, and_self, and_false, false_and, not_true_eq_false, not_false_eq_true, false_implies, true_implies, implies_true, ne_eq, lm_row_s, lm_row_row, lm_up_row, rc_s, Classical.not_not, Nat.add_sub_cancel, i10, z_on, rok2_0, rok2_1, ml_176, rt_176, cb_176_34, cb_176_35, cb_176_74, cb_176_75, cb_176_84, cb_176_85, cb_176_93, cb_176_251, cb_176_271, cb_176_273, cb_176_316, cb_176_404, cb_176_448, cb_176_489, cb_176_516, cb_176_569, sh_96 hS, h9']
    exact this
  | succ m ih =>
    intro k I1 x2 x3 x4 hm f hj
    obtain ⟨⟨r1, r2⟩, r3, r4⟩ := hr k (by omega)
    have h9' : I1 96 9 = nI N := by rw [f 96 (by decide)]; exact h9
    have r1' : I1 99 k = nI (kn k) := by rw [f 99 (by decide)]; exact r1
    have r3' : I1 100 k = nI (pn k) := by rw [f 100 (by decide)]; exact r3
    have hr1 : ∀ k, k < N → (I1 99 k = nI (kn k) ∧ kn k ≤ 13) ∧ I1 100 k = nI (pn k) ∧ pn k ≤ 240 := fun k hk => by rw [f 99 (by decide), f 100 (by decide)]; exact hr k hk
    have kle : kyN kn pn k ≤ 1000 := by unfold kyN; split <;> omega
    have cle := cu_le (P := fun o => decide (kyN kn pn o < kyN kn pn k)) N 0
    have fin : lw e 176 (lm_J 176 93) [.ref 96, .int (nI k), .int (nI (0 + cu (fun o => decide (kyN kn pn o < kyN kn pn k)) 0 N)), .int (nI (kyN kn pn k)), .int (nI N)] [] (S, I1, L, R) Q := by
      rw [cb_176_93, Nat.zero_add]
      simp (disch := omega) only [lk_v, lk_n, lm_isI_i, lm_isL_l, lm_isR_r, lm_vi_i, lw_iconst, lwx_istore_0, lwx_istore_1, lwx_istore_2, lwx_istore_3, lwx_iload_0, lwx_iload_1, lwx_iload_2, lwx_iload_3, lwx_aload_0, lwx_aload_1, lwx_aload_2, lwx_aload_3, lw_getI, lw_getL, lw_getR, lw_getZ, lw_icmp_ge, lw_iaload, lw_imul, lw_icmp_ne, lw_goto, lw_iadd, lw_istore, lwx_iload, lwx_iinc, lw_iastore, lwx_invokevirtual_2, lw_if_ne, lw_laload, lwx_invokevirtual_5, lw_l2i, lw_bipush, lw_baload, lw_bastore, lw_putI, lw_putL, lw_putR, lw_putZ, lw_lastore, lwx_invokevirtual_6, lwx_invokevirtual_3, lwx_invokevirtual_1, lw_vret, List.getD_cons_zero, List.getD_cons_succ, lm_set1, lm_set2, lm_cut, List.getElem?_cons_zero, List.getElem?_cons_succ, List.set_cons_zero, List.set_cons_succ, List.length_cons, List.length_nil, List.map_cons, List.map_nil, List.sum_cons, List.sum_nil, Value.category, Nat.reduceAdd, Nat.reduceDiv, Nat.reduceMod, Nat.reduceLT, Nat.reduceLeDiff, Nat.reduceMul, Int.toNat_natCast, Int.reduceToNat, true_and, and_true, lm_rok_1, lm_rok_20, lm_rok_21, lm_rok_0, lm_args, lm_ent, List.nil_append, List.cons_append, List.replicate, Nat.reduceSub, if_false, if_true, reduceCtorEq, Nat.reduceEqDiff, Bool.or_true, Bool.true_or, Bool.or_false, Bool.false_or, Bool.and_true, Bool.true_and, BEq.rfl, beq_self_eq_true, kb_m94, kb_m92, kb_m63, kb_m46, kb_m45, kb_m42, kb_m41, kb_m33, kb_m10, kb_m9, kb_m4, kb_m3, kb_m2, zkb_6, zkb_7, zkb_8, zkb_9, zkb_10, zkb_11, zkb_12, zkb_13, zkb_14, zkb_15, zkb_16, zkb_17, zkb_18, zkb_19, zkb_20, zkb_21, zkb_22, zkb_23, zkb_24, zkb_26, zkb_32, zkb_33, zkb_34, zkb_38, zkb_40, zkb_41, zkb_43, zkb_44, zkb_45, zkb_46, zkb_48, zkb_57, zkb_58, zkb_59, zkb_60, zkb_61, zkb_62, zkb_64, zkb_80, zkb_81, zkb_91, zkb_92, zkb_93, zkb_97, zkb_100, zkb_104, zkb_122, zkb_126, ki_m8, ki_m2, ki_m1, zki_0, zki_1, zki_2, zki_3, zki_4, zki_5, zks_160, zks_168, zks_240, zks_242, zks_255, zks_264, zks_300, zks_320, zks_500, zks_600, zks_625, zks_626, zks_1200, zks_1256, zks_2000, zks_2504, zks_3040, zks_4000, zks_6000, zks_12000, kl_0, kl_1, z_lt, z_le, z_eq, z_eq0, z_eq1, z_lt0, z_le0, z_0lt, z_0le, z_add, z_sub, z_add1, z_addn, z_addm, z_mul, z_cl, z_n9, z_n9s, z_n90, z_ne9, z_ne9s, z_lt_t, z_lt_f, z_le_t, z_le_f, z_eq_t, z_eq_f, z_pus, z_pun, z_row, or_self, or_false, false_or, true_or, or_true, and_self, and_false, false_and, not_true_eq_false, not_false_eq_true, false_implies, true_implies, implies_true, ne_eq, lm_row_s, lm_row_row, lm_up_row, rc_s, Classical.not_not, Nat.add_sub_cancel, i10, z_on, rok2_0, rok2_1, ml_176, rt_176, cb_176_34, cb_176_35, cb_176_74, cb_176_75, cb_176_84, cb_176_85, cb_176_93, cb_176_106, cb_176_251, cb_176_271, cb_176_273, cb_176_316, cb_176_404, cb_176_448, cb_176_489, cb_176_516, cb_176_569, rc_mod hS, sh_96 hS, sh_146 hS, rf_96_74 hR, rf_96_96 hR]
      refine ih (k + 1) _ _ _ _ (by omega) (fun o ho => by rw [lm_row_n ho]; exact f o ho) (fun j hj2 => ?_)
      rw [lm_row_s]
      by_cases s : j = k
      · subst s; rw [pk_us]
      · rw [pk_un s]; exact hj j (by omega)
    have inn := k_176a (e := e) (Q := Q) hS hR h9' hN hr1 (k := k) kle N 0 0 (by omega) (by omega) fin
    rw [cb_176_2]
    by_cases k3 : kn k = 3
    · have ek : kyN kn pn k = 2 * pn k := by unfold kyN; rw [if_pos k3]; rfl
      rw [ek] at inn
      rw [k3] at r1'
      simp (disch := omega) only [lk_v, lk_n, lm_isI_i, lm_isL_l, lm_isR_r, lm_vi_i, lw_iconst, lwx_istore_0, lwx_istore_1, lwx_istore_2, lwx_istore_3, lwx_iload_0, lwx_iload_1, lwx_iload_2, lwx_iload_3, lwx_aload_0, lwx_aload_1, lwx_aload_2, lwx_aload_3, lw_getI, lw_getL, lw_getR, lw_getZ, lw_icmp_ge, lw_iaload, lw_imul, lw_icmp_ne, lw_goto, lw_iadd, lw_istore, lwx_iload, lwx_iinc, lw_iastore, lwx_invokevirtual_2, lw_if_ne, lw_laload, lwx_invokevirtual_5, lw_l2i, lw_bipush, lw_baload, lw_bastore, lw_putI, lw_putL, lw_putR, lw_putZ, lw_lastore, lwx_invokevirtual_6, lwx_invokevirtual_3, lwx_invokevirtual_1, lw_vret, List.getD_cons_zero, List.getD_cons_succ, lm_set1, lm_set2, lm_cut, List.getElem?_cons_zero, List.getElem?_cons_succ, List.set_cons_zero, List.set_cons_succ, List.length_cons, List.length_nil, List.map_cons, List.map_nil, List.sum_cons, List.sum_nil, Value.category, Nat.reduceAdd, Nat.reduceDiv, Nat.reduceMod, Nat.reduceLT, Nat.reduceLeDiff, Nat.reduceMul, Int.toNat_natCast, Int.reduceToNat, true_and, and_true, lm_rok_1, lm_rok_20, lm_rok_21, lm_rok_0, lm_args, lm_ent, List.nil_append, List.cons_append, List.replicate, Nat.reduceSub, if_false, if_true, reduceCtorEq, Nat.reduceEqDiff, Bool.or_true, Bool.true_or, Bool.or_false, Bool.false_or, Bool.and_true, Bool.true_and, BEq.rfl, beq_self_eq_true, kb_m94, kb_m92, kb_m63, kb_m46, kb_m45, kb_m42, kb_m41, kb_m33, kb_m10, kb_m9, kb_m4, kb_m3, kb_m2, zkb_6, zkb_7, zkb_8, zkb_9, zkb_10, zkb_11, zkb_12, zkb_13, zkb_14, zkb_15, zkb_16, zkb_17, zkb_18, zkb_19, zkb_20, zkb_21, zkb_22, zkb_23, zkb_24, zkb_26, zkb_32, zkb_33, zkb_34, zkb_38, zkb_40, zkb_41, zkb_43, zkb_44, zkb_45, zkb_46, zkb_48, zkb_57, zkb_58, zkb_59, zkb_60, zkb_61, zkb_62, zkb_64, zkb_80, zkb_81, zkb_91, zkb_92, zkb_93, zkb_97, zkb_100, zkb_104, zkb_122, zkb_126, ki_m8, ki_m2, ki_m1, zki_0, zki_1, zki_2, zki_3, zki_4, zki_5, zks_160, zks_168, zks_240, zks_242, zks_255, zks_264, zks_300, zks_320, zks_500, zks_600, zks_625, zks_626, zks_1200, zks_1256, zks_2000, zks_2504, zks_3040, zks_4000, zks_6000, zks_12000, kl_0, kl_1, z_lt, z_le, z_eq, z_eq0, z_eq1, z_lt0, z_le0, z_0lt, z_0le, z_add, z_sub, z_add1, z_addn, z_addm, z_mul, z_cl, z_n9, z_n9s, z_n90, z_ne9, z_ne9s, z_lt_t, z_lt_f, z_le_t, z_le_f, z_eq_t, z_eq_f, z_pus, z_pun, z_row, or_self, or_false, false_or, true_or, or_true, and_self, and_false, false_and, not_true_eq_false, not_false_eq_true, false_implies, true_implies, implies_true, ne_eq, lm_row_s, lm_row_row, lm_up_row, rc_s, Classical.not_not, Nat.add_sub_cancel, i10, z_on, rok2_0, rok2_1, ml_176, rt_176, cb_176_34, cb_176_35, cb_176_74, cb_176_75, cb_176_84, cb_176_85, cb_176_93, cb_176_106, cb_176_251, cb_176_271, cb_176_273, cb_176_316, cb_176_404, cb_176_448, cb_176_489, cb_176_516, cb_176_569, rc_mod hS, sh_96 hS, sh_99 hS, sh_100 hS, rf_96_10 hR, rf_96_11 hR, rf_96_96 hR, rf_96_100 hR, h9', r1', r3']
      exact inn
    · have ek : kyN kn pn k = 2 * pn k + 1 := by unfold kyN; rw [if_neg k3]
      rw [ek] at inn
      simp (disch := omega) only [lk_v, lk_n, lm_isI_i, lm_isL_l, lm_isR_r, lm_vi_i, lw_iconst, lwx_istore_0, lwx_istore_1, lwx_istore_2, lwx_istore_3, lwx_iload_0, lwx_iload_1, lwx_iload_2, lwx_iload_3, lwx_aload_0, lwx_aload_1, lwx_aload_2, lwx_aload_3, lw_getI, lw_getL, lw_getR, lw_getZ, lw_icmp_ge, lw_iaload, lw_imul, lw_icmp_ne, lw_goto, lw_iadd, lw_istore, lwx_iload, lwx_iinc, lw_iastore, lwx_invokevirtual_2, lw_if_ne, lw_laload, lwx_invokevirtual_5, lw_l2i, lw_bipush, lw_baload, lw_bastore, lw_putI, lw_putL, lw_putR, lw_putZ, lw_lastore, lwx_invokevirtual_6, lwx_invokevirtual_3, lwx_invokevirtual_1, lw_vret, List.getD_cons_zero, List.getD_cons_succ, lm_set1, lm_set2, lm_cut, List.getElem?_cons_zero, List.getElem?_cons_succ, List.set_cons_zero, List.set_cons_succ, List.length_cons, List.length_nil, List.map_cons, List.map_nil, List.sum_cons, List.sum_nil, Value.category, Nat.reduceAdd, Nat.reduceDiv, Nat.reduceMod, Nat.reduceLT, Nat.reduceLeDiff, Nat.reduceMul, Int.toNat_natCast, Int.reduceToNat, true_and, and_true, lm_rok_1, lm_rok_20, lm_rok_21, lm_rok_0, lm_args, lm_ent, List.nil_append, List.cons_append, List.replicate, Nat.reduceSub, if_false, if_true, reduceCtorEq, Nat.reduceEqDiff, Bool.or_true, Bool.true_or, Bool.or_false, Bool.false_or, Bool.and_true, Bool.true_and, BEq.rfl, beq_self_eq_true, kb_m94, kb_m92, kb_m63, kb_m46, kb_m45, kb_m42, kb_m41, kb_m33, kb_m10, kb_m9, kb_m4, kb_m3, kb_m2, zkb_6, zkb_7, zkb_8, zkb_9, zkb_10, zkb_11, zkb_12, zkb_13, zkb_14, zkb_15, zkb_16, zkb_17, zkb_18, zkb_19, zkb_20, zkb_21, zkb_22, zkb_23, zkb_24, zkb_26, zkb_32, zkb_33, zkb_34, zkb_38, zkb_40, zkb_41, zkb_43, zkb_44, zkb_45, zkb_46, zkb_48, zkb_57, zkb_58, zkb_59, zkb_60, zkb_61, zkb_62, zkb_64, zkb_80, zkb_81, zkb_91, zkb_92, zkb_93, zkb_97, zkb_100, zkb_104, zkb_122, zkb_126, ki_m8, ki_m2, ki_m1, zki_0, zki_1, zki_2, zki_3, zki_4, zki_5, zks_160, zks_168, zks_240, zks_242, zks_255, zks_264, zks_300, zks_320, zks_500, zks_600, zks_625, zks_626, zks_1200, zks_1256, zks_2000, zks_2504, zks_3040, zks_4000, zks_6000, zks_12000, kl_0, kl_1, z_lt, z_le, z_eq, z_eq0, z_eq1, z_lt0, z_le0, z_0lt, z_0le, z_add, z_sub, z_add1, z_addn, z_addm, z_mul, z_cl, z_n9, z_n9s, z_n90, z_ne9, z_ne9s, z_lt_t, z_lt_f, z_le_t, z_le_f, z_eq_t, z_eq_f, z_pus, z_pun, z_row, or_self, or_false, false_or, true_or, or_true, and_self, and_false, false_and, not_true_eq_false, not_false_eq_true, false_implies, true_implies, implies_true, ne_eq, lm_row_s, lm_row_row, lm_up_row, rc_s, Classical.not_not, Nat.add_sub_cancel, i10, z_on, rok2_0, rok2_1, ml_176, rt_176, cb_176_34, cb_176_35, cb_176_74, cb_176_75, cb_176_84, cb_176_85, cb_176_93, cb_176_106, cb_176_251, cb_176_271, cb_176_273, cb_176_316, cb_176_404, cb_176_448, cb_176_489, cb_176_516, cb_176_569, rc_mod hS, sh_96 hS, sh_99 hS, sh_100 hS, rf_96_10 hR, rf_96_11 hR, rf_96_96 hR, rf_96_100 hR, h9', r1', r3']
      exact inn
/-- a draft's number counted by places is the node -/
theorem num_eq (ht : tko kd pl nt) (hT : TX kd pl nt z) {k : Nat} (hk : k < z 30 3) : cu (fun o => decide (kyN (fun k => z 0 (z 31 k)) (fun k => z 7 (z 31 k)) o < kyN (fun k => z 0 (z 31 k)) (fun k => z 7 (z 31 k)) k)) 0 (z 30 3) = z 31 k := by
  have h03 := hT.1.2
  have t1 := hT.2.1.1
  have ad := hT.2.1.2.2.2.1
  have w4 := hT.1.1.1
  have key : ∀ m, m < z 30 0 → ∀ n, n < m → 2 * z 7 n + (if z 0 n = 3 then 0 else 1) < 2 * z 7 m + (if z 0 m = 3 then 0 else 1) := by
    intro m
    induction m with
    | zero => intro _ n h; omega
    | succ m ih =>
      intro hm n hn
      have st : 2 * z 7 m + (if z 0 m = 3 then 0 else 1) < 2 * z 7 (m + 1) + (if z 0 (m + 1) = 3 then 0 else 1) := by
        rw [(t1 m (by omega)).1.2.1, (t1 (m + 1) hm).1.2.1]
        rcases ad m (by omega) (by omega) with h | ⟨h1, h2, h3⟩
        · have := pl_mono ht _ _ h (by have := (t1 (m + 1) hm).1.2.2; omega)
          split <;> split <;> omega
        · rw [h1, if_pos h2, if_neg h3]; omega
      by_cases e : n = m
      · rw [e]; exact st
      · have := ih (by omega) n (by omega); omega
  have kiff : ∀ a b, a < z 30 0 → b < z 30 0 → (2 * z 7 a + (if z 0 a = 3 then 0 else 1) < 2 * z 7 b + (if z 0 b = 3 then 0 else 1) ↔ a < b) := fun a b ha hb => by
    refine ⟨fun h => ?_, fun h => key b hb a h⟩
    rcases Nat.lt_trichotomy a b with s | s | s
    · exact s
    · rw [s] at h; omega
    · have := key a ha b s; omega
  rw [cu_c (P' := fun o => decide (z 31 o < z 31 k)) (z 30 3) 0 (fun j _ j2 => ?_)]
  · exact cu_lt (f := z 31) (fun i hi => by rw [← h03]; exact (mu_k hT hi).1) (fun i j hi hj q => by
      have a := (mu_k hT hi).2
      have b := (mu_k hT hj).2
      rw [q, b] at a
      exact a.symm) _ (by have := (mu_k hT hk).1; omega)
  · have := kiff (z 31 j) (z 31 k) (mu_k hT (show j < z 30 3 by omega)).1 (mu_k hT hk).1
    unfold kyN
    simp only
    rw [decide_eq_decide]
    exact this
end NUMBER
