theorem lm_up_at {α : Type} {f : Nat → Nat → α} {o k : Nat} {x : α} : lm_up f o k x o k = x := by simp [lm_up]
section SOLVER
variable {e n u : Nat} {S : lm_S} {I : lm_I} {L : lm_L} {R : lm_R} {Q : Option Value → lm_M → Prop}
/-- Solver.isCell -/
theorem c_84 (hS : lp_shape S) {c : Int32} : lc (e + 1) 84 [.ref 70, .int c] (S, I, L, R) Q = Q (some (.int (if 0 ≤ c ∧ c < I 70 6 then 1 else 0))) (S, I, L, R) := by
  rw [lc_succ, cb_84]
  simp only [lk_v, lk_n, lm_isI_i, lm_isL_l, lm_isR_r, lm_vi_i, lwx_iload_0, lwx_iload_1, lwx_iload_2, lwx_iload_3, lw_if_lt, lwx_aload_0, lwx_aload_1, lwx_aload_2, lwx_aload_3, lw_getI, lw_getL, lw_getR, lw_getZ, lw_icmp_ge, lw_iconst, lw_goto, lw_iret, List.getD_cons_zero, List.getD_cons_succ, lm_set1, lm_set2, lm_cut, List.getElem?_cons_zero, List.getElem?_cons_succ, List.set_cons_zero, List.set_cons_succ, List.length_cons, List.length_nil, List.map_cons, List.map_nil, List.sum_cons, List.sum_nil, Value.category, Nat.reduceAdd, Nat.reduceDiv, Nat.reduceMod, Nat.reduceLT, Nat.reduceLeDiff, Nat.reduceMul, Int.toNat_natCast, Int.reduceToNat, true_and, and_true, lm_rok_1, lm_rok_20, lm_rok_21, lm_rok_0, lm_args, lm_ent, List.nil_append, List.cons_append, List.replicate, Nat.reduceSub, if_false, if_true, reduceCtorEq, Nat.reduceEqDiff, Bool.or_true, Bool.true_or, Bool.or_false, Bool.false_or, Bool.and_true, Bool.true_and, BEq.rfl, beq_self_eq_true, kb_m94, kb_m92, kb_m63, kb_m46, kb_m45, kb_m42, kb_m41, kb_m33, kb_m10, kb_m9, kb_m4, kb_m3, kb_m2, kb_6, kb_7, kb_8, kb_9, kb_10, kb_11, kb_12, kb_13, kb_14, kb_15, kb_16, kb_17, kb_18, kb_19, kb_20, kb_21, kb_22, kb_23, kb_24, kb_26, kb_32, kb_33, kb_34, kb_38, kb_40, kb_41, kb_43, kb_44, kb_45, kb_46, kb_48, kb_57, kb_58, kb_59, kb_60, kb_61, kb_62, kb_64, kb_80, kb_81, kb_91, kb_92, kb_93, kb_97, kb_100, kb_104, kb_122, kb_126, ki_m8, ki_m2, ki_m1, ki_0, ki_1, ki_2, ki_3, ki_4, ki_5, ks_160, ks_168, ks_240, ks_242, ks_255, ks_264, ks_300, ks_320, ks_500, ks_600, ks_625, ks_626, ks_1200, ks_1256, ks_2000, ks_2504, ks_3040, ks_4000, ks_6000, ks_12000, kl_0, kl_1, ml_84, rt_84, cb_84_16, cb_84_17, sh_70 hS]
  by_cases h1 : c < 0
  · have h2 : ¬ 0 ≤ c := Int32.not_le.mpr h1
    simp [h1, h2]
  · have h2 : 0 ≤ c := Int32.not_lt.mp h1
    by_cases h3 : I 70 6 ≤ c
    · have h4 : ¬ c < I 70 6 := Int32.not_lt.mpr h3
      simp [h1, h2, h3, h4]
    · have h4 : c < I 70 6 := Int32.not_le.mp h3
      simp [h1, h2, h3, h4]
/-- Solver.root: the loop -/
theorem l_85 (hS : lp_shape S) (hR : lp_refs R) {k0 : Int32} : ∀ (m k t : Nat) (I : lm_I) (P dp : Nat → Nat), dp k ≤ m → m + t ≤ 625 → n ≤ 626 → (∀ j, j < n → I 71 j = nI (P j)) → fo P n dp u → u ≤ 9999 → k < n →
    (∀ (f' : Nat → Int32) (P' : Nat → Nat), (∀ j, j < n → f' j = nI (P' j)) → fo P' n dp u → (∀ j, j < n → rt P' j = rt P j) → (∀ (So Le Ri : Nat → Nat) (val : Nat → Ty), Sol n P' So Le Ri val ↔ Sol n P So Le Ri val) → Q (some (.int (nI (rt P k)))) (S, lm_row I 71 f', L, R)) →
    lw e 85 (lm_J 85 18) [.ref 70, .int k0, .int (nI k), .int (nI t)] [] (S, I, L, R) Q := by
  intro m
  induction m with
  | zero =>
    intro k t I P dp hd hm hn1 hP hf hu hk hQ
    have hkc : (nI k).toNatClampNeg = k := nI_clamp (by omega)
    have hk0 : (nI k < 0) = False := eq_false (nI_pos (by omega))
    have hend : P k = k := by
      by_cases e : P k = k
      · exact e
      · have := (hf k hk).2.2.1 e; omega
    have hr := rt_self hend
    have hq := hQ (I 71) P hP hf (fun _ _ => rfl) (fun _ _ _ _ => Iff.rfl)
    rw [lm_row_id, hr] at hq
    rw [cb_85_18]
    simp only [lk_v, lk_n, lm_isI_i, lm_isL_l, lm_isR_r, lm_vi_i, lwx_iload_0, lwx_iload_1, lwx_iload_2, lwx_iload_3, lw_if_lt, lwx_aload_0, lwx_aload_1, lwx_aload_2, lwx_aload_3, lw_getI, lw_getL, lw_getR, lw_getZ, lw_icmp_lt, lw_iconst, lw_iret, lwx_istore_0, lwx_istore_1, lwx_istore_2, lwx_istore_3, lw_sipush, lw_icmp_ge, lw_iaload, lw_icmp_eq, lw_iastore, lwx_iinc, lw_goto, List.getD_cons_zero, List.getD_cons_succ, lm_set1, lm_set2, lm_cut, List.getElem?_cons_zero, List.getElem?_cons_succ, List.set_cons_zero, List.set_cons_succ, List.length_cons, List.length_nil, List.map_cons, List.map_nil, List.sum_cons, List.sum_nil, Value.category, Nat.reduceAdd, Nat.reduceDiv, Nat.reduceMod, Nat.reduceLT, Nat.reduceLeDiff, Nat.reduceMul, Int.toNat_natCast, Int.reduceToNat, true_and, and_true, lm_rok_1, lm_rok_20, lm_rok_21, lm_rok_0, lm_args, lm_ent, List.nil_append, List.cons_append, List.replicate, Nat.reduceSub, if_false, if_true, reduceCtorEq, Nat.reduceEqDiff, Bool.or_true, Bool.true_or, Bool.or_false, Bool.false_or, Bool.and_true, Bool.true_and, BEq.rfl, beq_self_eq_true, kb_m94, kb_m92, kb_m63, kb_m46, kb_m45, kb_m42, kb_m41, kb_m33, kb_m10, kb_m9, kb_m4, kb_m3, kb_m2, kb_6, kb_7, kb_8, kb_9, kb_10, kb_11, kb_12, kb_13, kb_14, kb_15, kb_16, kb_17, kb_18, kb_19, kb_20, kb_21, kb_22, kb_23, kb_24, kb_26, kb_32, kb_33, kb_34, kb_38, kb_40, kb_41, kb_43, kb_44, kb_45, kb_46, kb_48, kb_57, kb_58, kb_59, kb_60, kb_61, kb_62, kb_64, kb_80, kb_81, kb_91, kb_92, kb_93, kb_97, kb_100, kb_104, kb_122, kb_126, ki_m8, ki_m2, ki_m1, ki_0, ki_1, ki_2, ki_3, ki_4, ki_5, ks_160, ks_168, ks_240, ks_242, ks_255, ks_264, ks_300, ks_320, ks_500, ks_600, ks_625, ks_626, ks_1200, ks_1256, ks_2000, ks_2504, ks_3040, ks_4000, ks_6000, ks_12000, kl_0, kl_1, ml_85, rt_85, cb_85_12, cb_85_14, cb_85_65, sh_70 hS, sh_71 hS, rf_70_0 hR, hkc, hk0, hP k hk, hend, false_or]
    have ht : ¬ (626 : Int32) ≤ nI t := nI_ge (a := t) (b := 626) (by omega) (by omega)
    exact ⟨fun q => absurd q ht, fun _ => ⟨⟨Or.inl trivial, by omega⟩, fun _ => hq, fun q => absurd trivial q⟩⟩
  | succ m ih =>
    intro k t I P dp hd hm hn1 hP hf hu hk hQ
    have hkc : (nI k).toNatClampNeg = k := nI_clamp (by omega)
    have hk0 : (nI k < 0) = False := eq_false (nI_pos (by omega))
    have hPk := (hf k hk).1
    have hPPk := (hf _ hPk).1
    have hpc : (nI (P k)).toNatClampNeg = P k := nI_clamp (by omega)
    have hp0 : (nI (P k) < 0) = False := eq_false (nI_pos (by omega))
    rw [cb_85_18]
    simp only [lk_v, lk_n, lm_isI_i, lm_isL_l, lm_isR_r, lm_vi_i, lwx_iload_0, lwx_iload_1, lwx_iload_2, lwx_iload_3, lw_if_lt, lwx_aload_0, lwx_aload_1, lwx_aload_2, lwx_aload_3, lw_getI, lw_getL, lw_getR, lw_getZ, lw_icmp_lt, lw_iconst, lw_iret, lwx_istore_0, lwx_istore_1, lwx_istore_2, lwx_istore_3, lw_sipush, lw_icmp_ge, lw_iaload, lw_icmp_eq, lw_iastore, lwx_iinc, lw_goto, List.getD_cons_zero, List.getD_cons_succ, lm_set1, lm_set2, lm_cut, List.getElem?_cons_zero, List.getElem?_cons_succ, List.set_cons_zero, List.set_cons_succ, List.length_cons, List.length_nil, List.map_cons, List.map_nil, List.sum_cons, List.sum_nil, Value.category, Nat.reduceAdd, Nat.reduceDiv, Nat.reduceMod, Nat.reduceLT, Nat.reduceLeDiff, Nat.reduceMul, Int.toNat_natCast, Int.reduceToNat, true_and, and_true, lm_rok_1, lm_rok_20, lm_rok_21, lm_rok_0, lm_args, lm_ent, List.nil_append, List.cons_append, List.replicate, Nat.reduceSub, if_false, if_true, reduceCtorEq, Nat.reduceEqDiff, Bool.or_true, Bool.true_or, Bool.or_false, Bool.false_or, Bool.and_true, Bool.true_and, BEq.rfl, beq_self_eq_true, kb_m94, kb_m92, kb_m63, kb_m46, kb_m45, kb_m42, kb_m41, kb_m33, kb_m10, kb_m9, kb_m4, kb_m3, kb_m2, kb_6, kb_7, kb_8, kb_9, kb_10, kb_11, kb_12, kb_13, kb_14, kb_15, kb_16, kb_17, kb_18, kb_19, kb_20, kb_21, kb_22, kb_23, kb_24, kb_26, kb_32, kb_33, kb_34, kb_38, kb_40, kb_41, kb_43, kb_44, kb_45, kb_46, kb_48, kb_57, kb_58, kb_59, kb_60, kb_61, kb_62, kb_64, kb_80, kb_81, kb_91, kb_92, kb_93, kb_97, kb_100, kb_104, kb_122, kb_126, ki_m8, ki_m2, ki_m1, ki_0, ki_1, ki_2, ki_3, ki_4, ki_5, ks_160, ks_168, ks_240, ks_242, ks_255, ks_264, ks_300, ks_320, ks_500, ks_600, ks_625, ks_626, ks_1200, ks_1256, ks_2000, ks_2504, ks_3040, ks_4000, ks_6000, ks_12000, kl_0, kl_1, ml_85, rt_85, cb_85_12, cb_85_14, cb_85_65, sh_70 hS, sh_71 hS, rf_70_0 hR, hkc, hk0, hP k hk, false_or, hpc, hp0, hP _ hPk, lm_up_at, nI_1]
    have ht : ¬ (626 : Int32) ≤ nI t := nI_ge (a := t) (b := 626) (by omega) (by omega)
    refine ⟨fun q => absurd q ht, fun _ => ⟨⟨Or.inl trivial, by omega⟩, fun q => ?_, fun q => ⟨⟨Or.inl trivial, by omega⟩, ⟨Or.inl trivial, by omega⟩, by omega, ⟨Or.inl trivial, by omega⟩, ?_⟩⟩⟩
    · have hend : P k = k := (nI_eq (by omega) (by omega)).mp q
      have hq := hQ (I 71) P hP hf (fun _ _ => rfl) (fun _ _ _ _ => Iff.rfl)
      rw [lm_row_id, rt_self hend] at hq
      exact hq
    · have hne : P k ≠ k := fun e => q (by rw [e])
      have hd2 : dp (P (P k)) ≤ m := by
        have h1 := (hf k hk).2.2.1 hne
        by_cases e : P (P k) = P k
        · rw [e]; omega
        · have := (hf _ hPk).2.2.1 e; omega
      refine ih (P (P k)) (t + 1) (lm_up I 71 k (nI (P (P k)))) (fun j => if j = k then P (P k) else P j) dp hd2 (by omega) hn1 (fun j hj => ?_) (fo_half hf hk) hu hPPk (fun f' P' h1 h2 h3 h4 => ?_)
      · rw [lm_up_same]
        show (if j = k then nI (P (P k)) else I 71 j) = nI (if j = k then P (P k) else P j)
        split
        · rfl
        · exact hP j hj
      · have hq := hQ f' P' h1 h2 (fun j hj => by rw [h3 j hj]; exact rt_half hf hu hk _ j hj (Nat.le_refl _)) (fun So Le Ri val => (h4 So Le Ri val).trans (Sol_half hf hk))
        rw [lm_up_row, lm_row_row]
        have e3 : rt (fun j => if j = k then P (P k) else P j) (P (P k)) = rt P k := by
          rw [rt_half hf hu hk _ _ hPPk (Nat.le_refl _), rt_up hf hu hPk, rt_up hf hu hk]
        rw [e3]
        exact hq
/-- Solver.root -/
theorem c_85 (hS : lp_shape S) (hR : lp_refs R) {k : Nat} {P dp : Nat → Nat} (hn : I 70 6 = nI n) (hn1 : n ≤ 626) (hP : ∀ j, j < n → I 71 j = nI (P j)) (hf : fo P n dp u) (hu : u ≤ 625) (hk : k < n)
    (hQ : ∀ (f' : Nat → Int32) (P' : Nat → Nat), (∀ j, j < n → f' j = nI (P' j)) → fo P' n dp u → (∀ j, j < n → rt P' j = rt P j) → (∀ (So Le Ri : Nat → Nat) (val : Nat → Ty), Sol n P' So Le Ri val ↔ Sol n P So Le Ri val) → Q (some (.int (nI (rt P k)))) (S, lm_row I 71 f', L, R)) :
    lc (e + 1) 85 [.ref 70, .int (nI k)] (S, I, L, R) Q := by
  rw [lc_succ, cb_85]
  have hk0 : (nI k < 0) = False := eq_false (nI_pos (by omega))
  simp only [lk_v, lk_n, lm_isI_i, lm_isL_l, lm_isR_r, lm_vi_i, lwx_iload_0, lwx_iload_1, lwx_iload_2, lwx_iload_3, lw_if_lt, lwx_aload_0, lwx_aload_1, lwx_aload_2, lwx_aload_3, lw_getI, lw_getL, lw_getR, lw_getZ, lw_icmp_lt, lw_iconst, lw_iret, lwx_istore_0, lwx_istore_1, lwx_istore_2, lwx_istore_3, lw_sipush, lw_icmp_ge, lw_iaload, lw_icmp_eq, lw_iastore, lwx_iinc, lw_goto, List.getD_cons_zero, List.getD_cons_succ, lm_set1, lm_set2, lm_cut, List.getElem?_cons_zero, List.getElem?_cons_succ, List.set_cons_zero, List.set_cons_succ, List.length_cons, List.length_nil, List.map_cons, List.map_nil, List.sum_cons, List.sum_nil, Value.category, Nat.reduceAdd, Nat.reduceDiv, Nat.reduceMod, Nat.reduceLT, Nat.reduceLeDiff, Nat.reduceMul, Int.toNat_natCast, Int.reduceToNat, true_and, and_true, lm_rok_1, lm_rok_20, lm_rok_21, lm_rok_0, lm_args, lm_ent, List.nil_append, List.cons_append, List.replicate, Nat.reduceSub, if_false, if_true, reduceCtorEq, Nat.reduceEqDiff, Bool.or_true, Bool.true_or, Bool.or_false, Bool.false_or, Bool.and_true, Bool.true_and, BEq.rfl, beq_self_eq_true, kb_m94, kb_m92, kb_m63, kb_m46, kb_m45, kb_m42, kb_m41, kb_m33, kb_m10, kb_m9, kb_m4, kb_m3, kb_m2, kb_6, kb_7, kb_8, kb_9, kb_10, kb_11, kb_12, kb_13, kb_14, kb_15, kb_16, kb_17, kb_18, kb_19, kb_20, kb_21, kb_22, kb_23, kb_24, kb_26, kb_32, kb_33, kb_34, kb_38, kb_40, kb_41, kb_43, kb_44, kb_45, kb_46, kb_48, kb_57, kb_58, kb_59, kb_60, kb_61, kb_62, kb_64, kb_80, kb_81, kb_91, kb_92, kb_93, kb_97, kb_100, kb_104, kb_122, kb_126, ki_m8, ki_m2, ki_m1, ki_0, ki_1, ki_2, ki_3, ki_4, ki_5, ks_160, ks_168, ks_240, ks_242, ks_255, ks_264, ks_300, ks_320, ks_500, ks_600, ks_625, ks_626, ks_1200, ks_1256, ks_2000, ks_2504, ks_3040, ks_4000, ks_6000, ks_12000, kl_0, kl_1, ml_85, rt_85, cb_85_12, cb_85_14, cb_85_65, sh_70 hS, hn, hk0, false_implies, not_false_eq_true, true_implies]
  have h1 : nI k < nI n := nI_lt hk (by omega)
  refine ⟨fun _ => ?_, fun q => absurd h1 q⟩
  exact l_85 hS hR 625 k 0 I P dp (by have := (hf k hk).2.2.2; omega) (by omega) hn1 hP hf (by omega) hk (fun f' P' a1 a2 a3 a4 => ⟨rfl, hQ f' P' a1 a2 a3 a4⟩)
end SOLVER
