theorem rc_pos {P : Nat → Nat} {b : Nat} (eb : P b = b) : ∀ {n : Nat}, b < n → 1 ≤ rc P n
  | 0, h => absurd h (Nat.not_lt_zero _)
  | n + 1, h => by
    show 1 ≤ rc P n + _
    by_cases e : n = b
    · subst e; rw [if_pos eb]; omega
    · have := rc_pos eb (n := n) (by omega); omega
section SOLVER
variable {e n : Nat} {S : lm_S} {I : lm_I} {L : lm_L} {R : lm_R} {Q : Option Value → lm_M → Prop}
theorem lm_row_7176 {f f' g : Nat → Int32} : lm_row (lm_row (lm_row I 71 f) 76 g) 71 f' = lm_row (lm_row I 71 f') 76 g := by
  rw [lm_row_comm (by decide), lm_row_row, lm_row_comm (by decide)]
theorem l_86n (hS : lp_shape S) (hR : lp_refs R) {x0 y0 : Int32} {v5 v6 : Value} {t : Nat} (ht : t ≤ 2503) (hQ : Q (some (.int 1)) (S, I, L, R)) : lw (e + 2) 86 (lm_J 86 11) [.ref 70, .int x0, .int y0, .int (nI 0), .int (nI t), v5, v6] [] (S, I, L, R) Q := by
  have h1 : (2504 ≤ nI t) = False := eq_false (nI_ge (a := t) (b := 2504) (by omega) (by omega))
  have h2 : (nI 0 < 2) = True := eq_true (by decide)
  rw [cb_86_11]
  simp only [lk_v, lk_n, lm_isI_i, lm_isL_l, lm_isR_r, lm_vi_i, lwx_aload_0, lwx_aload_1, lwx_aload_2, lwx_aload_3, lw_iconst, lwx_iload_0, lwx_iload_1, lwx_iload_2, lwx_iload_3, lwx_invokevirtual_4, lwx_istore_0, lwx_istore_1, lwx_istore_2, lwx_istore_3, lw_istore, lwx_iload, lw_sipush, lw_icmp_ge, lw_icmp_lt, lw_getI, lw_getL, lw_getR, lw_getZ, lw_isub, lw_iaload, lwx_invokevirtual_2, lwx_iinc, lw_icmp_ne, lw_goto, lw_if_ne, lw_iastore, lw_icmp_eq, lw_iret, List.getD_cons_zero, List.getD_cons_succ, lm_set1, lm_set2, lm_cut, List.getElem?_cons_zero, List.getElem?_cons_succ, List.set_cons_zero, List.set_cons_succ, List.length_cons, List.length_nil, List.map_cons, List.map_nil, List.sum_cons, List.sum_nil, Value.category, Nat.reduceAdd, Nat.reduceDiv, Nat.reduceMod, Nat.reduceLT, Nat.reduceLeDiff, Nat.reduceMul, Int.toNat_natCast, Int.reduceToNat, true_and, and_true, lm_rok_1, lm_rok_20, lm_rok_21, lm_rok_0, lm_args, lm_ent, List.nil_append, List.cons_append, List.replicate, Nat.reduceSub, if_false, if_true, reduceCtorEq, Nat.reduceEqDiff, Bool.or_true, Bool.true_or, Bool.or_false, Bool.false_or, Bool.and_true, Bool.true_and, BEq.rfl, beq_self_eq_true, kb_m94, kb_m92, kb_m63, kb_m46, kb_m45, kb_m42, kb_m41, kb_m33, kb_m10, kb_m9, kb_m4, kb_m3, kb_m2, kb_6, kb_7, kb_8, kb_9, kb_10, kb_11, kb_12, kb_13, kb_14, kb_15, kb_16, kb_17, kb_18, kb_19, kb_20, kb_21, kb_22, kb_23, kb_24, kb_26, kb_32, kb_33, kb_34, kb_38, kb_40, kb_41, kb_43, kb_44, kb_45, kb_46, kb_48, kb_57, kb_58, kb_59, kb_60, kb_61, kb_62, kb_64, kb_80, kb_81, kb_91, kb_92, kb_93, kb_97, kb_100, kb_104, kb_122, kb_126, ki_m8, ki_m2, ki_m1, ki_0, ki_1, ki_2, ki_3, ki_4, ki_5, ks_160, ks_168, ks_240, ks_242, ks_255, ks_264, ks_300, ks_320, ks_500, ks_600, ks_625, ks_626, ks_1200, ks_1256, ks_2000, ks_2504, ks_3040, ks_4000, ks_6000, ks_12000, kl_0, kl_1, ml_86, rt_86, cb_86_65, cb_86_87, cb_86_109, cb_86_128, cb_86_177, cb_86_183, h1, h2, false_implies, not_false_eq_true, true_implies, not_true_eq_false]
  exact hQ
/-- Solver.unify: the loop -/
theorem l_86 (hS : lp_shape S) (hR : lp_refs R) {So Le Ri : Nat → Nat} {x0 y0 : Int32} {val0 : (Nat → Ty) → Prop} (h70 : I 70 6 = nI n) (hn : n ≤ 626) (h72 : ∀ j, j < n → I 72 j = nI (So j)) (h73 : ∀ j, j < n → I 73 j = pI (So j) 4 (Le j)) (h74 : ∀ j, j < n → I 74 j = pI (So j) 5 (Ri j)) (hg : gok n So Le Ri)
    (hQ0 : ∀ (f g : Nat → Int32), (∀ val, ¬ val0 val) → Q (some (.int 0)) (S, lm_row (lm_row I 71 f) 76 g, L, R))
    (hQ1 : ∀ (f g : Nat → Int32) (P' dp' : Nat → Nat) (u' : Nat), (∀ j, j < n → f j = nI (P' j)) → fo P' n dp' u' → u' + rc P' n = n → cl n P' So Le Ri → (∀ val, val0 val ↔ Sol n P' So Le Ri val) → Q (some (.int 1)) (S, lm_row (lm_row I 71 f) 76 g, L, R)) :
    ∀ (m t : Nat) (W : List (Nat × Nat)) (f g : Nat → Int32) (P dp : Nat → Nat) (u : Nat) (v5 v6 : Value), 3 * rc P n + W.length ≤ m → m + t ≤ 2503 → (∀ j, j < n → f j = nI (P j)) → fo P n dp u → u + rc P n = n → wst g W → (∀ q ∈ W, q.1 < n ∧ q.2 < n) → W.length + rc P n ≤ 627 → clo n P So Le Ri W → (∀ val, val0 val ↔ (Sol n P So Le Ri val ∧ ∀ q ∈ W, val q.1 = val q.2)) →
    lw (e + 2) 86 (lm_J 86 11) [.ref 70, .int x0, .int y0, .int (nI (2 * W.length)), .int (nI t), v5, v6] [] (S, lm_row (lm_row I 71 f) 76 g, L, R) Q := by
  intro m
  induction m with
  | zero =>
    intro t W f g P dp u v5 v6 hm ht hf hfo hu hw hWn hWr hcl hv
    match W, hm, hcl, hv with
    | [], hm, hcl, hv =>
      exact l_86n hS hR (by omega) (hQ1 f g P dp u hf hfo hu (clo_nil hfo (by have := rc_le (P := P) n; omega) hcl) (fun val => (hv val).trans ⟨fun q => q.1, fun q => ⟨q, fun _ z => by cases z⟩⟩))
    | q :: W, hm, hcl, hv => simp only [List.length_cons] at hm; omega
  | succ m ih =>
    intro t W f g P dp u v5 v6 hm ht hf hfo hu hw hWn hWr hcl hv
    match W, hm, hw, hWn, hWr, hcl, hv with
    | [], hm, hw, hWn, hWr, hcl, hv =>
      exact l_86n hS hR (by omega) (hQ1 f g P dp u hf hfo hu (clo_nil hfo (by have := rc_le (P := P) n; omega) hcl) (fun val => (hv val).trans ⟨fun q => q.1, fun q => ⟨q, fun _ z => by cases z⟩⟩))
    | (a, b) :: W, hm, hw, hWn, hWr, hcl, hv =>
      simp only [List.length_cons] at hm hWr ⊢
      obtain ⟨ga, gb, hw⟩ := hw
      have hab := hWn (a, b) List.mem_cons_self
      have hWn2 : ∀ q ∈ W, q.1 < n ∧ q.2 < n := fun q hq => hWn q (List.mem_cons_of_mem _ hq)
      have h1 : (2504 ≤ nI t) = False := eq_false (nI_ge (a := t) (b := 2504) (by omega) (by omega))
      have h2 : (nI (2 * (W.length + 1)) < 2) = False := eq_false (nI_nlt (a := 2 * (W.length + 1)) (b := 2) (by omega) (by omega))
      have h3 : nI (2 * (W.length + 1)) - 2 = nI (2 * W.length) := by rw [show (2 : Int32) = nI 2 from rfl, pk_sub (by omega)]; congr 1
      have h4 : nI (2 * (W.length + 1)) - 1 = nI (2 * W.length + 1) := by rw [show (1 : Int32) = nI 1 from rfl, pk_sub (by omega)]; congr 1
      have h5 : (nI (2 * W.length)).toNatClampNeg = 2 * W.length := nI_clamp (by omega)
      have h6 : (nI (2 * W.length) < 0) = False := eq_false (nI_pos (by omega))
      have h7 : (nI (2 * W.length + 1)).toNatClampNeg = 2 * W.length + 1 := nI_clamp (by omega)
      have h8 : (nI (2 * W.length + 1) < 0) = False := eq_false (nI_pos (by omega))
      have h9 : (1256 ≤ 2 * W.length) = False := eq_false (by omega)
      have h10 : (1256 ≤ 2 * W.length + 1) = False := eq_false (by omega)
      have h11 : nI (2 * (W.length + 1)) + -2 = nI (2 * W.length) := by rw [← h3, Int32.sub_eq_add_neg]
      rw [cb_86_11]
      simp only [lk_v, lk_n, lm_isI_i, lm_isL_l, lm_isR_r, lm_vi_i, lwx_aload_0, lwx_aload_1, lwx_aload_2, lwx_aload_3, lw_iconst, lwx_iload_0, lwx_iload_1, lwx_iload_2, lwx_iload_3, lwx_invokevirtual_4, lwx_istore_0, lwx_istore_1, lwx_istore_2, lwx_istore_3, lw_istore, lwx_iload, lw_sipush, lw_icmp_ge, lw_icmp_lt, lw_getI, lw_getL, lw_getR, lw_getZ, lw_isub, lw_iaload, lwx_invokevirtual_2, lwx_iinc, lw_icmp_ne, lw_goto, lw_if_ne, lw_iastore, lw_icmp_eq, lw_iret, List.getD_cons_zero, List.getD_cons_succ, lm_set1, lm_set2, lm_cut, List.getElem?_cons_zero, List.getElem?_cons_succ, List.set_cons_zero, List.set_cons_succ, List.length_cons, List.length_nil, List.map_cons, List.map_nil, List.sum_cons, List.sum_nil, Value.category, Nat.reduceAdd, Nat.reduceDiv, Nat.reduceMod, Nat.reduceLT, Nat.reduceLeDiff, Nat.reduceMul, Int.toNat_natCast, Int.reduceToNat, true_and, and_true, lm_rok_1, lm_rok_20, lm_rok_21, lm_rok_0, lm_args, lm_ent, List.nil_append, List.cons_append, List.replicate, Nat.reduceSub, if_false, if_true, reduceCtorEq, Nat.reduceEqDiff, Bool.or_true, Bool.true_or, Bool.or_false, Bool.false_or, Bool.and_true, Bool.true_and, BEq.rfl, beq_self_eq_true, kb_m94, kb_m92, kb_m63, kb_m46, kb_m45, kb_m42, kb_m41, kb_m33, kb_m10, kb_m9, kb_m4, kb_m3, kb_m2, kb_6, kb_7, kb_8, kb_9, kb_10, kb_11, kb_12, kb_13, kb_14, kb_15, kb_16, kb_17, kb_18, kb_19, kb_20, kb_21, kb_22, kb_23, kb_24, kb_26, kb_32, kb_33, kb_34, kb_38, kb_40, kb_41, kb_43, kb_44, kb_45, kb_46, kb_48, kb_57, kb_58, kb_59, kb_60, kb_61, kb_62, kb_64, kb_80, kb_81, kb_91, kb_92, kb_93, kb_97, kb_100, kb_104, kb_122, kb_126, ki_m8, ki_m2, ki_m1, ki_0, ki_1, ki_2, ki_3, ki_4, ki_5, ks_160, ks_168, ks_240, ks_242, ks_255, ks_264, ks_300, ks_320, ks_500, ks_600, ks_625, ks_626, ks_1200, ks_1256, ks_2000, ks_2504, ks_3040, ks_4000, ks_6000, ks_12000, kl_0, kl_1, ml_86, rt_86, cb_86_65, cb_86_87, cb_86_109, cb_86_128, cb_86_177, cb_86_183, sh_70 hS, sh_76 hS, rf_70_5 hR, h1, h2, h3, h5, h6, h9, false_implies, not_false_eq_true, true_implies, not_true_eq_false, or_self, true_or, lm_rc_v, lm_row_s, ga]
      have hu1 : u ≤ 625 := by have := rc_pos (rt_root hfo (by have := rc_le (P := P) n; omega) hab.1) (rt_lt hfo (by have := rc_le (P := P) n; omega) hab.1); omega
      refine c_85 (n := n) (u := u) (P := P) (dp := dp) hS hR (by rw [lm_row_n (by decide), lm_row_n (by decide)]; exact h70) hn (fun j hj => by rw [lm_row_n (by decide), lm_row_s]; exact hf j hj) hfo hu1 hab.1 (fun f1 P1 hf1 hfo1 hrt1 hsol1 => ?_)
      rw [lm_row_7176]
      simp only [lk_v, lk_n, lm_isI_i, lm_isL_l, lm_isR_r, lm_vi_i, lw_iconst, lw_bipush, lw_sipush, lw_lconst, lw_ldc2, lw_ldc, lw_getst, lwx_iload, lwx_iload_0, lwx_iload_1, lwx_iload_2, lwx_iload_3, lwx_lload, lwx_lload_0, lwx_lload_1, lwx_lload_2, lwx_lload_3, lwx_aload, lwx_aload_0, lwx_aload_1, lwx_aload_2, lwx_aload_3, lw_istore, lwx_istore_0, lwx_istore_1, lwx_istore_2, lwx_istore_3, lw_astore, lwx_astore_0, lwx_astore_1, lwx_astore_2, lwx_astore_3, lw_lstore, lwx_lstore_0, lwx_lstore_1, lwx_lstore_2, lwx_lstore_3, lwx_iinc, lw_goto, lw_dup_i, lw_dup_r, lw_pop_i, lw_pop_r, lw_dup2, lw_dup2r, lw_getI, lw_getL, lw_getR, lw_getZ, lw_putI, lw_putL, lw_putR, lw_putZ, lw_alen, lw_newa, lw_new, lw_copy, lw_obj, lw_iret, lw_vret, lwx_invokevirtual_1, lwx_invokevirtual_2, lwx_invokevirtual_3, lwx_invokevirtual_4, lwx_invokevirtual_5, lwx_invokevirtual_6, lwx_invokevirtual_7, lwx_invokespecial_1, lwx_invokespecial_2, lwx_invokespecial_3, lwx_invokespecial_4, lwx_invokespecial_5, lwx_invokespecial_6, lwx_invokespecial_7, lwx_invokestatic_0, lwx_invokestatic_1, lwx_invokestatic_2, lwx_invokestatic_3, lwx_invokestatic_4, lwx_invokestatic_5, lwx_invokestatic_6, lwx_invokestatic_7, lw_iadd, lw_isub, lw_imul, lw_iand, lw_ior, lw_ishl, lw_ishr, lw_idiv, lw_irem, lw_land, lw_lor, lw_lshl, lw_lshr, lw_lushr, lw_lcmp, lw_i2l, lw_i2b, lw_l2i, lw_iaload, lw_baload, lw_laload, lw_iastore, lw_bastore, lw_lastore, lw_if_eq, lw_icmp_eq, lw_if_ne, lw_icmp_ne, lw_if_lt, lw_icmp_lt, lw_if_ge, lw_icmp_ge, lw_if_gt, lw_icmp_gt, lw_if_le, lw_icmp_le, List.getD_cons_zero, List.getD_cons_succ, lm_set1, lm_set2, lm_cut, List.getElem?_cons_zero, List.getElem?_cons_succ, List.set_cons_zero, List.set_cons_succ, List.length_cons, List.length_nil, List.map_cons, List.map_nil, List.sum_cons, List.sum_nil, Value.category, Nat.reduceAdd, Nat.reduceDiv, Nat.reduceMod, Nat.reduceLT, Nat.reduceLeDiff, Nat.reduceMul, Int.toNat_natCast, Int.reduceToNat, true_and, and_true, lm_rok_1, lm_rok_20, lm_rok_21, lm_rok_0, lm_args, lm_ent, List.nil_append, List.cons_append, List.replicate, Nat.reduceSub, if_false, if_true, reduceCtorEq, Nat.reduceEqDiff, Bool.or_true, Bool.true_or, Bool.or_false, Bool.false_or, Bool.and_true, Bool.true_and, BEq.rfl, beq_self_eq_true, kb_m94, kb_m92, kb_m63, kb_m46, kb_m45, kb_m42, kb_m41, kb_m33, kb_m10, kb_m9, kb_m4, kb_m3, kb_m2, kb_6, kb_7, kb_8, kb_9, kb_10, kb_11, kb_12, kb_13, kb_14, kb_15, kb_16, kb_17, kb_18, kb_19, kb_20, kb_21, kb_22, kb_23, kb_24, kb_26, kb_32, kb_33, kb_34, kb_38, kb_40, kb_41, kb_43, kb_44, kb_45, kb_46, kb_48, kb_57, kb_58, kb_59, kb_60, kb_61, kb_62, kb_64, kb_80, kb_81, kb_91, kb_92, kb_93, kb_97, kb_100, kb_104, kb_122, kb_126, ki_m8, ki_m2, ki_m1, ki_0, ki_1, ki_2, ki_3, ki_4, ki_5, ks_160, ks_168, ks_240, ks_242, ks_255, ks_264, ks_300, ks_320, ks_500, ks_600, ks_625, ks_626, ks_1200, ks_1256, ks_2000, ks_2504, ks_3040, ks_4000, ks_6000, ks_12000, kl_0, kl_1, sh_70 hS, sh_76 hS, rf_70_5 hR, h4, h7, h8, h10, false_implies, not_false_eq_true, true_implies, not_true_eq_false, or_self, true_or, lm_rc_v, lm_row_s, gb]
      refine c_85 (n := n) (u := u) (P := P1) (dp := dp) hS hR (by rw [lm_row_n (by decide), lm_row_n (by decide)]; exact h70) hn (fun j hj => by rw [lm_row_n (by decide), lm_row_s]; exact hf1 j hj) hfo1 hu1 hab.2 (fun f2 P2 hf2 hfo2 hrt2 hsol2 => ?_)
      rw [lm_row_7176, hrt1 b hab.2]
      have hra : rt P a < n := rt_lt hfo (by omega) hab.1
      have hrb : rt P b < n := rt_lt hfo (by omega) hab.2
      have hP2a : P2 (rt P a) = rt P a := by
        have := rt_root hfo2 (by omega) hab.1
        rw [hrt2 a hab.1, hrt1 a hab.1] at this
        exact this
      have hP2b : P2 (rt P b) = rt P b := by
        have := rt_root hfo2 (by omega) hab.2
        rw [hrt2 b hab.2, hrt1 b hab.2] at this
        exact this
      have hrt0 : ∀ j, j < n → rt P2 j = rt P j := fun j hj => (hrt2 j hj).trans (hrt1 j hj)
      have hsol0 : ∀ val, Sol n P2 So Le Ri val ↔ Sol n P So Le Ri val := fun val => (hsol2 So Le Ri val).trans (hsol1 So Le Ri val)
      have hrc2 : rc P2 n = rc P n := rc_congr fun j hj => ⟨fun q => by
          have h1 := rt_self q
          rw [hrt0 j hj] at h1
          rw [← h1]; exact rt_root hfo (by omega) hj, fun q => by
          have h1 := rt_self q
          rw [← hrt0 j hj] at h1
          rw [← h1]; exact rt_root hfo2 (by omega) hj⟩
      clear hrt1 hrt2 hsol1 hsol2 hf1 hfo1
      generalize hA : rt P a = ra at hra hP2a ⊢
      generalize hBb : rt P b = rb at hrb hP2b ⊢
      have k1 : (nI ra).toNatClampNeg = ra := nI_clamp (by omega)
      have k2 : (nI ra < 0) = False := eq_false (nI_pos (by omega))
      have k3 : (nI rb).toNatClampNeg = rb := nI_clamp (by omega)
      have k4 : (nI rb < 0) = False := eq_false (nI_pos (by omega))
      have k5 : (626 ≤ ra) = False := eq_false (by omega)
      have k6 : (626 ≤ rb) = False := eq_false (by omega)
      have k7 : (nI ra = nI rb) = (ra = rb) := propext (nI_eq (by omega) (by omega))
      simp only [lk_v, lk_n, lm_isI_i, lm_isL_l, lm_isR_r, lm_vi_i, lwx_aload_0, lwx_aload_1, lwx_aload_2, lwx_aload_3, lw_iconst, lwx_iload_0, lwx_iload_1, lwx_iload_2, lwx_iload_3, lwx_invokevirtual_4, lwx_istore_0, lwx_istore_1, lwx_istore_2, lwx_istore_3, lw_istore, lwx_iload, lw_sipush, lw_icmp_ge, lw_icmp_lt, lw_getI, lw_getL, lw_getR, lw_getZ, lw_isub, lw_iaload, lwx_invokevirtual_2, lwx_iinc, lw_icmp_ne, lw_goto, lw_if_ne, lw_iastore, lw_icmp_eq, lw_iret, List.getD_cons_zero, List.getD_cons_succ, lm_set1, lm_set2, lm_cut, List.getElem?_cons_zero, List.getElem?_cons_succ, List.set_cons_zero, List.set_cons_succ, List.length_cons, List.length_nil, List.map_cons, List.map_nil, List.sum_cons, List.sum_nil, Value.category, Nat.reduceAdd, Nat.reduceDiv, Nat.reduceMod, Nat.reduceLT, Nat.reduceLeDiff, Nat.reduceMul, Int.toNat_natCast, Int.reduceToNat, true_and, and_true, lm_rok_1, lm_rok_20, lm_rok_21, lm_rok_0, lm_args, lm_ent, List.nil_append, List.cons_append, List.replicate, Nat.reduceSub, if_false, if_true, reduceCtorEq, Nat.reduceEqDiff, Bool.or_true, Bool.true_or, Bool.or_false, Bool.false_or, Bool.and_true, Bool.true_and, BEq.rfl, beq_self_eq_true, kb_m94, kb_m92, kb_m63, kb_m46, kb_m45, kb_m42, kb_m41, kb_m33, kb_m10, kb_m9, kb_m4, kb_m3, kb_m2, kb_6, kb_7, kb_8, kb_9, kb_10, kb_11, kb_12, kb_13, kb_14, kb_15, kb_16, kb_17, kb_18, kb_19, kb_20, kb_21, kb_22, kb_23, kb_24, kb_26, kb_32, kb_33, kb_34, kb_38, kb_40, kb_41, kb_43, kb_44, kb_45, kb_46, kb_48, kb_57, kb_58, kb_59, kb_60, kb_61, kb_62, kb_64, kb_80, kb_81, kb_91, kb_92, kb_93, kb_97, kb_100, kb_104, kb_122, kb_126, ki_m8, ki_m2, ki_m1, ki_0, ki_1, ki_2, ki_3, ki_4, ki_5, ks_160, ks_168, ks_240, ks_242, ks_255, ks_264, ks_300, ks_320, ks_500, ks_600, ks_625, ks_626, ks_1200, ks_1256, ks_2000, ks_2504, ks_3040, ks_4000, ks_6000, ks_12000, kl_0, kl_1, ml_86, rt_86, cb_86_65, cb_86_87, cb_86_109, cb_86_128, cb_86_177, cb_86_183, sh_70 hS, sh_71 hS, sh_72 hS, sh_73 hS, sh_74 hS, sh_76 hS, rf_70_0 hR, rf_70_1 hR, rf_70_2 hR, rf_70_3 hR, h11, nI_1, k1, k2, k3, k4, k5, k6, k7, h72 ra hra, h72 rb hrb, h73 ra hra, h73 rb hrb, h74 ra hra, h74 rb hrb, false_implies, not_false_eq_true, true_implies, not_true_eq_false, or_self, true_or, or_false, lm_rc_v, lm_row_s, lm_row_n, ne_eq, and_self, lm_up_row, lm_row_7176, Classical.not_not]
      have hsv : ∀ val, Sol n P2 So Le Ri val → val a = val ra ∧ val b = val rb := fun val hs => by
        have h1 := (hsol0 val).mp hs
        rw [← hA, ← hBb]
        exact ⟨(Sol_rt hfo h1 10000 a hab.1).symm, (Sol_rt hfo h1 10000 b hab.2).symm⟩
      have hv2 : ∀ val, val0 val ↔ (Sol n P2 So Le Ri val ∧ val ra = val rb ∧ ∀ q ∈ W, val q.1 = val q.2) := fun val => by
        rw [hv val, ← hsol0 val]
        constructor
        · rintro ⟨h1, h2⟩
          have h3 := hsv val h1
          exact ⟨h1, by rw [← h3.1, ← h3.2]; exact h2 (a, b) List.mem_cons_self, fun q hq => h2 q (List.mem_cons_of_mem _ hq)⟩
        · rintro ⟨h1, h2, h3⟩
          refine ⟨h1, fun q hq => ?_⟩
          have h4 := hsv val h1
          rcases List.mem_cons.mp hq with rfl | hq
          · show val a = val b
            rw [h4.1, h4.2]; exact h2
          · exact h3 q hq
      have hso0 : (nI (So ra) = 0) = (So ra = 0) := propext (nI_eq (a := So ra) (b := 0) (by have := (hg ra hra).1; omega) (by omega))
      have hso1 : (nI (So rb) = 0) = (So rb = 0) := propext (nI_eq (a := So rb) (b := 0) (by have := (hg rb hrb).1; omega) (by omega))
      have hso2 : (nI (So ra) = nI (So rb)) = (So ra = So rb) := propext (nI_eq (by have := (hg ra hra).1; omega) (by have := (hg rb hrb).1; omega))
      simp only [hso0, hso1, hso2]
      -- one root under the other
      have hjoin : ∀ (x y : Nat), x < n → y < n → P2 x = x → P2 y = y → x ≠ y → (∀ j, j < n → upd f2 x (nI y) j = nI ((fun j => if j = x then y else P2 j) j)) ∧ fo (fun j => if j = x then y else P2 j) n (fun j => if rt P2 j = x then dp j + 1 else dp j) (u + 1) ∧ rc (fun j => if j = x then y else P2 j) n + 1 = rc P n ∧ 1 ≤ rc (fun j => if j = x then y else P2 j) n := by
        intro x y hx hy ex ey hne
        refine ⟨fun j hj => ?_, fo_join hfo2 (by omega) hx hy ex ey hne, by rw [← hrc2]; exact rc_join ex hne hx, rc_pos (b := y) (by simp [fun q : y = x => hne q.symm, ey]) hy⟩
        unfold upd
        show (if j = x then nI y else f2 j) = nI (if j = x then y else P2 j)
        split
        · rfl
        · exact hf2 j hj
      have hcs2 : ra = rb → clo n P2 So Le Ri W := fun heq φ hφ hw2 j hj hs => by
        have hr : ∀ j, j < n → φ (rt P j) = φ j := fun j hj => by rw [← hrt0 j hj]; exact phi_rt hfo2 hφ hj
        have h1 := hcl φ (fun j hj => by rw [← hr j hj, ← hr (P j) (hfo j hj).1, rt_up hfo (by omega) hj]) (fun q hq => by
          rcases List.mem_cons.mp hq with rfl | hq
          · show φ a = φ b
            rw [← hr a hab.1, ← hr b hab.2, hA, hBb, heq]
          · exact hw2 q hq) j hj hs
        rw [hrt0 j hj]
        exact h1
      refine ⟨fun hne => ⟨fun hb0 => ⟨fun ha0 => ⟨fun hss => ?_, fun hss => ?_⟩, fun ha0 => ?_⟩, fun hb0 => ?_⟩, fun heq => ?_⟩
      · obtain ⟨j1, j2, j3, j4⟩ := hjoin ra rb hra hrb hP2a hP2b hne
        have gra := hg ra hra
        have grb := hg rb hrb
        have hcj : ∀ W' : List (Nat × Nat), (∀ q ∈ W, q ∈ W') → (4 ≤ So ra → (Le ra, Le rb) ∈ W') → (5 ≤ So ra → (Ri ra, Ri rb) ∈ W') → clo n (fun j => if j = ra then rb else P2 j) So Le Ri W' := fun W' m0 m1 m2 => clo_join hfo hfo2 (by omega) hrt0 hra hrb hP2a hP2b hne hab.1 hab.2 (Or.inl ⟨hA, hBb⟩) m0 (Or.inr ⟨hss, fun z => Or.inl (m1 z), fun z => Or.inl (m2 z)⟩) hcl
        have hv3 : ∀ val, val0 val ↔ (Sol n (fun j => if j = ra then rb else P2 j) So Le Ri val ∧ ∀ q ∈ W, val q.1 = val q.2) := fun val => by
          rw [hv2 val, Sol_join hra hP2a]
          exact ⟨fun q => ⟨⟨q.1, q.2.1⟩, q.2.2⟩, fun q => ⟨q.1.1, q.1.2, q.2⟩⟩
        have hpart : ∀ val, Sol n (fun j => if j = ra then rb else P2 j) So Le Ri val → (4 ≤ So ra → val (Le ra) = val (Le rb)) ∧ (5 ≤ So ra → val (Ri ra) = val (Ri rb)) := fun val hs => by
          obtain ⟨h1, h2⟩ := (Sol_join hra hP2a).mp hs
          have g1 := (h1 ra hra).2 ha0
          have g2 := (h1 rb hrb).2 hb0
          rw [g1, g2] at h2
          exact (con_inj (by omega) (by omega) h2).2
        by_cases h5 : 5 ≤ So ra
        · have p1 : pI (So ra) 4 (Le ra) = nI (Le ra) := if_pos (by omega)
          have p2 : pI (So rb) 4 (Le rb) = nI (Le rb) := if_pos (by omega)
          have p3 : pI (So ra) 5 (Ri ra) = nI (Ri ra) := if_pos h5
          have p4 : pI (So rb) 5 (Ri rb) = nI (Ri rb) := if_pos (by omega)
          rw [p1, p2, c_87a (n := n) hS hR (by rw [lm_row_n (by decide), lm_row_n (by decide)]; exact h70) hn (gra.2.1 (by omega)) (grb.2.1 (by omega)) (by omega)]
          simp only [lk_v, lk_n, lm_isI_i, lm_isL_l, lm_isR_r, lm_vi_i, lwx_aload_0, lwx_aload_1, lwx_aload_2, lwx_aload_3, lw_iconst, lwx_iload_0, lwx_iload_1, lwx_iload_2, lwx_iload_3, lwx_invokevirtual_4, lwx_istore_0, lwx_istore_1, lwx_istore_2, lwx_istore_3, lw_istore, lwx_iload, lw_sipush, lw_icmp_ge, lw_icmp_lt, lw_getI, lw_getL, lw_getR, lw_getZ, lw_isub, lw_iaload, lwx_invokevirtual_2, lwx_iinc, lw_icmp_ne, lw_goto, lw_if_ne, lw_iastore, lw_icmp_eq, lw_iret, List.getD_cons_zero, List.getD_cons_succ, lm_set1, lm_set2, lm_cut, List.getElem?_cons_zero, List.getElem?_cons_succ, List.set_cons_zero, List.set_cons_succ, List.length_cons, List.length_nil, List.map_cons, List.map_nil, List.sum_cons, List.sum_nil, Value.category, Nat.reduceAdd, Nat.reduceDiv, Nat.reduceMod, Nat.reduceLT, Nat.reduceLeDiff, Nat.reduceMul, Int.toNat_natCast, Int.reduceToNat, true_and, and_true, lm_rok_1, lm_rok_20, lm_rok_21, lm_rok_0, lm_args, lm_ent, List.nil_append, List.cons_append, List.replicate, Nat.reduceSub, if_false, if_true, reduceCtorEq, Nat.reduceEqDiff, Bool.or_true, Bool.true_or, Bool.or_false, Bool.false_or, Bool.and_true, Bool.true_and, BEq.rfl, beq_self_eq_true, kb_m94, kb_m92, kb_m63, kb_m46, kb_m45, kb_m42, kb_m41, kb_m33, kb_m10, kb_m9, kb_m4, kb_m3, kb_m2, kb_6, kb_7, kb_8, kb_9, kb_10, kb_11, kb_12, kb_13, kb_14, kb_15, kb_16, kb_17, kb_18, kb_19, kb_20, kb_21, kb_22, kb_23, kb_24, kb_26, kb_32, kb_33, kb_34, kb_38, kb_40, kb_41, kb_43, kb_44, kb_45, kb_46, kb_48, kb_57, kb_58, kb_59, kb_60, kb_61, kb_62, kb_64, kb_80, kb_81, kb_91, kb_92, kb_93, kb_97, kb_100, kb_104, kb_122, kb_126, ki_m8, ki_m2, ki_m1, ki_0, ki_1, ki_2, ki_3, ki_4, ki_5, ks_160, ks_168, ks_240, ks_242, ks_255, ks_264, ks_300, ks_320, ks_500, ks_600, ks_625, ks_626, ks_1200, ks_1256, ks_2000, ks_2504, ks_3040, ks_4000, ks_6000, ks_12000, kl_0, kl_1, ml_86, rt_86, cb_86_65, cb_86_87, cb_86_109, cb_86_128, cb_86_177, cb_86_183, sh_70 hS, sh_74 hS, rf_70_3 hR, k1, k2, k3, k4, k5, k6, h74 ra hra, h74 rb hrb, p3, p4, false_implies, not_false_eq_true, true_implies, not_true_eq_false, or_self, true_or, or_false, lm_rc_v, lm_row_s, lm_row_n, ne_eq, and_self, lm_row_row]
          rw [c_87a (n := n) hS hR (by rw [lm_row_n (by decide), lm_row_n (by decide)]; exact h70) hn (gra.2.2 h5) (grb.2.2 (by omega)) (by omega)]
          simp only [lk_v, lk_n, lm_isI_i, lm_isL_l, lm_isR_r, lm_vi_i, lwx_aload_0, lwx_aload_1, lwx_aload_2, lwx_aload_3, lw_iconst, lwx_iload_0, lwx_iload_1, lwx_iload_2, lwx_iload_3, lwx_invokevirtual_4, lwx_istore_0, lwx_istore_1, lwx_istore_2, lwx_istore_3, lw_istore, lwx_iload, lw_sipush, lw_icmp_ge, lw_icmp_lt, lw_getI, lw_getL, lw_getR, lw_getZ, lw_isub, lw_iaload, lwx_invokevirtual_2, lwx_iinc, lw_icmp_ne, lw_goto, lw_if_ne, lw_iastore, lw_icmp_eq, lw_iret, List.getD_cons_zero, List.getD_cons_succ, lm_set1, lm_set2, lm_cut, List.getElem?_cons_zero, List.getElem?_cons_succ, List.set_cons_zero, List.set_cons_succ, List.length_cons, List.length_nil, List.map_cons, List.map_nil, List.sum_cons, List.sum_nil, Value.category, Nat.reduceAdd, Nat.reduceDiv, Nat.reduceMod, Nat.reduceLT, Nat.reduceLeDiff, Nat.reduceMul, Int.toNat_natCast, Int.reduceToNat, true_and, and_true, lm_rok_1, lm_rok_20, lm_rok_21, lm_rok_0, lm_args, lm_ent, List.nil_append, List.cons_append, List.replicate, Nat.reduceSub, if_false, if_true, reduceCtorEq, Nat.reduceEqDiff, Bool.or_true, Bool.true_or, Bool.or_false, Bool.false_or, Bool.and_true, Bool.true_and, BEq.rfl, beq_self_eq_true, kb_m94, kb_m92, kb_m63, kb_m46, kb_m45, kb_m42, kb_m41, kb_m33, kb_m10, kb_m9, kb_m4, kb_m3, kb_m2, kb_6, kb_7, kb_8, kb_9, kb_10, kb_11, kb_12, kb_13, kb_14, kb_15, kb_16, kb_17, kb_18, kb_19, kb_20, kb_21, kb_22, kb_23, kb_24, kb_26, kb_32, kb_33, kb_34, kb_38, kb_40, kb_41, kb_43, kb_44, kb_45, kb_46, kb_48, kb_57, kb_58, kb_59, kb_60, kb_61, kb_62, kb_64, kb_80, kb_81, kb_91, kb_92, kb_93, kb_97, kb_100, kb_104, kb_122, kb_126, ki_m8, ki_m2, ki_m1, ki_0, ki_1, ki_2, ki_3, ki_4, ki_5, ks_160, ks_168, ks_240, ks_242, ks_255, ks_264, ks_300, ks_320, ks_500, ks_600, ks_625, ks_626, ks_1200, ks_1256, ks_2000, ks_2504, ks_3040, ks_4000, ks_6000, ks_12000, kl_0, kl_1, ml_86, rt_86, cb_86_65, cb_86_87, cb_86_109, cb_86_128, cb_86_177, cb_86_183, nI_1, lm_row_s, lm_row_row]
          refine ih (t + 1) ((Ri ra, Ri rb) :: (Le ra, Le rb) :: W) _ _ _ _ (u + 1) _ _ (by simp only [List.length_cons]; omega) (by omega) j1 j2 (by omega) ⟨?_, ?_, ?_, ?_, wst_keep (fun j hj => ?_) hw⟩ (fun q hq => ?_) (by simp only [List.length_cons]; omega) (hcj _ (fun q hq => List.mem_cons_of_mem _ (List.mem_cons_of_mem _ hq)) (fun _ => List.mem_cons_of_mem _ List.mem_cons_self) (fun _ => List.mem_cons_self)) (fun val => ?_)
          · simp only [List.length_cons]; unfold upd; rw [if_neg (by omega), if_pos (by omega)]
          · simp only [List.length_cons]; unfold upd; rw [if_pos (by omega)]
          · unfold upd; rw [if_neg (by omega), if_neg (by omega), if_neg (by omega), if_pos (by omega)]
          · unfold upd; rw [if_neg (by omega), if_neg (by omega), if_pos (by omega)]
          · unfold upd
            rw [if_neg (by omega), if_neg (by omega), if_neg (by omega), if_neg (by omega)]
          · rcases List.mem_cons.mp hq with rfl | hq
            · exact ⟨gra.2.2 h5, grb.2.2 (by omega)⟩
            · rcases List.mem_cons.mp hq with rfl | hq
              · exact ⟨gra.2.1 (by omega), grb.2.1 (by omega)⟩
              · exact hWn2 q hq
          · rw [hv3 val]
            constructor
            · rintro ⟨h1, h2⟩
              refine ⟨h1, fun q hq => ?_⟩
              rcases List.mem_cons.mp hq with rfl | hq
              · exact (hpart val h1).2 h5
              · rcases List.mem_cons.mp hq with rfl | hq
                · exact (hpart val h1).1 (by omega)
                · exact h2 q hq
            · rintro ⟨h1, h2⟩
              exact ⟨h1, fun q hq => h2 q (List.mem_cons_of_mem _ (List.mem_cons_of_mem _ hq))⟩
        · have p3 : pI (So ra) 5 (Ri ra) = -9 := if_neg h5
          by_cases h4' : 4 ≤ So ra
          · have p1 : pI (So ra) 4 (Le ra) = nI (Le ra) := if_pos (by omega)
            have p2 : pI (So rb) 4 (Le rb) = nI (Le rb) := if_pos (by omega)
            rw [p1, p2, c_87a (n := n) hS hR (by rw [lm_row_n (by decide), lm_row_n (by decide)]; exact h70) hn (gra.2.1 (by omega)) (grb.2.1 (by omega)) (by omega)]
            simp only [lk_v, lk_n, lm_isI_i, lm_isL_l, lm_isR_r, lm_vi_i, lwx_aload_0, lwx_aload_1, lwx_aload_2, lwx_aload_3, lw_iconst, lwx_iload_0, lwx_iload_1, lwx_iload_2, lwx_iload_3, lwx_invokevirtual_4, lwx_istore_0, lwx_istore_1, lwx_istore_2, lwx_istore_3, lw_istore, lwx_iload, lw_sipush, lw_icmp_ge, lw_icmp_lt, lw_getI, lw_getL, lw_getR, lw_getZ, lw_isub, lw_iaload, lwx_invokevirtual_2, lwx_iinc, lw_icmp_ne, lw_goto, lw_if_ne, lw_iastore, lw_icmp_eq, lw_iret, List.getD_cons_zero, List.getD_cons_succ, lm_set1, lm_set2, lm_cut, List.getElem?_cons_zero, List.getElem?_cons_succ, List.set_cons_zero, List.set_cons_succ, List.length_cons, List.length_nil, List.map_cons, List.map_nil, List.sum_cons, List.sum_nil, Value.category, Nat.reduceAdd, Nat.reduceDiv, Nat.reduceMod, Nat.reduceLT, Nat.reduceLeDiff, Nat.reduceMul, Int.toNat_natCast, Int.reduceToNat, true_and, and_true, lm_rok_1, lm_rok_20, lm_rok_21, lm_rok_0, lm_args, lm_ent, List.nil_append, List.cons_append, List.replicate, Nat.reduceSub, if_false, if_true, reduceCtorEq, Nat.reduceEqDiff, Bool.or_true, Bool.true_or, Bool.or_false, Bool.false_or, Bool.and_true, Bool.true_and, BEq.rfl, beq_self_eq_true, kb_m94, kb_m92, kb_m63, kb_m46, kb_m45, kb_m42, kb_m41, kb_m33, kb_m10, kb_m9, kb_m4, kb_m3, kb_m2, kb_6, kb_7, kb_8, kb_9, kb_10, kb_11, kb_12, kb_13, kb_14, kb_15, kb_16, kb_17, kb_18, kb_19, kb_20, kb_21, kb_22, kb_23, kb_24, kb_26, kb_32, kb_33, kb_34, kb_38, kb_40, kb_41, kb_43, kb_44, kb_45, kb_46, kb_48, kb_57, kb_58, kb_59, kb_60, kb_61, kb_62, kb_64, kb_80, kb_81, kb_91, kb_92, kb_93, kb_97, kb_100, kb_104, kb_122, kb_126, ki_m8, ki_m2, ki_m1, ki_0, ki_1, ki_2, ki_3, ki_4, ki_5, ks_160, ks_168, ks_240, ks_242, ks_255, ks_264, ks_300, ks_320, ks_500, ks_600, ks_625, ks_626, ks_1200, ks_1256, ks_2000, ks_2504, ks_3040, ks_4000, ks_6000, ks_12000, kl_0, kl_1, ml_86, rt_86, cb_86_65, cb_86_87, cb_86_109, cb_86_128, cb_86_177, cb_86_183, sh_70 hS, sh_74 hS, rf_70_3 hR, k1, k2, k3, k4, k5, k6, h74 ra hra, h74 rb hrb, p3, c_87b hS hR, nI_1, false_implies, not_false_eq_true, true_implies, not_true_eq_false, or_self, true_or, or_false, lm_rc_v, lm_row_s, lm_row_n, ne_eq, and_self, lm_row_row]
            refine ih (t + 1) ((Le ra, Le rb) :: W) _ _ _ _ (u + 1) _ _ (by simp only [List.length_cons]; omega) (by omega) j1 j2 (by omega) ⟨?_, ?_, wst_keep (fun j hj => ?_) hw⟩ (fun q hq => ?_) (by simp only [List.length_cons]; omega) (hcj _ (fun q hq => List.mem_cons_of_mem _ hq) (fun _ => List.mem_cons_self) (fun z => absurd z h5)) (fun val => ?_)
            · unfold upd; rw [if_neg (by omega), if_pos (by omega)]
            · unfold upd; rw [if_pos (by omega)]
            · unfold upd
              rw [if_neg (by omega), if_neg (by omega)]
            · rcases List.mem_cons.mp hq with rfl | hq
              · exact ⟨gra.2.1 (by omega), grb.2.1 (by omega)⟩
              · exact hWn2 q hq
            · rw [hv3 val]
              constructor
              · rintro ⟨h1, h2⟩
                refine ⟨h1, fun q hq => ?_⟩
                rcases List.mem_cons.mp hq with rfl | hq
                · exact (hpart val h1).1 h4'
                · exact h2 q hq
              · rintro ⟨h1, h2⟩
                exact ⟨h1, fun q hq => h2 q (List.mem_cons_of_mem _ hq)⟩
          · have p1 : pI (So ra) 4 (Le ra) = -9 := if_neg h4'
            rw [p1, c_87b hS hR]
            simp only [lk_v, lk_n, lm_isI_i, lm_isL_l, lm_isR_r, lm_vi_i, lwx_aload_0, lwx_aload_1, lwx_aload_2, lwx_aload_3, lw_iconst, lwx_iload_0, lwx_iload_1, lwx_iload_2, lwx_iload_3, lwx_invokevirtual_4, lwx_istore_0, lwx_istore_1, lwx_istore_2, lwx_istore_3, lw_istore, lwx_iload, lw_sipush, lw_icmp_ge, lw_icmp_lt, lw_getI, lw_getL, lw_getR, lw_getZ, lw_isub, lw_iaload, lwx_invokevirtual_2, lwx_iinc, lw_icmp_ne, lw_goto, lw_if_ne, lw_iastore, lw_icmp_eq, lw_iret, List.getD_cons_zero, List.getD_cons_succ, lm_set1, lm_set2, lm_cut, List.getElem?_cons_zero, List.getElem?_cons_succ, List.set_cons_zero, List.set_cons_succ, List.length_cons, List.length_nil, List.map_cons, List.map_nil, List.sum_cons, List.sum_nil, Value.category, Nat.reduceAdd, Nat.reduceDiv, Nat.reduceMod, Nat.reduceLT, Nat.reduceLeDiff, Nat.reduceMul, Int.toNat_natCast, Int.reduceToNat, true_and, and_true, lm_rok_1, lm_rok_20, lm_rok_21, lm_rok_0, lm_args, lm_ent, List.nil_append, List.cons_append, List.replicate, Nat.reduceSub, if_false, if_true, reduceCtorEq, Nat.reduceEqDiff, Bool.or_true, Bool.true_or, Bool.or_false, Bool.false_or, Bool.and_true, Bool.true_and, BEq.rfl, beq_self_eq_true, kb_m94, kb_m92, kb_m63, kb_m46, kb_m45, kb_m42, kb_m41, kb_m33, kb_m10, kb_m9, kb_m4, kb_m3, kb_m2, kb_6, kb_7, kb_8, kb_9, kb_10, kb_11, kb_12, kb_13, kb_14, kb_15, kb_16, kb_17, kb_18, kb_19, kb_20, kb_21, kb_22, kb_23, kb_24, kb_26, kb_32, kb_33, kb_34, kb_38, kb_40, kb_41, kb_43, kb_44, kb_45, kb_46, kb_48, kb_57, kb_58, kb_59, kb_60, kb_61, kb_62, kb_64, kb_80, kb_81, kb_91, kb_92, kb_93, kb_97, kb_100, kb_104, kb_122, kb_126, ki_m8, ki_m2, ki_m1, ki_0, ki_1, ki_2, ki_3, ki_4, ki_5, ks_160, ks_168, ks_240, ks_242, ks_255, ks_264, ks_300, ks_320, ks_500, ks_600, ks_625, ks_626, ks_1200, ks_1256, ks_2000, ks_2504, ks_3040, ks_4000, ks_6000, ks_12000, kl_0, kl_1, ml_86, rt_86, cb_86_65, cb_86_87, cb_86_109, cb_86_128, cb_86_177, cb_86_183, sh_70 hS, sh_74 hS, rf_70_3 hR, k1, k2, k3, k4, k5, k6, h74 ra hra, h74 rb hrb, p3, c_87b hS hR, nI_1, false_implies, not_false_eq_true, true_implies, not_true_eq_false, or_self, true_or, or_false, lm_rc_v, lm_row_s, lm_row_n, ne_eq, and_self, lm_row_row]
            exact ih (t + 1) W _ g _ _ (u + 1) _ _ (by omega) (by omega) j1 j2 (by omega) hw hWn2 (by omega) (hcj W (fun q hq => hq) (fun z => absurd z h4') (fun z => absurd z h5)) hv3
      · refine hQ0 f2 g (fun val h0 => ?_)
        obtain ⟨h1, h2, -⟩ := (hv2 val).mp h0
        have g1 := (h1 ra hra).2 ha0
        have g2 := (h1 rb hrb).2 hb0
        rw [g1, g2] at h2
        exact hss (con_inj (by have := (hg ra hra).1; omega) (by have := (hg rb hrb).1; omega) h2).1
      · obtain ⟨j1, j2, j3, j4⟩ := hjoin ra rb hra hrb hP2a hP2b hne
        exact ih (t + 1) W _ g _ _ (u + 1) _ _ (by omega) (by omega) j1 j2 (by omega) hw hWn2 (by omega) (clo_join hfo hfo2 (by omega) hrt0 hra hrb hP2a hP2b hne hab.1 hab.2 (Or.inl ⟨hA, hBb⟩) (fun q hq => hq) (Or.inl ha0) hcl) (fun val => by
          rw [hv2 val, Sol_join hra hP2a]
          exact ⟨fun q => ⟨⟨q.1, q.2.1⟩, q.2.2⟩, fun q => ⟨q.1.1, q.1.2, q.2⟩⟩)
      · obtain ⟨j1, j2, j3, j4⟩ := hjoin rb ra hrb hra hP2b hP2a (fun q => hne q.symm)
        exact ih (t + 1) W _ g _ _ (u + 1) _ _ (by omega) (by omega) j1 j2 (by omega) hw hWn2 (by omega) (clo_join hfo hfo2 (by omega) hrt0 hrb hra hP2b hP2a (fun q => hne q.symm) hab.1 hab.2 (Or.inr ⟨hA, hBb⟩) (fun q hq => hq) (Or.inl hb0) hcl) (fun val => by
          rw [hv2 val, Sol_join hrb hP2b]
          exact ⟨fun q => ⟨⟨q.1, q.2.1.symm⟩, q.2.2⟩, fun q => ⟨q.1.1, q.1.2.symm, q.2⟩⟩)
      · exact ih (t + 1) W f2 g P2 dp u _ _ (by omega) (by omega) hf2 hfo2 (by omega) hw hWn2 (by omega) (hcs2 heq) (fun val => by
          rw [hv2 val]
          exact ⟨fun q => ⟨q.1, q.2.2⟩, fun q => ⟨q.1, by rw [heq], q.2⟩⟩)
/-- Solver.unify: two cells become one, or there are no types for that -/
theorem c_86 (hS : lp_shape S) (hR : lp_refs R) {P dp So Le Ri : Nat → Nat} {u x y : Nat} (hsv : sv I n P So Le Ri) (hfo : fo P n dp u) (hu : u + rc P n = n) (hcl : cl n P So Le Ri) (hx : x < n) (hy : y < n)
    (hQ0 : ∀ (f g : Nat → Int32), (∀ val, Sol n P So Le Ri val → val x ≠ val y) → Q (some (.int 0)) (S, lm_row (lm_row I 71 f) 76 g, L, R))
    (hQ1 : ∀ (f g : Nat → Int32) (P' dp' : Nat → Nat) (u' : Nat), (∀ j, j < n → f j = nI (P' j)) → fo P' n dp' u' → u' + rc P' n = n → cl n P' So Le Ri → (∀ val, Sol n P' So Le Ri val ↔ (Sol n P So Le Ri val ∧ val x = val y)) → Q (some (.int 1)) (S, lm_row (lm_row I 71 f) 76 g, L, R)) :
    lc (e + 3) 86 [.ref 70, .int (nI x), .int (nI y)] (S, I, L, R) Q := by
  obtain ⟨h70, hn, h71, h72, h73, h74, hg⟩ := hsv
  rw [lc_succ, cb_86]
  have e0 : (0 : Int32) = nI 0 := rfl
  have hrc := rc_le (P := P) n
  simp only [lk_v, lk_n, lm_isI_i, lm_isL_l, lm_isR_r, lm_vi_i, lwx_aload_0, lwx_aload_1, lwx_aload_2, lwx_aload_3, lw_iconst, lwx_iload_0, lwx_iload_1, lwx_iload_2, lwx_iload_3, lwx_invokevirtual_4, lwx_istore_0, lwx_istore_1, lwx_istore_2, lwx_istore_3, lw_istore, lwx_iload, lw_sipush, lw_icmp_ge, lw_icmp_lt, lw_getI, lw_getL, lw_getR, lw_getZ, lw_isub, lw_iaload, lwx_invokevirtual_2, lwx_iinc, lw_icmp_ne, lw_goto, lw_if_ne, lw_iastore, lw_icmp_eq, lw_iret, List.getD_cons_zero, List.getD_cons_succ, lm_set1, lm_set2, lm_cut, List.getElem?_cons_zero, List.getElem?_cons_succ, List.set_cons_zero, List.set_cons_succ, List.length_cons, List.length_nil, List.map_cons, List.map_nil, List.sum_cons, List.sum_nil, Value.category, Nat.reduceAdd, Nat.reduceDiv, Nat.reduceMod, Nat.reduceLT, Nat.reduceLeDiff, Nat.reduceMul, Int.toNat_natCast, Int.reduceToNat, true_and, and_true, lm_rok_1, lm_rok_20, lm_rok_21, lm_rok_0, lm_args, lm_ent, List.nil_append, List.cons_append, List.replicate, Nat.reduceSub, if_false, if_true, reduceCtorEq, Nat.reduceEqDiff, Bool.or_true, Bool.true_or, Bool.or_false, Bool.false_or, Bool.and_true, Bool.true_and, BEq.rfl, beq_self_eq_true, kb_m94, kb_m92, kb_m63, kb_m46, kb_m45, kb_m42, kb_m41, kb_m33, kb_m10, kb_m9, kb_m4, kb_m3, kb_m2, kb_6, kb_7, kb_8, kb_9, kb_10, kb_11, kb_12, kb_13, kb_14, kb_15, kb_16, kb_17, kb_18, kb_19, kb_20, kb_21, kb_22, kb_23, kb_24, kb_26, kb_32, kb_33, kb_34, kb_38, kb_40, kb_41, kb_43, kb_44, kb_45, kb_46, kb_48, kb_57, kb_58, kb_59, kb_60, kb_61, kb_62, kb_64, kb_80, kb_81, kb_91, kb_92, kb_93, kb_97, kb_100, kb_104, kb_122, kb_126, ki_m8, ki_m2, ki_m1, ki_0, ki_1, ki_2, ki_3, ki_4, ki_5, ks_160, ks_168, ks_240, ks_242, ks_255, ks_264, ks_300, ks_320, ks_500, ks_600, ks_625, ks_626, ks_1200, ks_1256, ks_2000, ks_2504, ks_3040, ks_4000, ks_6000, ks_12000, kl_0, kl_1, ml_86, rt_86, cb_86_65, cb_86_87, cb_86_109, cb_86_128, cb_86_177, cb_86_183, sh_70 hS, lm_rc_v, and_self]
  rw [e0, c_87a (n := n) (t := 0) hS hR h70 hn hx hy (by decide)]
  simp only [lk_v, lk_n, lm_isI_i, lm_isL_l, lm_isR_r, lm_vi_i, lwx_aload_0, lwx_aload_1, lwx_aload_2, lwx_aload_3, lw_iconst, lwx_iload_0, lwx_iload_1, lwx_iload_2, lwx_iload_3, lwx_invokevirtual_4, lwx_istore_0, lwx_istore_1, lwx_istore_2, lwx_istore_3, lw_istore, lwx_iload, lw_sipush, lw_icmp_ge, lw_icmp_lt, lw_getI, lw_getL, lw_getR, lw_getZ, lw_isub, lw_iaload, lwx_invokevirtual_2, lwx_iinc, lw_icmp_ne, lw_goto, lw_if_ne, lw_iastore, lw_icmp_eq, lw_iret, List.getD_cons_zero, List.getD_cons_succ, lm_set1, lm_set2, lm_cut, List.getElem?_cons_zero, List.getElem?_cons_succ, List.set_cons_zero, List.set_cons_succ, List.length_cons, List.length_nil, List.map_cons, List.map_nil, List.sum_cons, List.sum_nil, Value.category, Nat.reduceAdd, Nat.reduceDiv, Nat.reduceMod, Nat.reduceLT, Nat.reduceLeDiff, Nat.reduceMul, Int.toNat_natCast, Int.reduceToNat, true_and, and_true, lm_rok_1, lm_rok_20, lm_rok_21, lm_rok_0, lm_args, lm_ent, List.nil_append, List.cons_append, List.replicate, Nat.reduceSub, if_false, if_true, reduceCtorEq, Nat.reduceEqDiff, Bool.or_true, Bool.true_or, Bool.or_false, Bool.false_or, Bool.and_true, Bool.true_and, BEq.rfl, beq_self_eq_true, kb_m94, kb_m92, kb_m63, kb_m46, kb_m45, kb_m42, kb_m41, kb_m33, kb_m10, kb_m9, kb_m4, kb_m3, kb_m2, kb_6, kb_7, kb_8, kb_9, kb_10, kb_11, kb_12, kb_13, kb_14, kb_15, kb_16, kb_17, kb_18, kb_19, kb_20, kb_21, kb_22, kb_23, kb_24, kb_26, kb_32, kb_33, kb_34, kb_38, kb_40, kb_41, kb_43, kb_44, kb_45, kb_46, kb_48, kb_57, kb_58, kb_59, kb_60, kb_61, kb_62, kb_64, kb_80, kb_81, kb_91, kb_92, kb_93, kb_97, kb_100, kb_104, kb_122, kb_126, ki_m8, ki_m2, ki_m1, ki_0, ki_1, ki_2, ki_3, ki_4, ki_5, ks_160, ks_168, ks_240, ks_242, ks_255, ks_264, ks_300, ks_320, ks_500, ks_600, ks_625, ks_626, ks_1200, ks_1256, ks_2000, ks_2504, ks_3040, ks_4000, ks_6000, ks_12000, kl_0, kl_1, ml_86, rt_86, cb_86_65, cb_86_87, cb_86_109, cb_86_128, cb_86_177, cb_86_183]
  have em : lm_row I 76 (upd (upd (I 76) 0 (nI x)) (0 + 1) (nI y)) = lm_row (lm_row I 71 (I 71)) 76 (upd (upd (I 76) 0 (nI x)) (0 + 1) (nI y)) := by rw [lm_row_id]
  rw [em]
  exact l_86 (val0 := fun val => Sol n P So Le Ri val ∧ val x = val y) (Q := fun v M' => lm_rok 2 v = true ∧ Q v M') hS hR h70 hn h72 h73 h74 hg (fun f g h => ⟨rfl, hQ0 f g (fun val h1 h2 => h val ⟨h1, h2⟩)⟩) (fun f g P' dp' u' a1 a2 a3 a5 a4 => ⟨rfl, hQ1 f g P' dp' u' a1 a2 a3 a5 (fun val => (a4 val).symm)⟩) 1900 0 [(x, y)] (I 71) _ P dp u _ _ (by simp only [List.length_cons, List.length_nil]; omega) (by omega) h71 hfo hu ⟨by unfold upd; rfl, by unfold upd; rfl, trivial⟩ (fun q hq => by
      have : q = (x, y) := by simpa using hq
      subst this; exact ⟨hx, hy⟩) (by simp only [List.length_cons, List.length_nil]; omega) (cl_clo hfo (by omega) hg hcl) (fun val => ⟨fun q => ⟨q.1, fun z hz => by
      have : z = (x, y) := by simpa using hz
      subst this; exact q.2⟩, fun q => ⟨q.1, q.2 (x, y) List.mem_cons_self⟩⟩)
end SOLVER
