/-! ===== the reference's parser: an atom takes its place ===== -/
def atM (I : lm_I) (cb v : Nat) : lm_I := if cb < 1000 then lm_row (lm_row (lm_row I 103 (upd (I 103) cb (nI v))) 105 (upd (I 105) v (nI cb))) 96 (upd (upd (upd (I 96) 39 (nI cb)) 40 (-9)) 42 (nI 0)) else lm_row I 96 (upd (upd (I 96) 39 (nI v)) 42 (nI 0))
section MLEAF
variable {tp : Nat → Nat} {n nt e e1 k M d oc cb B op v r M0 : Nat} {S : lm_S} {I I' I1 I2 : lm_I} {L L' L1 L2 : lm_L} {R : lm_R} {Q K : Option Value → lm_M → Prop} {z z0 zp : Zt} {rec : Nat → Nat → Zt → Rs}
theorem c_159 (hS : lp_shape S) (hR : lp_refs R) (h40 : I 96 40 = oC cb) (hc : cb < 81 ∨ cb = 1000) (hv : v < 81) : lc (e + 1) 159 [.ref 96, .int (nI v)] (S, I, L, R) Q = Q none (S, atM I cb v, L, R) := by
  unfold atM
  unfold oC at h40
  by_cases h : cb < 1000
  · rw [if_pos h] at h40
    rw [if_pos h, c_159c hS hR h40 (by omega) hv]
  · rw [if_neg h] at h40
    rw [if_neg h, c_159n hS h40]
theorem atM_f : (∀ c, c ≠ 96 → c ≠ 103 → c ≠ 105 → atM I cb v c = I c) ∧ (∀ j, j ≠ 39 → j ≠ 40 → j ≠ 42 → atM I cb v 96 j = I 96 j) ∧ atM I cb v 96 39 = nI (if cb < 1000 then cb else v) ∧ (I 96 40 = oC cb → atM I cb v 96 40 = -9) ∧ (∀ m, m ≠ cb → atM I cb v 103 m = I 103 m) ∧ (cb < 1000 → atM I cb v 103 cb = nI v) ∧ (∀ m, m ≠ v → atM I cb v 105 m = I 105 m) ∧ (I 105 v = -9 → atM I cb v 105 v = oC cb) := by
  unfold atM oC
  by_cases h : cb < 1000
  · rw [if_pos h, if_pos h, if_pos h]
    refine ⟨fun c h1 h2 h3 => ?_, fun j h1 h2 h3 => ?_, ?_, fun _ => ?_, fun m h => ?_, fun _ => ?_, fun m h => ?_, fun _ => ?_⟩
    · rw [lm_row_n h1, lm_row_n h3, lm_row_n h2]
    · rw [lm_row_s, pk_un h3, pk_un h2, pk_un h1]
    · rw [lm_row_s, pk_un (by decide), pk_un (by decide), pk_us]
    · rw [lm_row_s, pk_un (by decide), pk_us]
    · rw [lm_row_n (by decide), lm_row_n (by decide), lm_row_s, pk_un h]
    · rw [lm_row_n (by decide), lm_row_n (by decide), lm_row_s, pk_us]
    · rw [lm_row_n (by decide), lm_row_s, pk_un h]
    · rw [lm_row_n (by decide), lm_row_s, pk_us]
  · rw [if_neg h, if_neg h, if_neg h]
    refine ⟨fun c h1 h2 h3 => lm_row_n h1, fun j h1 h2 h3 => ?_, ?_, fun g => ?_, fun m _ => by rw [lm_row_n (by decide)], fun q => absurd q h, fun m _ => by rw [lm_row_n (by decide)], fun g => by rw [lm_row_n (by decide)]; exact g⟩
    · rw [lm_row_s, pk_un h3, pk_un h1]
    · rw [lm_row_s, pk_un (by decide), pk_us]
    · rw [lm_row_s, pk_un (by decide), pk_un (by decide)]; exact g
theorem atM_st (g : mST tp n I L d z) : mST tp n (atM I cb v) L d z := by
  obtain ⟨c1, c2, -⟩ := atM_f (I := I) (cb := cb) (v := v)
  exact mST_mv g (c1 97 (by decide) (by decide) (by decide)) (fun o m p q _ => by rw [c1 o (by omega) (by omega) (by omega)]) (fun k q => c2 k (by omega) (by omega) (by omega)) (by rw [c2 38 (by decide) (by decide) (by decide)]; exact g.2.1.2.2.2.2.2.1) (by rw [c2 31 (by decide) (by decide) (by decide)]; exact g.2.1.2.2.2.2.2.2.1) rfl (fun _ _ => rfl)
/-- atom, and the token behind -/
theorem m_att (hPS : PSI (xk tp n) (xp tp n) nt z0 6 d r (adv zp)) (hcb : cb = 1000 ∨ cb + 1 = z0 30 3) (h80 : (adv zp) 30 3 ≤ 80) (h40 : I 96 40 = oC cb) (h43 : I 96 43 = nI oc) (h47 : I 96 47 = nI 0) (gS : SGm (xp tp n) (xy tp n) I L (adv zp) (z0 30 0) (adv zp 30 0) r (-9)) (g' : mST tp n I' L' d (adv zp)) (f' : frN (atM I cb (adv zp 6 r)) I') (f2' : frNL L L') : mXA tp n d oc cb I' L' z0 r (adv zp) ∧ frPc cb (z0 30 3) B op oc I I' L L' := by
  obtain ⟨c1, c2, c3, c4, c5, c6, c7, c8⟩ := atM_f (I := I) (cb := cb) (v := adv zp 6 r)
  have hw1 := hPS.2.2.1.1
  have nr := (hPS.2.2.1.2.2.1 r hw1.1 hw1.2.1).2.1
  have gr := gS r hw1.1 hw1.2.1
  rw [if_pos rfl] at gr
  have g105 := gr.1.2.2.2.2.2.1
  have row : ∀ o m, 99 ≤ o → o ≤ 109 → (m ≠ adv zp 6 r ∨ o ≠ 105) → (m ≠ cb ∨ o ≠ 103) → I' o m = I o m := fun o m p q h h2 => by
    rw [f'.1 o (by omega)]
    by_cases s1 : o = 103
    · subst s1; exact c5 m (by omega)
    · by_cases s2 : o = 105
      · subst s2; exact c7 m (by omega)
      · rw [c1 o (by omega) s1 s2]
  refine ⟨⟨g', ⟨?_, ?_, ?_, ?_⟩, ?_, fun h => ?_⟩, ⟨⟨fun o p q => ?_, fun k q => ?_, fun o p _ _ => funext fun k => f2' o k (fun w => p w.1), fun k q => f2' 96 k (fun w => q w.2)⟩, ⟨?_, ?_, ?_⟩, ⟨fun o m p q w u => row o m p q (by omega) u, fun o m p q w => ?_, fun o m p q w => ?_, fun o m p q w => ?_⟩, fun m w => f2' 101 m (by omega), fun m w => f2' 110 m (by omega)⟩⟩
  · rw [f'.2 39 (by decide) (by decide) (by decide) (by decide)]; exact c3
  · rw [f'.2 40 (by decide) (by decide) (by decide) (by decide)]; exact c4 h40
  · rw [f'.2 43 (by decide) (by decide) (by decide) (by decide), c2 43 (by decide) (by decide) (by decide)]; exact h43
  · rw [f'.2 47 (by decide) (by decide) (by decide) (by decide), c2 47 (by decide) (by decide) (by decide)]; exact h47
  · refine SGm_mv gS hPS.2.2.1 hPS.2.2.2.1 (fun _ _ _ _ _ _ => rfl) (fun o m p q h1 h2 h3 => row o m p q (by omega) (by omega)) (fun m _ _ => f2' 101 m (by omega)) (fun _ _ => rfl) ?_ ?_ (fun h => ?_)
    · rw [f'.1 105 (by decide)]; exact c8 g105
    · rw [row 109 _ (by decide) (by decide) (Or.inr (by decide)) (Or.inr (by decide))]; exact gr.1.2.2.2.2.2.2.2.2
    · rw [hPS.2.2.1.2.1] at h; omega
  · rw [f'.1 103 (by decide)]; exact c6 h
  · rw [f'.1 o p]; exact c1 o p (by omega) (by omega)
  · rw [f'.2 k (by omega) (by omega) (by omega) (by omega)]; exact c2 k (by omega) (by omega) (by omega)
  · rw [f'.1 115 (by decide)]; exact c1 115 (by decide) (by decide) (by decide)
  · rw [f'.1 116 (by decide)]; exact c1 116 (by decide) (by decide) (by decide)
  · rw [f'.2 28 (by decide) (by decide) (by decide) (by decide)]; exact c2 28 (by decide) (by decide) (by decide)
  · rw [f'.1 o (by omega), c1 o (by omega) (by omega) (by omega)]
  · rw [f'.1 o (by omega), c1 o (by omega) (by omega) (by omega)]
  · rw [f'.1 o (by omega), c1 o (by omega) (by omega) (by omega)]
theorem frPc.tr2 {M2 B2 op2 oc2 : Nat} (h : frP M B op oc I I1 L L1) (h2 : frPc cb M B op oc I1 I2 L1 L2) : frPc cb M B op oc I I2 L L2 := frPc.tr h h2 (Nat.le_refl _) (Nat.le_refl _) (Nat.le_refl _) (Nat.le_refl _)
/-- a name, a number, a text -/
theorem m_leaf (hS : lp_shape S) (hR : lp_refs R) (ht : tko (xk tp n) (xp tp n) nt) (hw : WFz nt d z) (g : mA tp n d oc cb I L z) (hk : xk tp n (z 30 4) ≤ 2) (hka : kA (e + 6) S R Q K) (hq : mQA tp n (e + 6) S R Q d oc cb z I L (if 80 ≤ z 30 3 then flt (xp tp n) z else .inr (z 30 0, adv (zk (xp tp n) z (xk tp n (z 30 4)) d)))) : lw (e1 + 4) 165 (lm_J 165 39) [.ref 96, .null] [] (S, I, L, R) (fun v M' => lm_rok 2 v = true ∧ K v M') := by
  obtain ⟨g1, ⟨g40, g43, g47⟩, gcb, hoc, -, -⟩ := g
  have k23 := (ht.2.2.2 (z 30 4)).1
  have hp := (ht.2.2.2 (z 30 4)).2
  have tk := mST_tM g1 k23
  have v3 := hw.2.1
  have h9 := g1.2.1.1
  have h5 := tk.1
  obtain ⟨m9, m10, m11, m12, m13, -⟩ := msg_e (xk tp n (z 30 4))
  have key : lc (e1 + 4) 155 [.ref 96, .int (nI (xk tp n (z 30 4)))] (S, I, L, R) (lk (e1 + 4) 165 ((112, .istore_n 1) :: (113, .aload_n 0) :: (114, .getfield 10611) :: (117, .ifCond .eq 122) :: (120, .iconst 0) :: (121, .ireturn) :: lm_J 165 122) [.ref 96, .null] [] (fun v M' => lm_rok 2 v = true ∧ K v M')) := by
    by_cases c80 : 80 ≤ z 30 3
    · rw [if_pos c80] at hq
      rw [show z 30 3 = 80 by omega] at h9
      rw [c_155f hS h9]
      simp (disch := omega) only [lk_v, lk_n, lm_isI_i, lm_isL_l, lm_isR_r, lm_vi_i, lwx_aload_0, lwx_aload_1, lwx_aload_2, lwx_aload_3, lwx_invokevirtual_1, lw_if_eq, lw_getI, lw_getL, lw_getR, lw_getZ, lw_iconst, lw_icmp_ne, lw_bipush, lw_iret, lwx_invokevirtual_2, lwx_invokevirtual_3, lw_dup_i, lw_dup_r, lw_iadd, lw_putI, lw_putL, lw_putR, lw_putZ, lw_goto, lwx_istore_0, lwx_istore_1, lwx_istore_2, lwx_istore_3, lwx_iload_0, lwx_iload_1, lwx_iload_2, lwx_iload_3, List.getD_cons_zero, List.getD_cons_succ, lm_set1, lm_set2, lm_cut, List.getElem?_cons_zero, List.getElem?_cons_succ, List.set_cons_zero, List.set_cons_succ, List.length_cons, List.length_nil, List.map_cons, List.map_nil, List.sum_cons, List.sum_nil, Value.category, Nat.reduceAdd, Nat.reduceDiv, Nat.reduceMod, Nat.reduceLT, Nat.reduceLeDiff, Nat.reduceMul, Int.toNat_natCast, Int.reduceToNat, true_and, and_true, lm_rok_1, lm_rok_20, lm_rok_21, lm_rok_0, lm_args, lm_ent, List.nil_append, List.cons_append, List.replicate, Nat.reduceSub, if_false, if_true, reduceCtorEq, Nat.reduceEqDiff, Bool.or_true, Bool.true_or, Bool.or_false, Bool.false_or, Bool.and_true, Bool.true_and, BEq.rfl, beq_self_eq_true, kb_m94, kb_m92, kb_m63, kb_m46, kb_m45, kb_m42, kb_m41, kb_m33, kb_m10, kb_m9, kb_m4, kb_m3, kb_m2, zkb_6, zkb_7, zkb_8, zkb_9, zkb_10, zkb_11, zkb_12, zkb_13, zkb_14, zkb_15, zkb_16, zkb_17, zkb_18, zkb_19, zkb_20, zkb_21, zkb_22, zkb_23, zkb_24, zkb_26, zkb_32, zkb_33, zkb_34, zkb_38, zkb_40, zkb_41, zkb_43, zkb_44, zkb_45, zkb_46, zkb_48, zkb_57, zkb_58, zkb_59, zkb_60, zkb_61, zkb_62, zkb_64, zkb_80, zkb_81, zkb_91, zkb_92, zkb_93, zkb_97, zkb_100, zkb_104, zkb_122, zkb_126, ki_m8, ki_m2, ki_m1, zki_0, zki_1, zki_2, zki_3, zki_4, zki_5, zks_160, zks_168, zks_240, zks_242, zks_255, zks_264, zks_300, zks_320, zks_500, zks_600, zks_625, zks_626, zks_1200, zks_1256, zks_2000, zks_2504, zks_3040, zks_4000, zks_6000, zks_12000, kl_0, kl_1, z_lt, z_le, z_eq, z_eq0, z_eq1, z_lt0, z_le0, z_0lt, z_0le, z_add, z_sub, z_add1, z_addn, z_addm, z_mul, z_cl, z_n9, z_n9s, z_n90, z_ne9, z_ne9s, z_lt_t, z_lt_f, z_le_t, z_le_f, z_eq_t, z_eq_f, z_pus, z_pun, z_row, or_self, or_false, false_or, true_or, or_true, and_self, and_false, false_and, not_true_eq_false, not_false_eq_true, false_implies, true_implies, implies_true, ne_eq, lm_row_s, lm_row_row, lm_up_row, rc_s, Classical.not_not, Nat.add_sub_cancel, i10, z_on, rok2_0, rok2_1, ml_165, rt_165, cb_165_24, cb_165_26, cb_165_39, cb_165_71, cb_165_83, cb_165_95, cb_165_107, cb_165_109, cb_165_122, cb_165_174, cb_165_176, sh_96 hS]
      refine hka.1 _ _ (hq _ _ ?_ ⟨fun o p _ => lm_row_n p, fun k q => by rw [lm_row_s, pk_un (by omega)], fun _ _ _ _ => rfl, fun _ _ => rfl⟩)
      rw [lm_row_s, pk_un (by decide)]; exact g1.1.2.1
    · rw [if_neg c80] at hq
      refine k_mk hS hR g1 (by omega) ⟨hw.2.2.2.2.1.2.2.1, hw.2.2.2.2.1.2.2.2⟩ hp (fun I1 L1 g2 f1 nw u1 l1 => ?_)
      have b46 := g2.2.1.2.2.2.2.1
      have tk2 := mST_tM g2 (by rw [zk_30 (by decide) (by decide)]; exact k23)
      rw [zk_30 (by decide) (by decide)] at tk2
      have i40 : I1 96 40 = oC cb := by rw [f1.2.1 40 (by decide)]; exact g40
      have hPS := asm_leaf ht hw hk (show z 30 3 < 80 by omega)
      have e6 : adv (zk (xp tp n) z (xk tp n (z 30 4)) d) 6 (z 30 0) = z 30 3 := (NEW_zk (pl := xp tp n) (z := z) (k := xk tp n (z 30 4)) (d := d)).1.1.2.1
      simp (disch := omega) only [lk_v, lk_n, lm_isI_i, lm_isL_l, lm_isR_r, lm_vi_i, lwx_aload_0, lwx_aload_1, lwx_aload_2, lwx_aload_3, lwx_invokevirtual_1, lw_if_eq, lw_getI, lw_getL, lw_getR, lw_getZ, lw_iconst, lw_icmp_ne, lw_bipush, lw_iret, lwx_invokevirtual_2, lwx_invokevirtual_3, lw_dup_i, lw_dup_r, lw_iadd, lw_putI, lw_putL, lw_putR, lw_putZ, lw_goto, lwx_istore_0, lwx_istore_1, lwx_istore_2, lwx_istore_3, lwx_iload_0, lwx_iload_1, lwx_iload_2, lwx_iload_3, List.getD_cons_zero, List.getD_cons_succ, lm_set1, lm_set2, lm_cut, List.getElem?_cons_zero, List.getElem?_cons_succ, List.set_cons_zero, List.set_cons_succ, List.length_cons, List.length_nil, List.map_cons, List.map_nil, List.sum_cons, List.sum_nil, Value.category, Nat.reduceAdd, Nat.reduceDiv, Nat.reduceMod, Nat.reduceLT, Nat.reduceLeDiff, Nat.reduceMul, Int.toNat_natCast, Int.reduceToNat, true_and, and_true, lm_rok_1, lm_rok_20, lm_rok_21, lm_rok_0, lm_args, lm_ent, List.nil_append, List.cons_append, List.replicate, Nat.reduceSub, if_false, if_true, reduceCtorEq, Nat.reduceEqDiff, Bool.or_true, Bool.true_or, Bool.or_false, Bool.false_or, Bool.and_true, Bool.true_and, BEq.rfl, beq_self_eq_true, kb_m94, kb_m92, kb_m63, kb_m46, kb_m45, kb_m42, kb_m41, kb_m33, kb_m10, kb_m9, kb_m4, kb_m3, kb_m2, zkb_6, zkb_7, zkb_8, zkb_9, zkb_10, zkb_11, zkb_12, zkb_13, zkb_14, zkb_15, zkb_16, zkb_17, zkb_18, zkb_19, zkb_20, zkb_21, zkb_22, zkb_23, zkb_24, zkb_26, zkb_32, zkb_33, zkb_34, zkb_38, zkb_40, zkb_41, zkb_43, zkb_44, zkb_45, zkb_46, zkb_48, zkb_57, zkb_58, zkb_59, zkb_60, zkb_61, zkb_62, zkb_64, zkb_80, zkb_81, zkb_91, zkb_92, zkb_93, zkb_97, zkb_100, zkb_104, zkb_122, zkb_126, ki_m8, ki_m2, ki_m1, zki_0, zki_1, zki_2, zki_3, zki_4, zki_5, zks_160, zks_168, zks_240, zks_242, zks_255, zks_264, zks_300, zks_320, zks_500, zks_600, zks_625, zks_626, zks_1200, zks_1256, zks_2000, zks_2504, zks_3040, zks_4000, zks_6000, zks_12000, kl_0, kl_1, z_lt, z_le, z_eq, z_eq0, z_eq1, z_lt0, z_le0, z_0lt, z_0le, z_add, z_sub, z_add1, z_addn, z_addm, z_mul, z_cl, z_n9, z_n9s, z_n90, z_ne9, z_ne9s, z_lt_t, z_lt_f, z_le_t, z_le_f, z_eq_t, z_eq_f, z_pus, z_pun, z_row, or_self, or_false, false_or, true_or, or_true, and_self, and_false, false_and, not_true_eq_false, not_false_eq_true, false_implies, true_implies, implies_true, ne_eq, lm_row_s, lm_row_row, lm_up_row, rc_s, Classical.not_not, Nat.add_sub_cancel, i10, z_on, rok2_0, rok2_1, ml_165, rt_165, cb_165_24, cb_165_26, cb_165_39, cb_165_71, cb_165_83, cb_165_95, cb_165_107, cb_165_109, cb_165_122, cb_165_174, cb_165_176, sh_96 hS, rc_mod hS, b46, c_154f (s := 13) hS tk2 (by decide) (by omega), c_159 (cb := cb) (v := z 30 3) hS hR i40 (by omega) (by omega)]
      refine k_nx hS hR (atM_st g2) (by rw [zk_30 (by decide) (by decide)]; omega) (fun I' L' g' f' f2' => ?_)
      simp (disch := omega) only [lk_v, lk_n, lm_isI_i, lm_isL_l, lm_isR_r, lm_vi_i, lwx_aload_0, lwx_aload_1, lwx_aload_2, lwx_aload_3, lwx_invokevirtual_1, lw_if_eq, lw_getI, lw_getL, lw_getR, lw_getZ, lw_iconst, lw_icmp_ne, lw_bipush, lw_iret, lwx_invokevirtual_2, lwx_invokevirtual_3, lw_dup_i, lw_dup_r, lw_iadd, lw_putI, lw_putL, lw_putR, lw_putZ, lw_goto, lwx_istore_0, lwx_istore_1, lwx_istore_2, lwx_istore_3, lwx_iload_0, lwx_iload_1, lwx_iload_2, lwx_iload_3, List.getD_cons_zero, List.getD_cons_succ, lm_set1, lm_set2, lm_cut, List.getElem?_cons_zero, List.getElem?_cons_succ, List.set_cons_zero, List.set_cons_succ, List.length_cons, List.length_nil, List.map_cons, List.map_nil, List.sum_cons, List.sum_nil, Value.category, Nat.reduceAdd, Nat.reduceDiv, Nat.reduceMod, Nat.reduceLT, Nat.reduceLeDiff, Nat.reduceMul, Int.toNat_natCast, Int.reduceToNat, true_and, and_true, lm_rok_1, lm_rok_20, lm_rok_21, lm_rok_0, lm_args, lm_ent, List.nil_append, List.cons_append, List.replicate, Nat.reduceSub, if_false, if_true, reduceCtorEq, Nat.reduceEqDiff, Bool.or_true, Bool.true_or, Bool.or_false, Bool.false_or, Bool.and_true, Bool.true_and, BEq.rfl, beq_self_eq_true, kb_m94, kb_m92, kb_m63, kb_m46, kb_m45, kb_m42, kb_m41, kb_m33, kb_m10, kb_m9, kb_m4, kb_m3, kb_m2, zkb_6, zkb_7, zkb_8, zkb_9, zkb_10, zkb_11, zkb_12, zkb_13, zkb_14, zkb_15, zkb_16, zkb_17, zkb_18, zkb_19, zkb_20, zkb_21, zkb_22, zkb_23, zkb_24, zkb_26, zkb_32, zkb_33, zkb_34, zkb_38, zkb_40, zkb_41, zkb_43, zkb_44, zkb_45, zkb_46, zkb_48, zkb_57, zkb_58, zkb_59, zkb_60, zkb_61, zkb_62, zkb_64, zkb_80, zkb_81, zkb_91, zkb_92, zkb_93, zkb_97, zkb_100, zkb_104, zkb_122, zkb_126, ki_m8, ki_m2, ki_m1, zki_0, zki_1, zki_2, zki_3, zki_4, zki_5, zks_160, zks_168, zks_240, zks_242, zks_255, zks_264, zks_300, zks_320, zks_500, zks_600, zks_625, zks_626, zks_1200, zks_1256, zks_2000, zks_2504, zks_3040, zks_4000, zks_6000, zks_12000, kl_0, kl_1, z_lt, z_le, z_eq, z_eq0, z_eq1, z_lt0, z_le0, z_0lt, z_0le, z_add, z_sub, z_add1, z_addn, z_addm, z_mul, z_cl, z_n9, z_n9s, z_n90, z_ne9, z_ne9s, z_lt_t, z_lt_f, z_le_t, z_le_f, z_eq_t, z_eq_f, z_pus, z_pun, z_row, or_self, or_false, false_or, true_or, or_true, and_self, and_false, false_and, not_true_eq_false, not_false_eq_true, false_implies, true_implies, implies_true, ne_eq, lm_row_s, lm_row_row, lm_up_row, rc_s, Classical.not_not, Nat.add_sub_cancel, i10, z_on, rok2_0, rok2_1, ml_165, rt_165, cb_165_24, cb_165_26, cb_165_39, cb_165_71, cb_165_83, cb_165_95, cb_165_107, cb_165_109, cb_165_122, cb_165_174, cb_165_176]
      have gS : SGm (xp tp n) (xy tp n) I1 L1 (adv (zk (xp tp n) z (xk tp n (z 30 4)) d)) (z 30 0) (adv (zk (xp tp n) z (xk tp n (z 30 4)) d) 30 0) (z 30 0) (-9) := by
        intro x x1 x2
        have x2' : x < zk (xp tp n) z (xk tp n (z 30 4)) d 30 0 := x2
        rw [zk_0] at x2'
        have ex : x = z 30 0 := by omega
        subst ex
        rw [if_pos rfl]
        obtain ⟨⟨⟨n0, n6, n7, n8, n10, n13, n14, n15⟩, n1, n2, n3, n5, n9, n11, n12⟩, n4⟩ := NEW_zk (pl := xp tp n) (z := z) (k := xk tp n (z 30 4)) (d := d)
        obtain ⟨⟨u1, u2, u3, u4, u5⟩, u6, u7, u8, u9, u10⟩ := nw
        have es : sM (adv (zk (xp tp n) z (xk tp n (z 30 4)) d)) (z 30 6) = sM z (z 30 6) := sM_eq (fun _ _ => by rw [adv_n (Or.inl (by decide)), zk_e, if_neg (by omega), if_neg (by omega), if_neg (by omega), if_neg (by omega), if_neg (by split <;> omega)])
        have ad : ∀ c y, c < 16 → adv (zk (xp tp n) z (xk tp n (z 30 4)) d) c y = zk (xp tp n) z (xk tp n (z 30 4)) d c y := fun c y h => adv_n (by omega)
        unfold mN
        rw [ad 0 _ (by decide), ad 1 _ (by decide), ad 2 _ (by decide), ad 3 _ (by decide), ad 4 _ (by decide), ad 5 (z 30 0) (by decide), ad 6 (z 30 0) (by decide), ad 7 _ (by decide), ad 8 _ (by decide), ad 10 _ (by decide), ad 13 _ (by decide), ad 14 _ (by decide), n0, n1, n2, n3, n5, n6, n7, n8, n10, n13, n14, es, if_neg (by omega)]
        refine ⟨⟨u1, u2, u6, u7, u8, u9, u3, u4, u5⟩, fun h => ?_, fun h => by omega, fun h => by omega, fun h => by omega⟩
        rw [l1]
        exact (tk.2.2.1 (by rw [mty_1]; omega)).1
      obtain ⟨ma, mb⟩ := m_att (B := z 30 2) (op := d + 1) hPS gcb (by show zk (xp tp n) z (xk tp n (z 30 4)) d 30 3 ≤ 80; rw [zk_3]; omega) i40 (by rw [f1.2.1 43 (by decide)]; exact g43) (by rw [f1.2.1 47 (by decide)]; exact g47) gS g' (by rw [e6]; exact f') f2'
      exact hka.2 _ _ (hq I' L' ma (frPc.tr2 (M2 := 0) (B2 := 0) (op2 := 0) (oc2 := 0) (mkF_p f1 u1) mb))
  rw [cb_165_39]
  have o11 := fun Q => c_154f (s := 11) (e := e1 + 3) (R := R) (Q := Q) hS tk (by decide) (by omega)
  rcases (show xk tp n (z 30 4) = 0 ∨ xk tp n (z 30 4) = 1 ∨ xk tp n (z 30 4) = 2 by omega) with q | q | q
  · rw [q] at tk key
    simp (disch := omega) only [lk_v, lk_n, lm_isI_i, lm_isL_l, lm_isR_r, lm_vi_i, lwx_aload_0, lwx_aload_1, lwx_aload_2, lwx_aload_3, lwx_invokevirtual_1, lw_if_eq, lw_getI, lw_getL, lw_getR, lw_getZ, lw_iconst, lw_icmp_ne, lw_bipush, lw_iret, lwx_invokevirtual_2, lwx_invokevirtual_3, lw_dup_i, lw_dup_r, lw_iadd, lw_putI, lw_putL, lw_putR, lw_putZ, lw_goto, lwx_istore_0, lwx_istore_1, lwx_istore_2, lwx_istore_3, lwx_iload_0, lwx_iload_1, lwx_iload_2, lwx_iload_3, List.getD_cons_zero, List.getD_cons_succ, lm_set1, lm_set2, lm_cut, List.getElem?_cons_zero, List.getElem?_cons_succ, List.set_cons_zero, List.set_cons_succ, List.length_cons, List.length_nil, List.map_cons, List.map_nil, List.sum_cons, List.sum_nil, Value.category, Nat.reduceAdd, Nat.reduceDiv, Nat.reduceMod, Nat.reduceLT, Nat.reduceLeDiff, Nat.reduceMul, Int.toNat_natCast, Int.reduceToNat, true_and, and_true, lm_rok_1, lm_rok_20, lm_rok_21, lm_rok_0, lm_args, lm_ent, List.nil_append, List.cons_append, List.replicate, Nat.reduceSub, if_false, if_true, reduceCtorEq, Nat.reduceEqDiff, Bool.or_true, Bool.true_or, Bool.or_false, Bool.false_or, Bool.and_true, Bool.true_and, BEq.rfl, beq_self_eq_true, kb_m94, kb_m92, kb_m63, kb_m46, kb_m45, kb_m42, kb_m41, kb_m33, kb_m10, kb_m9, kb_m4, kb_m3, kb_m2, zkb_6, zkb_7, zkb_8, zkb_9, zkb_10, zkb_11, zkb_12, zkb_13, zkb_14, zkb_15, zkb_16, zkb_17, zkb_18, zkb_19, zkb_20, zkb_21, zkb_22, zkb_23, zkb_24, zkb_26, zkb_32, zkb_33, zkb_34, zkb_38, zkb_40, zkb_41, zkb_43, zkb_44, zkb_45, zkb_46, zkb_48, zkb_57, zkb_58, zkb_59, zkb_60, zkb_61, zkb_62, zkb_64, zkb_80, zkb_81, zkb_91, zkb_92, zkb_93, zkb_97, zkb_100, zkb_104, zkb_122, zkb_126, ki_m8, ki_m2, ki_m1, zki_0, zki_1, zki_2, zki_3, zki_4, zki_5, zks_160, zks_168, zks_240, zks_242, zks_255, zks_264, zks_300, zks_320, zks_500, zks_600, zks_625, zks_626, zks_1200, zks_1256, zks_2000, zks_2504, zks_3040, zks_4000, zks_6000, zks_12000, kl_0, kl_1, z_lt, z_le, z_eq, z_eq0, z_eq1, z_lt0, z_le0, z_0lt, z_0le, z_add, z_sub, z_add1, z_addn, z_addm, z_mul, z_cl, z_n9, z_n9s, z_n90, z_ne9, z_ne9s, z_lt_t, z_lt_f, z_le_t, z_le_f, z_eq_t, z_eq_f, z_pus, z_pun, z_row, or_self, or_false, false_or, true_or, or_true, and_self, and_false, false_and, not_true_eq_false, not_false_eq_true, false_implies, true_implies, implies_true, ne_eq, lm_row_s, lm_row_row, lm_up_row, rc_s, Classical.not_not, Nat.add_sub_cancel, i10, z_on, rok2_0, rok2_1, ml_165, rt_165, cb_165_24, cb_165_26, cb_165_39, cb_165_71, cb_165_83, cb_165_95, cb_165_107, cb_165_109, cb_165_174, cb_165_176, sh_96 hS, rc_mod hS, o11, c_153t hS tk]
    exact key
  · have h1 := fun Q => c_153f (e := e1 + 2) (R := R) (Q := Q) hS tk (by omega)
    rw [q] at h5 key
    rw [show mty 1 = 2 from rfl] at h5
    simp (disch := omega) only [lk_v, lk_n, lm_isI_i, lm_isL_l, lm_isR_r, lm_vi_i, lwx_aload_0, lwx_aload_1, lwx_aload_2, lwx_aload_3, lwx_invokevirtual_1, lw_if_eq, lw_getI, lw_getL, lw_getR, lw_getZ, lw_iconst, lw_icmp_ne, lw_bipush, lw_iret, lwx_invokevirtual_2, lwx_invokevirtual_3, lw_dup_i, lw_dup_r, lw_iadd, lw_putI, lw_putL, lw_putR, lw_putZ, lw_goto, lwx_istore_0, lwx_istore_1, lwx_istore_2, lwx_istore_3, lwx_iload_0, lwx_iload_1, lwx_iload_2, lwx_iload_3, List.getD_cons_zero, List.getD_cons_succ, lm_set1, lm_set2, lm_cut, List.getElem?_cons_zero, List.getElem?_cons_succ, List.set_cons_zero, List.set_cons_succ, List.length_cons, List.length_nil, List.map_cons, List.map_nil, List.sum_cons, List.sum_nil, Value.category, Nat.reduceAdd, Nat.reduceDiv, Nat.reduceMod, Nat.reduceLT, Nat.reduceLeDiff, Nat.reduceMul, Int.toNat_natCast, Int.reduceToNat, true_and, and_true, lm_rok_1, lm_rok_20, lm_rok_21, lm_rok_0, lm_args, lm_ent, List.nil_append, List.cons_append, List.replicate, Nat.reduceSub, if_false, if_true, reduceCtorEq, Nat.reduceEqDiff, Bool.or_true, Bool.true_or, Bool.or_false, Bool.false_or, Bool.and_true, Bool.true_and, BEq.rfl, beq_self_eq_true, kb_m94, kb_m92, kb_m63, kb_m46, kb_m45, kb_m42, kb_m41, kb_m33, kb_m10, kb_m9, kb_m4, kb_m3, kb_m2, zkb_6, zkb_7, zkb_8, zkb_9, zkb_10, zkb_11, zkb_12, zkb_13, zkb_14, zkb_15, zkb_16, zkb_17, zkb_18, zkb_19, zkb_20, zkb_21, zkb_22, zkb_23, zkb_24, zkb_26, zkb_32, zkb_33, zkb_34, zkb_38, zkb_40, zkb_41, zkb_43, zkb_44, zkb_45, zkb_46, zkb_48, zkb_57, zkb_58, zkb_59, zkb_60, zkb_61, zkb_62, zkb_64, zkb_80, zkb_81, zkb_91, zkb_92, zkb_93, zkb_97, zkb_100, zkb_104, zkb_122, zkb_126, ki_m8, ki_m2, ki_m1, zki_0, zki_1, zki_2, zki_3, zki_4, zki_5, zks_160, zks_168, zks_240, zks_242, zks_255, zks_264, zks_300, zks_320, zks_500, zks_600, zks_625, zks_626, zks_1200, zks_1256, zks_2000, zks_2504, zks_3040, zks_4000, zks_6000, zks_12000, kl_0, kl_1, z_lt, z_le, z_eq, z_eq0, z_eq1, z_lt0, z_le0, z_0lt, z_0le, z_add, z_sub, z_add1, z_addn, z_addm, z_mul, z_cl, z_n9, z_n9s, z_n90, z_ne9, z_ne9s, z_lt_t, z_lt_f, z_le_t, z_le_f, z_eq_t, z_eq_f, z_pus, z_pun, z_row, or_self, or_false, false_or, true_or, or_true, and_self, and_false, false_and, not_true_eq_false, not_false_eq_true, false_implies, true_implies, implies_true, ne_eq, lm_row_s, lm_row_row, lm_up_row, rc_s, Classical.not_not, Nat.add_sub_cancel, i10, z_on, rok2_0, rok2_1, ml_165, rt_165, cb_165_24, cb_165_26, cb_165_39, cb_165_71, cb_165_83, cb_165_95, cb_165_107, cb_165_109, cb_165_174, cb_165_176, sh_96 hS, rc_mod hS, o11, h1, h5]
    exact key
  · have h1 := fun Q => c_153f (e := e1 + 2) (R := R) (Q := Q) hS tk (by omega)
    rw [q] at h5 key
    rw [show mty 2 = 3 from rfl] at h5
    simp (disch := omega) only [lk_v, lk_n, lm_isI_i, lm_isL_l, lm_isR_r, lm_vi_i, lwx_aload_0, lwx_aload_1, lwx_aload_2, lwx_aload_3, lwx_invokevirtual_1, lw_if_eq, lw_getI, lw_getL, lw_getR, lw_getZ, lw_iconst, lw_icmp_ne, lw_bipush, lw_iret, lwx_invokevirtual_2, lwx_invokevirtual_3, lw_dup_i, lw_dup_r, lw_iadd, lw_putI, lw_putL, lw_putR, lw_putZ, lw_goto, lwx_istore_0, lwx_istore_1, lwx_istore_2, lwx_istore_3, lwx_iload_0, lwx_iload_1, lwx_iload_2, lwx_iload_3, List.getD_cons_zero, List.getD_cons_succ, lm_set1, lm_set2, lm_cut, List.getElem?_cons_zero, List.getElem?_cons_succ, List.set_cons_zero, List.set_cons_succ, List.length_cons, List.length_nil, List.map_cons, List.map_nil, List.sum_cons, List.sum_nil, Value.category, Nat.reduceAdd, Nat.reduceDiv, Nat.reduceMod, Nat.reduceLT, Nat.reduceLeDiff, Nat.reduceMul, Int.toNat_natCast, Int.reduceToNat, true_and, and_true, lm_rok_1, lm_rok_20, lm_rok_21, lm_rok_0, lm_args, lm_ent, List.nil_append, List.cons_append, List.replicate, Nat.reduceSub, if_false, if_true, reduceCtorEq, Nat.reduceEqDiff, Bool.or_true, Bool.true_or, Bool.or_false, Bool.false_or, Bool.and_true, Bool.true_and, BEq.rfl, beq_self_eq_true, kb_m94, kb_m92, kb_m63, kb_m46, kb_m45, kb_m42, kb_m41, kb_m33, kb_m10, kb_m9, kb_m4, kb_m3, kb_m2, zkb_6, zkb_7, zkb_8, zkb_9, zkb_10, zkb_11, zkb_12, zkb_13, zkb_14, zkb_15, zkb_16, zkb_17, zkb_18, zkb_19, zkb_20, zkb_21, zkb_22, zkb_23, zkb_24, zkb_26, zkb_32, zkb_33, zkb_34, zkb_38, zkb_40, zkb_41, zkb_43, zkb_44, zkb_45, zkb_46, zkb_48, zkb_57, zkb_58, zkb_59, zkb_60, zkb_61, zkb_62, zkb_64, zkb_80, zkb_81, zkb_91, zkb_92, zkb_93, zkb_97, zkb_100, zkb_104, zkb_122, zkb_126, ki_m8, ki_m2, ki_m1, zki_0, zki_1, zki_2, zki_3, zki_4, zki_5, zks_160, zks_168, zks_240, zks_242, zks_255, zks_264, zks_300, zks_320, zks_500, zks_600, zks_625, zks_626, zks_1200, zks_1256, zks_2000, zks_2504, zks_3040, zks_4000, zks_6000, zks_12000, kl_0, kl_1, z_lt, z_le, z_eq, z_eq0, z_eq1, z_lt0, z_le0, z_0lt, z_0le, z_add, z_sub, z_add1, z_addn, z_addm, z_mul, z_cl, z_n9, z_n9s, z_n90, z_ne9, z_ne9s, z_lt_t, z_lt_f, z_le_t, z_le_f, z_eq_t, z_eq_f, z_pus, z_pun, z_row, or_self, or_false, false_or, true_or, or_true, and_self, and_false, false_and, not_true_eq_false, not_false_eq_true, false_implies, true_implies, implies_true, ne_eq, lm_row_s, lm_row_row, lm_up_row, rc_s, Classical.not_not, Nat.add_sub_cancel, i10, z_on, rok2_0, rok2_1, ml_165, rt_165, cb_165_24, cb_165_26, cb_165_39, cb_165_71, cb_165_83, cb_165_95, cb_165_107, cb_165_109, cb_165_174, cb_165_176, sh_96 hS, rc_mod hS, o11, h1, h5]
    exact key
end MLEAF
