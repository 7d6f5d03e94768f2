section NM
variable {tp : Nat → Nat} {n nt e p v w : Nat} {S : lm_S} {I : lm_I} {L : lm_L} {R : lm_R} {Q : Option Value → lm_M → Prop} {kd pl : Nat → Nat} {ky bi : Nat → Int64} {z : Zt}
theorem hot_m (g : mTX0 tp n I L z) : hot z := fun b hb => (g.1.2.2 b hb).2.2.2.2.2
theorem nmC_c (hT : TX kd pl nt z) (g : cTX kd pl ky nt I L p z) (hbi : ∀ k, k < 11 → L (p + 21) k = bi k) : nmC (kbz ky z) bi (z 21) (z 16) (z 30 1) (z 30 2) I L p := by
  obtain ⟨⟨hw, h03⟩, -, t8, -, -⟩ := hT
  obtain ⟨v1, v2, v3, v4, v5, v6⟩ := hw
  obtain ⟨g1, gd, -⟩ := g
  exact ⟨⟨v6, by omega, g1.2.1.2.1, g1.2.1.2.2.2⟩, hbi, fun b hb => ⟨(g1.2.2.2 b hb).1, (g1.2.2.2 b hb).2.2⟩, fun d hd => ⟨(gd d hd).1, by have := (t8 d hd).2.1.1; omega⟩⟩
/-- the class looks its names up -/
theorem c_nm (hS : lp_shape S) (hR : lp_refs R) (hp : p = 2 ∨ p = 36) (ht : tko kd pl nt) (hT : TX kd pl nt z) (ho : hot z) (g : cTX kd pl ky nt I L p z) (hbi : ∀ k, k < 11 → L (p + 21) k = bi k) (hv : (ftk (kbz ky z) bi (z 16) (z 17) (z 30 1) 0 (z 30 1) = 1000 ∧ v = 1000) ∨ (ftk (kbz ky z) bi (z 16) (z 17) (z 30 1) 0 (z 30 1) < z 30 2 ∧ v = pl (z 20 (ftk (kbz ky z) bi (z 16) (z 17) (z 30 1) 0 (z 30 1))))) (hw : fmn z (mgz ky bi z) 0 (z 30 0) v = w)
    (hQ : ∀ I', mgR z (mgz ky bi z) I I' p (z 30 0) → Q (some (.int (oN w))) (S, I', L, R)) : lc (e + 4) 62 [.ref p] (S, I, L, R) Q := by
  have hn := nmC_c hT g hbi
  obtain ⟨⟨hwf, h03⟩, ⟨t1, -⟩, t8, -, -⟩ := id hT
  obtain ⟨v1, v2, v3, v4, v5, v6⟩ := hwf
  obtain ⟨g1, gd, gn⟩ := g
  refine c_62 (z := z) (mg := mgz ky bi z) (kk := fun n => ky (z 8 n)) (cl := clz z) (pb := fun b => pl (z 20 b)) (ni := z 17) hS hR hp hn (fun b hb => ⟨(g1.2.2.2 b hb).2.1, (ht.2.2.2 _).2⟩) (fun d hd => ⟨(gd d hd).2.1, (t8 d hd).2.1.1⟩) (by omega) g1.2.1.1 (fun x hx => ?_) (fun x hx h0 => ?_) hv (fun I' h => by rw [hw]; exact hQ I' h)
  · have c := (gn x (by omega) hx).1
    refine ⟨⟨c 8 (by decide) (by decide) (by decide), (t1 x hx).1.1⟩, ⟨c 9 (by decide) (by decide) (by decide), ?_⟩, c 16 (by decide) (by decide) (by decide)⟩
    rw [(t1 x hx).1.2.1]; exact (ht.2.2.2 _).2
  · exact ⟨(gn x (by omega) hx).2 h0, (node_ch hT ho hx).1, rfl⟩
theorem nmM_m (hT : TX (xk tp n) (xp tp n) nt z) (g : mTX0 tp n I L z) (hbi : ∀ k, k < 11 → L 140 k = bi k) : nmM (kbz (xy tp n) z) bi (z 22) (z 23) (arM z) (z 30 2) 1 I L := by
  have hT' := hT
  obtain ⟨⟨hw, h03⟩, -, t8, -, -⟩ := hT
  obtain ⟨v1, v2, v3, v4, v5, v6⟩ := hw
  refine ⟨⟨by omega, fun b hb => ?_⟩, hbi, Or.inl ⟨rfl, g.1.2.1.2.1, fun b hb => ?_⟩⟩
  · have := bd_0 hT' hb; omega
  · obtain ⟨a1, a2, a3, a4, a5, -⟩ := g.1.2.2 b hb
    exact ⟨a1, a3, a4, a5⟩
theorem mmg_le {kb : Nat → Int64} {st dl : Nat → Nat} {B d : Nat} {key : Int64} {l : List Nat} (hB : B ≤ 900) (hl : ∀ b, b ∈ l → b < 900) : mmg kb bi st dl B key d l < 1000 ∨ mmg kb bi st dl B key d l = 1000 := by
  have g1 := fls_ge (P := fun b => decide (kb b = key)) l
  have g2 := fup_ge (P := pS kb st dl key d 1) B 0
  have g3 := fup_ge (P := pS kb st dl key d 0) B 0
  have g4 := fup_ge (P := fun k => decide (bi k = key)) 11 0
  unfold mmg bim
  split
  · rcases g1 with q | ⟨q, -⟩
    · omega
    · have := hl _ q; omega
  · split
    · omega
    · split <;> omega
/-- the reference looks its names up -/
theorem m_nm (hS : lp_shape S) (hR : lp_refs R) (ht : tko (xk tp n) (xp tp n) nt) (hT : TX (xk tp n) (xp tp n) nt z) (g : mTX0 tp n I L z) (hbi : ∀ k, k < 11 → L 140 k = bi k) (hw : rmn (wrM (kbz (xy tp n) z) bi (z 22) (z 23)) (fun b => xp tp n (z 20 b)) 0 (z 30 2) (rmn (fun k => decide (z 0 (z 31 k) = 0 ∧ mgm (xy tp n) bi z (z 31 k) = 1000)) (fun k => z 7 (z 31 k)) 0 (z 30 3) 1000) = w)
    (hQ : Q (some (.int (oN w))) (S, I, L, R)) : lc (e + 2) 174 [.ref 96] (S, I, L, R) Q := by
  have hn := nmM_m hT g hbi
  have ho := hot_m g
  obtain ⟨⟨hwf, h03⟩, ⟨t1, -⟩, t8, -, -⟩ := id hT
  obtain ⟨v1, v2, v3, v4, v5, v6⟩ := hwf
  rw [lc_succ, cb_174]
  have := k_174a (e := e) (kn := fun k => z 0 (z 31 k)) (pn := fun k => z 7 (z 31 k)) (dn := fun k => z 14 (z 31 k)) (sn := fun k => sM z (z 10 (z 31 k))) (wn := fun k => xy tp n (z 8 (z 31 k))) (ml := fun k => lam z (z 10 (z 31 k))) (mg := fun k => mgm (xy tp n) bi z (z 31 k)) (pb := fun b => xp tp n (z 20 b)) (Q := fun v M' => lm_rok 1 v = true ∧ Q v M') hS hR hn (fun b hb => ⟨(g.1.2.2 b hb).2.1, (ht.2.2.2 _).2⟩) (N := z 30 3) g.1.2.1.1 (by omega) (fun k hk => ?_) (fun k hk h0 => ?_) (fun k hk _ => ?_) (z 30 3) 0 1000 .null .null (by omega) (Or.inl rfl) (by rw [hw]; exact ⟨rfl, hQ⟩)
  · rw [oN_no] at this
    simp (disch := omega) only [lk_v, lk_n, lm_isI_i, lm_isL_l, lm_isR_r, lm_vi_i, lw_bipush, lwx_istore_0, lwx_istore_1, lwx_istore_2, lwx_istore_3, lw_iconst, lwx_iload_0, lwx_iload_1, lwx_iload_2, lwx_iload_3, lwx_aload_0, lwx_aload_1, lwx_aload_2, lwx_aload_3, lw_getI, lw_getL, lw_getR, lw_getZ, lw_icmp_ge, lw_iaload, lw_if_ne, lw_laload, lwx_invokevirtual_5, lw_icmp_ne, lw_icmp_eq, lw_goto, lwx_iinc, lw_istore, lwx_iload, lw_lcmp, lw_if_eq, lw_ior, lw_iret, List.getD_cons_zero, List.getD_cons_succ, lm_set1, lm_set2, lm_cut, List.getElem?_cons_zero, List.getElem?_cons_succ, List.set_cons_zero, List.set_cons_succ, List.length_cons, List.length_nil, List.map_cons, List.map_nil, List.sum_cons, List.sum_nil, Value.category, Nat.reduceAdd, Nat.reduceDiv, Nat.reduceMod, Nat.reduceLT, Nat.reduceLeDiff, Nat.reduceMul, Int.toNat_natCast, Int.reduceToNat, true_and, and_true, lm_rok_1, lm_rok_20, lm_rok_21, lm_rok_0, lm_args, lm_ent, List.nil_append, List.cons_append, List.replicate, Nat.reduceSub, if_false, if_true, reduceCtorEq, Nat.reduceEqDiff, Bool.or_true, Bool.true_or, Bool.or_false, Bool.false_or, Bool.and_true, Bool.true_and, BEq.rfl, beq_self_eq_true, kb_m94, kb_m92, kb_m63, kb_m46, kb_m45, kb_m42, kb_m41, kb_m33, kb_m10, kb_m9, kb_m4, kb_m3, kb_m2, zkb_6, zkb_7, zkb_8, zkb_9, zkb_10, zkb_11, zkb_12, zkb_13, zkb_14, zkb_15, zkb_16, zkb_17, zkb_18, zkb_19, zkb_20, zkb_21, zkb_22, zkb_23, zkb_24, zkb_26, zkb_32, zkb_33, zkb_34, zkb_38, zkb_40, zkb_41, zkb_43, zkb_44, zkb_45, zkb_46, zkb_48, zkb_57, zkb_58, zkb_59, zkb_60, zkb_61, zkb_62, zkb_64, zkb_80, zkb_81, zkb_91, zkb_92, zkb_93, zkb_97, zkb_100, zkb_104, zkb_122, zkb_126, ki_m8, ki_m2, ki_m1, zki_0, zki_1, zki_2, zki_3, zki_4, zki_5, zks_160, zks_168, zks_240, zks_242, zks_255, zks_264, zks_300, zks_320, zks_500, zks_600, zks_625, zks_626, zks_1200, zks_1256, zks_2000, zks_2504, zks_3040, zks_4000, zks_6000, zks_12000, kl_0, kl_1, z_lt, z_le, z_eq, z_eq0, z_eq1, z_lt0, z_le0, z_0lt, z_0le, z_add, z_sub, z_add1, z_addn, z_addm, z_mul, z_cl, z_n9, z_n9s, z_n90, z_ne9, z_ne9s, z_lt_t, z_lt_f, z_le_t, z_le_f, z_eq_t, z_eq_f, z_pus, z_pun, z_row, or_self, or_false, false_or, true_or, or_true, and_self, and_false, false_and, not_true_eq_false, not_false_eq_true, false_implies, true_implies, implies_true, ne_eq, lm_row_s, lm_row_row, lm_up_row, rc_s, Classical.not_not, Nat.add_sub_cancel, i10, z_on, rok2_0, rok2_1, ml_174, rt_174, cb_174_66, cb_174_75, cb_174_76, cb_174_77, cb_174_83, cb_174_173, cb_174_177, cb_174_178, cb_174_186, cb_174_227, cb_174_228, cb_174_236, cb_174_256, cb_174_265, cb_174_266, cb_174_267, cb_174_273]
    exact this
  · obtain ⟨m1, m2⟩ := mu_k hT hk
    obtain ⟨⟨c1, c2, c3, c4, c5, c6, c7, c8, c9⟩, -⟩ := g.2.2 _ m1
    rw [m2] at c1 c2 c7 c8
    refine ⟨⟨c1, (t1 _ m1).1.1⟩, ⟨c2, ?_⟩, c7, c8, ?_⟩
    · show z 7 (z 31 k) ≤ 240
      rw [(t1 _ m1).1.2.1]; exact (ht.2.2.2 _).2
    · have := (t1 _ m1).2.2.2.2.1
      show z 14 (z 31 k) ≤ 6
      omega
  · obtain ⟨m1, m2⟩ := mu_k hT hk
    obtain ⟨-, d1, -⟩ := g.2.2 _ m1
    have := d1 h0
    rw [m2] at this
    exact ⟨this, (node_ch hT ho m1).2.1, rfl⟩
  · obtain ⟨m1, m2⟩ := mu_k hT hk
    exact mmg_le (by omega) (fun b hb => by have := ((node_ch hT ho m1).2.2 b hb).1; omega)
end NM
