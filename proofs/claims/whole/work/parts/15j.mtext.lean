/-! ===== the reference reads a text ===== -/
def mTX (tp : Nat → Nat) (n : Nat) (I : lm_I) (L : lm_L) (z : Zt) : Prop := mSD tp n I L z ∧ (∀ d, d < z 30 1 → I 115 d = nI (z 16 d) ∧ I 116 d = nI (z 6 (z 18 d))) ∧ (∀ x, x < z 30 0 → mN (xp tp n) (xy tp n) I L z x (oM z (z 5 x)))
section MTEXT
variable {tp : Nat → Nat} {n nt e f r : Nat} {pr : Nat → Bool} {S : lm_S} {I I' : lm_I} {L L' : lm_L} {R : lm_R} {Q K : Option Value → lm_M → Prop} {z z' : Zt}
theorem mTX_step (hT : TX (xk tp n) (xp tp n) nt z) (hs : SDI (xk tp n) (xp tp n) nt z r z') (h : mTX tp n I L z) (hx : mDX tp n I' L' z r z') (fr : frU (z 30 3) (z 30 2) (z 30 1) I I' L L') : mTX tp n I' L' z' := by
  obtain ⟨⟨hw, h03⟩, ⟨t1, t2, t3, -, -, -, -⟩, t8, -, -⟩ := hT
  obtain ⟨⟨⟨⟨w4, w0, w3, w2, w1⟩, wn, wd, wb, w31, w32⟩, hw', h03'⟩, ⟨⟨d1, d2, d3, d4, d5⟩, dh⟩, hb, sg, ch, ad, sc⟩ := hs
  obtain ⟨g, gd, gn⟩ := h
  obtain ⟨g', ⟨x1, x2⟩, sx⟩ := hx
  refine ⟨g', fun d hd => ?_, fun x hx => ?_⟩
  · by_cases so : d < z 30 1
    · rw [wd 16 d (by decide) (by decide) so, wd 18 d (by decide) (by decide) so, wn 6 _ (by decide) (t8 d so).1.1, (fr.2.1 d so).1, (fr.2.1 d so).2]
      exact gd d so
    · have ed : d = z 30 1 := by omega
      subst ed
      rw [d1, d2]
      exact ⟨x1, x2⟩
  · by_cases so : x < z 30 0
    · obtain ⟨⟨c1, c2, c3, c4, c5, c6, c7, c8, c9⟩, e1, e2, e3, e4⟩ := gn x so
      obtain ⟨⟨a1, a2, a3⟩, ⟨a4, a5⟩, a6, a7, a8, a9, a10, a11⟩ := t1 x so
      obtain ⟨q1, q2, q3, q4⟩ := t3 x (by omega) so
      have g : ∀ c, c < 16 → z' c x = z c x := fun c hc => wn c x hc so
      have row : ∀ o m, 99 ≤ o → o ≤ 109 → m < z 30 3 → I' o m = I o m := fr.2.2.1.1
      have o6 : ∀ v, v < z 30 0 → z' 6 v = z 6 v := fun v hv => wn 6 v (by decide) hv
      have es : sM z' (z 10 x) = sM z (z 10 x) := sM_eq (fun u1 u2 => wb 22 _ (by decide) (by decide) (by omega))
      have m1 : (if z 0 x = 7 then -9 else oM z' (z 1 x)) = (if z 0 x = 7 then -9 else oM z (z 1 x) : Int32) := by
        by_cases k7 : z 0 x = 7
        · rw [if_pos k7, if_pos k7]
        · rw [if_neg k7, if_neg k7]
          refine oM_eq (fun w => ?_)
          split at q1
          · exact o6 _ q1.2
          · have := q1 k7; omega
      have m2 : oM z' (z 2 x) = oM z (z 2 x) := oM_eq (fun w => by
        split at q2
        · exact o6 _ q2.2
        · omega)
      have m3 : oM z' (z 3 x) = oM z (z 3 x) := oM_eq (fun w => by
        split at q3
        · exact o6 _ q3.1.2
        · omega)
      have p5 : z 5 x < 1000 → z 5 x < z 30 0 := fun w => by
        rcases t2 x so with ⟨_, b⟩ | ⟨_, b, _⟩
        · omega
        · exact b
      have m5 : oM z' (z 5 x) = oM z (z 5 x) := oM_eq (fun w => o6 _ (p5 w))
      unfold mN
      rw [g 0 (by decide), g 1 (by decide), g 2 (by decide), g 3 (by decide), g 4 (by decide), g 5 (by decide), g 6 (by decide), g 7 (by decide), g 8 (by decide), g 9 (by decide), g 10 (by decide), g 13 (by decide), g 14 (by decide), es, m1, m2, m3, m5, row 99 _ (by decide) (by decide) a4, row 100 _ (by decide) (by decide) a4, row 102 _ (by decide) (by decide) a4, row 103 _ (by decide) (by decide) a4, row 104 _ (by decide) (by decide) a4, row 105 _ (by decide) (by decide) a4, row 106 _ (by decide) (by decide) a4, row 107 _ (by decide) (by decide) a4, row 108 _ (by decide) (by decide) a4, row 109 _ (by decide) (by decide) a4, fr.2.2.2.1 _ a4]
      refine ⟨⟨c1, c2, c3, c4, c5, c6, c7, c8, c9⟩, e1, e2, fun k5 => ?_, fun w1 w2 => ?_⟩
      · rw [if_pos (by omega)] at q1 q2 q3
        obtain ⟨u1, u2, u3⟩ := q3
        rw [wn 5 _ (by decide) q1.2, o6 _ q1.2, o6 _ q2.2, wn 9 _ (by decide) q2.2, wn 9 _ (by decide) u1.2, row 108 _ (by decide) (by decide) (t1 _ q1.2).2.1.1, row 108 _ (by decide) (by decide) (t1 _ q2.2).2.1.1]
        exact e3 k5
      · rw [wn 0 _ (by decide) (p5 w1)] at w2
        exact e4 w1 w2
    · have := sx x (by omega) hx
      by_cases sr : x = r
      · rw [if_pos sr] at this
        have r5 := sg.2.1
        rw [sr] at this ⊢
        rw [r5, oM_no]
        exact this
      · rw [if_neg sr] at this
        exact this
theorem mTX_mv (h : mTX tp n I L z) (g : mSD tp n I' L' z') (hz : ∀ c m, c ≠ 30 → z' c m = z c m) (h0 : z' 30 0 = z 30 0) (h1 : z' 30 1 = z 30 1) (hI : ∀ o, o ≠ 96 → I' o = I o) (hL : ∀ m, L' 101 m = L 101 m) : mTX tp n I' L' z' := by
  obtain ⟨-, gd, gn⟩ := h
  refine ⟨g, fun d hd => ?_, fun x hx => ?_⟩
  · rw [hz 16 _ (by decide), hz 18 _ (by decide), hz 6 _ (by decide), hI 115 (by decide), hI 116 (by decide)]
    exact gd d (by omega)
  · have e5 : oM z' (z' 5 x) = oM z (z 5 x) := by rw [hz 5 _ (by decide)]; exact oM_eq (fun _ => hz 6 _ (by decide))
    rw [e5]
    have key : mN (xp tp n) (xy tp n) I L z' x (oM z (z 5 x)) := by
      have es : ∀ s, sM z' s = sM z s := fun s => sM_eq (fun _ _ => hz 22 _ (by decide))
      have eo : ∀ v, oM z' v = oM z v := fun v => oM_eq (fun _ => hz 6 v (by decide))
      have h := gn x (by omega)
      unfold mN at h ⊢
      simp only [hz 0 _ (show 0 ≠ 30 by decide), hz 1 _ (show 1 ≠ 30 by decide), hz 2 _ (show 2 ≠ 30 by decide), hz 3 _ (show 3 ≠ 30 by decide), hz 4 _ (show 4 ≠ 30 by decide), hz 5 _ (show 5 ≠ 30 by decide), hz 6 _ (show 6 ≠ 30 by decide), hz 7 _ (show 7 ≠ 30 by decide), hz 8 _ (show 8 ≠ 30 by decide), hz 9 _ (show 9 ≠ 30 by decide), hz 10 _ (show 10 ≠ 30 by decide), hz 13 _ (show 13 ≠ 30 by decide), hz 14 _ (show 14 ≠ 30 by decide), es, eo]
      exact h
    unfold mN at key ⊢
    rw [hI 99 (by decide), hI 100 (by decide), hI 102 (by decide), hI 103 (by decide), hI 104 (by decide), hI 105 (by decide), hI 106 (by decide), hI 107 (by decide), hI 108 (by decide), hI 109 (by decide), hL]
    exact key
def mTQ (tp : Nat → Nat) (n nt e : Nat) (S : lm_S) (R : lm_R) (Q : Option Value → lm_M → Prop) (I : lm_I) (L : lm_L) (x : Rs) : Prop := match x with
  | .inl t => ∀ I' L' v2, I' 96 6 = nI t → frD I I' L L' → lw e 181 (lm_J 181 62) [.ref 96, .int (nI 0), v2] [] (S, I', L', R) Q
  | .inr q => ∀ I' L' v2, TX (xk tp n) (xp tp n) nt q.2 → mTX tp n I' L' q.2 → frD I I' L L' → lw e 181 (lm_J 181 62) [.ref 96, .int (nI 1), v2] [] (S, I', L', R) Q
/-- the declarations of a text -/
theorem m_T (hS : lp_shape S) (hR : lp_refs R) (ht : tko (xk tp n) (xp tp n) nt) (hpr : ∀ i, i ≤ nt → (pr i = true ↔ prP (xk tp n) (nt + 1) i)) (hf : 148 ≤ f) : ∀ (m : Nat) (z : Zt) (I : lm_I) (L : lm_L) (v2 : Value) (K : Option Value → lm_M → Prop), 7 ≤ m + z 30 1 → TX (xk tp n) (xp tp n) nt z → mTX tp n I L z → mTQ tp n nt (e + 7) S R Q I L (sT (xk tp n) (xp tp n) pr f m z) → (∀ v I L, (v = 0 ∨ v = 1) → lw (e + 7) 181 (lm_J 181 39) [.ref 96, .int (nI v), v2] [] (S, I, L, R) Q → K (some (.int (nI v))) (S, I, L, R)) → lc (e + 7) 172 [.ref 96] (S, I, L, R) K := by
  intro m
  induction m with
  | zero => intro z I L v2 K hm hT; have := hT.1.1.2.2.2.2.2; omega
  | succ m ih =>
    intro z I L v2 K hm hT g hq hK
    have hw := hT.1.1
    have h03 := hT.1.2
    unfold sT at hq
    refine m_decl (z := z) hS hR ht hpr hf hw g.1 ?_
    have dead : ∀ I' L' t, I' 96 6 = nI t → frD I I' L L' → mTQ tp n nt (e + 7) S R Q I L (.inl t) → K (some (.int (nI 0))) (S, I', L', R) := fun I' L' t a b h => by
      refine hK 0 I' L' (Or.inl rfl) ?_
      rw [cb_181_39]
      simp (disch := omega) only [lk_v, lk_n, lm_isI_i, lm_isL_l, lm_isR_r, lm_vi_i, lwx_aload_0, lwx_aload_1, lwx_aload_2, lwx_aload_3, lw_iconst, lw_putI, lw_putL, lw_putR, lw_putZ, lwx_invokevirtual_1, lwx_istore_0, lwx_istore_1, lwx_istore_2, lwx_istore_3, lwx_iload_0, lwx_iload_1, lwx_iload_2, lwx_iload_3, lw_if_eq, lw_getI, lw_getL, lw_getR, lw_getZ, lw_goto, lw_bipush, lw_icmp_eq, lw_isub, lw_iret, List.getD_cons_zero, List.getD_cons_succ, lm_set1, lm_set2, lm_cut, List.getElem?_cons_zero, List.getElem?_cons_succ, List.set_cons_zero, List.set_cons_succ, List.length_cons, List.length_nil, List.map_cons, List.map_nil, List.sum_cons, List.sum_nil, Value.category, Nat.reduceAdd, Nat.reduceDiv, Nat.reduceMod, Nat.reduceLT, Nat.reduceLeDiff, Nat.reduceMul, Int.toNat_natCast, Int.reduceToNat, true_and, and_true, lm_rok_1, lm_rok_20, lm_rok_21, lm_rok_0, lm_args, lm_ent, List.nil_append, List.cons_append, List.replicate, Nat.reduceSub, if_false, if_true, reduceCtorEq, Nat.reduceEqDiff, Bool.or_true, Bool.true_or, Bool.or_false, Bool.false_or, Bool.and_true, Bool.true_and, BEq.rfl, beq_self_eq_true, kb_m94, kb_m92, kb_m63, kb_m46, kb_m45, kb_m42, kb_m41, kb_m33, kb_m10, kb_m9, kb_m4, kb_m3, kb_m2, zkb_6, zkb_7, zkb_8, zkb_9, zkb_10, zkb_11, zkb_12, zkb_13, zkb_14, zkb_15, zkb_16, zkb_17, zkb_18, zkb_19, zkb_20, zkb_21, zkb_22, zkb_23, zkb_24, zkb_26, zkb_32, zkb_33, zkb_34, zkb_38, zkb_40, zkb_41, zkb_43, zkb_44, zkb_45, zkb_46, zkb_48, zkb_57, zkb_58, zkb_59, zkb_60, zkb_61, zkb_62, zkb_64, zkb_80, zkb_81, zkb_91, zkb_92, zkb_93, zkb_97, zkb_100, zkb_104, zkb_122, zkb_126, ki_m8, ki_m2, ki_m1, zki_0, zki_1, zki_2, zki_3, zki_4, zki_5, zks_160, zks_168, zks_240, zks_242, zks_255, zks_264, zks_300, zks_320, zks_500, zks_600, zks_625, zks_626, zks_1200, zks_1256, zks_2000, zks_2504, zks_3040, zks_4000, zks_6000, zks_12000, kl_0, kl_1, z_lt, z_le, z_eq, z_eq0, z_eq1, z_lt0, z_le0, z_0lt, z_0le, z_add, z_sub, z_add1, z_addn, z_addm, z_mul, z_cl, z_n9, z_n9s, z_n90, z_ne9, z_ne9s, z_lt_t, z_lt_f, z_le_t, z_le_f, z_eq_t, z_eq_f, z_pus, z_pun, z_row, or_self, or_false, false_or, true_or, or_true, and_self, and_false, false_and, not_true_eq_false, not_false_eq_true, false_implies, true_implies, implies_true, ne_eq, lm_row_s, lm_row_row, lm_up_row, rc_s, Classical.not_not, Nat.add_sub_cancel, i10, z_on, rok2_0, rok2_1, ml_181, rt_181, cb_181_73, cb_181_77, cb_181_93, cb_181_98]
      exact h I' L' v2 a b
    have hda := D_all (pr := pr) ht hf hw h03
    cases hx : sD (xk tp n) (xp tp n) pr f z with
    | inl t =>
      rw [hx] at hq
      exact fun I' L' a b => dead I' L' t a b hq
    | inr qq =>
      obtain ⟨hsd, -⟩ := hda qq hx
      obtain ⟨r, z1⟩ := qq
      rw [hx] at hq
      replace hq : mTQ tp n nt (e + 7) S R Q I L (if xk tp n (z1 30 4) = 14 then sT (xk tp n) (xp tp n) pr f m (adv z1) else if xk tp n (z1 30 4) = 22 then .inr (0, z1) else flt (xp tp n) z1) := hq
      have hT1 := TX_step ht hT hsd
      show if xk tp n (z1 30 4) ≠ 14 ∧ xk tp n (z1 30 4) ≠ 22 then mF S R K I L (xp tp n (z1 30 4)) else ∀ I' L', mDX tp n I' L' z r z1 → frU (z 30 3) (z 30 2) (z 30 1) I I' L L' → K (some (.int (nI 1))) (S, I', L', R)
      by_cases hk : xk tp n (z1 30 4) ≠ 14 ∧ xk tp n (z1 30 4) ≠ 22
      · rw [if_pos hk]
        rw [if_neg hk.1, if_neg hk.2] at hq
        exact fun I' L' a b => dead I' L' _ a b hq
      · rw [if_neg hk]
        intro I' L' dx fr
        have g1 := mTX_step hT hsd g dx fr
        have tk := mSD_tM dx.1 (ht.2.2.2 (z1 30 4)).1
        have h5 := tk.1
        refine hK 1 I' L' (Or.inr rfl) ?_
        rw [cb_181_39]
        by_cases k14 : xk tp n (z1 30 4) = 14
        · rw [if_pos k14] at hq
          rw [k14, show mty 14 = 4 from rfl] at h5
          simp (disch := omega) only [lk_v, lk_n, lm_isI_i, lm_isL_l, lm_isR_r, lm_vi_i, lwx_aload_0, lwx_aload_1, lwx_aload_2, lwx_aload_3, lw_iconst, lw_putI, lw_putL, lw_putR, lw_putZ, lwx_invokevirtual_1, lwx_istore_0, lwx_istore_1, lwx_istore_2, lwx_istore_3, lwx_iload_0, lwx_iload_1, lwx_iload_2, lwx_iload_3, lw_if_eq, lw_getI, lw_getL, lw_getR, lw_getZ, lw_goto, lw_bipush, lw_icmp_eq, lw_isub, lw_iret, List.getD_cons_zero, List.getD_cons_succ, lm_set1, lm_set2, lm_cut, List.getElem?_cons_zero, List.getElem?_cons_succ, List.set_cons_zero, List.set_cons_succ, List.length_cons, List.length_nil, List.map_cons, List.map_nil, List.sum_cons, List.sum_nil, Value.category, Nat.reduceAdd, Nat.reduceDiv, Nat.reduceMod, Nat.reduceLT, Nat.reduceLeDiff, Nat.reduceMul, Int.toNat_natCast, Int.reduceToNat, true_and, and_true, lm_rok_1, lm_rok_20, lm_rok_21, lm_rok_0, lm_args, lm_ent, List.nil_append, List.cons_append, List.replicate, Nat.reduceSub, if_false, if_true, reduceCtorEq, Nat.reduceEqDiff, Bool.or_true, Bool.true_or, Bool.or_false, Bool.false_or, Bool.and_true, Bool.true_and, BEq.rfl, beq_self_eq_true, kb_m94, kb_m92, kb_m63, kb_m46, kb_m45, kb_m42, kb_m41, kb_m33, kb_m10, kb_m9, kb_m4, kb_m3, kb_m2, zkb_6, zkb_7, zkb_8, zkb_9, zkb_10, zkb_11, zkb_12, zkb_13, zkb_14, zkb_15, zkb_16, zkb_17, zkb_18, zkb_19, zkb_20, zkb_21, zkb_22, zkb_23, zkb_24, zkb_26, zkb_32, zkb_33, zkb_34, zkb_38, zkb_40, zkb_41, zkb_43, zkb_44, zkb_45, zkb_46, zkb_48, zkb_57, zkb_58, zkb_59, zkb_60, zkb_61, zkb_62, zkb_64, zkb_80, zkb_81, zkb_91, zkb_92, zkb_93, zkb_97, zkb_100, zkb_104, zkb_122, zkb_126, ki_m8, ki_m2, ki_m1, zki_0, zki_1, zki_2, zki_3, zki_4, zki_5, zks_160, zks_168, zks_240, zks_242, zks_255, zks_264, zks_300, zks_320, zks_500, zks_600, zks_625, zks_626, zks_1200, zks_1256, zks_2000, zks_2504, zks_3040, zks_4000, zks_6000, zks_12000, kl_0, kl_1, z_lt, z_le, z_eq, z_eq0, z_eq1, z_lt0, z_le0, z_0lt, z_0le, z_add, z_sub, z_add1, z_addn, z_addm, z_mul, z_cl, z_n9, z_n9s, z_n90, z_ne9, z_ne9s, z_lt_t, z_lt_f, z_le_t, z_le_f, z_eq_t, z_eq_f, z_pus, z_pun, z_row, or_self, or_false, false_or, true_or, or_true, and_self, and_false, false_and, not_true_eq_false, not_false_eq_true, false_implies, true_implies, implies_true, ne_eq, lm_row_s, lm_row_row, lm_up_row, rc_s, Classical.not_not, Nat.add_sub_cancel, i10, z_on, rok2_0, rok2_1, ml_181, rt_181, cb_181_73, cb_181_77, cb_181_93, cb_181_98, sh_96 hS, rc_mod hS, h5]
          refine k_nxD hS hR dx.1 (by rw [k14]; decide) (fun I2 L2 g2 f2 f2' => ?_)
          simp (disch := omega) only [lk_v, lk_n, lm_isI_i, lm_isL_l, lm_isR_r, lm_vi_i, lwx_aload_0, lwx_aload_1, lwx_aload_2, lwx_aload_3, lw_iconst, lw_putI, lw_putL, lw_putR, lw_putZ, lwx_invokevirtual_1, lwx_istore_0, lwx_istore_1, lwx_istore_2, lwx_istore_3, lwx_iload_0, lwx_iload_1, lwx_iload_2, lwx_iload_3, lw_if_eq, lw_getI, lw_getL, lw_getR, lw_getZ, lw_goto, lw_bipush, lw_icmp_eq, lw_isub, lw_iret, List.getD_cons_zero, List.getD_cons_succ, lm_set1, lm_set2, lm_cut, List.getElem?_cons_zero, List.getElem?_cons_succ, List.set_cons_zero, List.set_cons_succ, List.length_cons, List.length_nil, List.map_cons, List.map_nil, List.sum_cons, List.sum_nil, Value.category, Nat.reduceAdd, Nat.reduceDiv, Nat.reduceMod, Nat.reduceLT, Nat.reduceLeDiff, Nat.reduceMul, Int.toNat_natCast, Int.reduceToNat, true_and, and_true, lm_rok_1, lm_rok_20, lm_rok_21, lm_rok_0, lm_args, lm_ent, List.nil_append, List.cons_append, List.replicate, Nat.reduceSub, if_false, if_true, reduceCtorEq, Nat.reduceEqDiff, Bool.or_true, Bool.true_or, Bool.or_false, Bool.false_or, Bool.and_true, Bool.true_and, BEq.rfl, beq_self_eq_true, kb_m94, kb_m92, kb_m63, kb_m46, kb_m45, kb_m42, kb_m41, kb_m33, kb_m10, kb_m9, kb_m4, kb_m3, kb_m2, zkb_6, zkb_7, zkb_8, zkb_9, zkb_10, zkb_11, zkb_12, zkb_13, zkb_14, zkb_15, zkb_16, zkb_17, zkb_18, zkb_19, zkb_20, zkb_21, zkb_22, zkb_23, zkb_24, zkb_26, zkb_32, zkb_33, zkb_34, zkb_38, zkb_40, zkb_41, zkb_43, zkb_44, zkb_45, zkb_46, zkb_48, zkb_57, zkb_58, zkb_59, zkb_60, zkb_61, zkb_62, zkb_64, zkb_80, zkb_81, zkb_91, zkb_92, zkb_93, zkb_97, zkb_100, zkb_104, zkb_122, zkb_126, ki_m8, ki_m2, ki_m1, zki_0, zki_1, zki_2, zki_3, zki_4, zki_5, zks_160, zks_168, zks_240, zks_242, zks_255, zks_264, zks_300, zks_320, zks_500, zks_600, zks_625, zks_626, zks_1200, zks_1256, zks_2000, zks_2504, zks_3040, zks_4000, zks_6000, zks_12000, kl_0, kl_1, z_lt, z_le, z_eq, z_eq0, z_eq1, z_lt0, z_le0, z_0lt, z_0le, z_add, z_sub, z_add1, z_addn, z_addm, z_mul, z_cl, z_n9, z_n9s, z_n90, z_ne9, z_ne9s, z_lt_t, z_lt_f, z_le_t, z_le_f, z_eq_t, z_eq_f, z_pus, z_pun, z_row, or_self, or_false, false_or, true_or, or_true, and_self, and_false, false_and, not_true_eq_false, not_false_eq_true, false_implies, true_implies, implies_true, ne_eq, lm_row_s, lm_row_row, lm_up_row, rc_s, Classical.not_not, Nat.add_sub_cancel, i10, z_on, rok2_0, rok2_1, ml_181, rt_181, cb_181_73, cb_181_77, cb_181_93, cb_181_98, rc_mod hS]
          have hT2 := TX_adv ht hT1 (by rw [k14]; decide)
          have m2 := mTX_mv g1 g2 (fun c m h => adv_n (Or.inl h)) (adv_30 (by decide)) (adv_30 (by decide)) f2.1 (fun m => f2' 101 m (by omega))
          have e1 : adv z1 30 1 = z 30 1 + 1 := by rw [adv_30 (by decide)]; exact hsd.1.1.1.2.2.2.2
          have fr2 : frD I I2 L L2 := fr.1.tr ((frN_k f2 f2').t (M := 0) (B := 0) (D := 0)).1
          refine ih (adv z1) I2 L2 v2 _ (by omega) hT2 m2 ?_ (fun v I3 L3 hv h => ?_)
          · cases hx2 : sT (xk tp n) (xp tp n) pr f m (adv z1) with
            | inl t => rw [hx2] at hq; exact fun I3 L3 v3 a b => hq I3 L3 v3 a (fr2.tr b)
            | inr q3 => rw [hx2] at hq; exact fun I3 L3 v3 a b c => hq I3 L3 v3 a b (fr2.tr c)
          · simp (disch := omega) only [lk_v, lk_n, lm_isI_i, lm_isL_l, lm_isR_r, lm_vi_i, lwx_aload_0, lwx_aload_1, lwx_aload_2, lwx_aload_3, lw_iconst, lw_putI, lw_putL, lw_putR, lw_putZ, lwx_invokevirtual_1, lwx_istore_0, lwx_istore_1, lwx_istore_2, lwx_istore_3, lwx_iload_0, lwx_iload_1, lwx_iload_2, lwx_iload_3, lw_if_eq, lw_getI, lw_getL, lw_getR, lw_getZ, lw_goto, lw_bipush, lw_icmp_eq, lw_isub, lw_iret, List.getD_cons_zero, List.getD_cons_succ, lm_set1, lm_set2, lm_cut, List.getElem?_cons_zero, List.getElem?_cons_succ, List.set_cons_zero, List.set_cons_succ, List.length_cons, List.length_nil, List.map_cons, List.map_nil, List.sum_cons, List.sum_nil, Value.category, Nat.reduceAdd, Nat.reduceDiv, Nat.reduceMod, Nat.reduceLT, Nat.reduceLeDiff, Nat.reduceMul, Int.toNat_natCast, Int.reduceToNat, true_and, and_true, lm_rok_1, lm_rok_20, lm_rok_21, lm_rok_0, lm_args, lm_ent, List.nil_append, List.cons_append, List.replicate, Nat.reduceSub, if_false, if_true, reduceCtorEq, Nat.reduceEqDiff, Bool.or_true, Bool.true_or, Bool.or_false, Bool.false_or, Bool.and_true, Bool.true_and, BEq.rfl, beq_self_eq_true, kb_m94, kb_m92, kb_m63, kb_m46, kb_m45, kb_m42, kb_m41, kb_m33, kb_m10, kb_m9, kb_m4, kb_m3, kb_m2, zkb_6, zkb_7, zkb_8, zkb_9, zkb_10, zkb_11, zkb_12, zkb_13, zkb_14, zkb_15, zkb_16, zkb_17, zkb_18, zkb_19, zkb_20, zkb_21, zkb_22, zkb_23, zkb_24, zkb_26, zkb_32, zkb_33, zkb_34, zkb_38, zkb_40, zkb_41, zkb_43, zkb_44, zkb_45, zkb_46, zkb_48, zkb_57, zkb_58, zkb_59, zkb_60, zkb_61, zkb_62, zkb_64, zkb_80, zkb_81, zkb_91, zkb_92, zkb_93, zkb_97, zkb_100, zkb_104, zkb_122, zkb_126, ki_m8, ki_m2, ki_m1, zki_0, zki_1, zki_2, zki_3, zki_4, zki_5, zks_160, zks_168, zks_240, zks_242, zks_255, zks_264, zks_300, zks_320, zks_500, zks_600, zks_625, zks_626, zks_1200, zks_1256, zks_2000, zks_2504, zks_3040, zks_4000, zks_6000, zks_12000, kl_0, kl_1, z_lt, z_le, z_eq, z_eq0, z_eq1, z_lt0, z_le0, z_0lt, z_0le, z_add, z_sub, z_add1, z_addn, z_addm, z_mul, z_cl, z_n9, z_n9s, z_n90, z_ne9, z_ne9s, z_lt_t, z_lt_f, z_le_t, z_le_f, z_eq_t, z_eq_f, z_pus, z_pun, z_row, or_self, or_false, false_or, true_or, or_true, and_self, and_false, false_and, not_true_eq_false, not_false_eq_true, false_implies, true_implies, implies_true, ne_eq, lm_row_s, lm_row_row, lm_up_row, rc_s, Classical.not_not, Nat.add_sub_cancel, i10, z_on, rok2_0, rok2_1, ml_181, rt_181, cb_181_73, cb_181_77, cb_181_93, cb_181_98]
            exact h
        · have k22 : xk tp n (z1 30 4) = 22 := by omega
          rw [if_neg k14, if_pos k22] at hq
          rw [k22, show mty 22 = 0 from rfl] at h5
          simp (disch := omega) only [lk_v, lk_n, lm_isI_i, lm_isL_l, lm_isR_r, lm_vi_i, lwx_aload_0, lwx_aload_1, lwx_aload_2, lwx_aload_3, lw_iconst, lw_putI, lw_putL, lw_putR, lw_putZ, lwx_invokevirtual_1, lwx_istore_0, lwx_istore_1, lwx_istore_2, lwx_istore_3, lwx_iload_0, lwx_iload_1, lwx_iload_2, lwx_iload_3, lw_if_eq, lw_getI, lw_getL, lw_getR, lw_getZ, lw_goto, lw_bipush, lw_icmp_eq, lw_isub, lw_iret, List.getD_cons_zero, List.getD_cons_succ, lm_set1, lm_set2, lm_cut, List.getElem?_cons_zero, List.getElem?_cons_succ, List.set_cons_zero, List.set_cons_succ, List.length_cons, List.length_nil, List.map_cons, List.map_nil, List.sum_cons, List.sum_nil, Value.category, Nat.reduceAdd, Nat.reduceDiv, Nat.reduceMod, Nat.reduceLT, Nat.reduceLeDiff, Nat.reduceMul, Int.toNat_natCast, Int.reduceToNat, true_and, and_true, lm_rok_1, lm_rok_20, lm_rok_21, lm_rok_0, lm_args, lm_ent, List.nil_append, List.cons_append, List.replicate, Nat.reduceSub, if_false, if_true, reduceCtorEq, Nat.reduceEqDiff, Bool.or_true, Bool.true_or, Bool.or_false, Bool.false_or, Bool.and_true, Bool.true_and, BEq.rfl, beq_self_eq_true, kb_m94, kb_m92, kb_m63, kb_m46, kb_m45, kb_m42, kb_m41, kb_m33, kb_m10, kb_m9, kb_m4, kb_m3, kb_m2, zkb_6, zkb_7, zkb_8, zkb_9, zkb_10, zkb_11, zkb_12, zkb_13, zkb_14, zkb_15, zkb_16, zkb_17, zkb_18, zkb_19, zkb_20, zkb_21, zkb_22, zkb_23, zkb_24, zkb_26, zkb_32, zkb_33, zkb_34, zkb_38, zkb_40, zkb_41, zkb_43, zkb_44, zkb_45, zkb_46, zkb_48, zkb_57, zkb_58, zkb_59, zkb_60, zkb_61, zkb_62, zkb_64, zkb_80, zkb_81, zkb_91, zkb_92, zkb_93, zkb_97, zkb_100, zkb_104, zkb_122, zkb_126, ki_m8, ki_m2, ki_m1, zki_0, zki_1, zki_2, zki_3, zki_4, zki_5, zks_160, zks_168, zks_240, zks_242, zks_255, zks_264, zks_300, zks_320, zks_500, zks_600, zks_625, zks_626, zks_1200, zks_1256, zks_2000, zks_2504, zks_3040, zks_4000, zks_6000, zks_12000, kl_0, kl_1, z_lt, z_le, z_eq, z_eq0, z_eq1, z_lt0, z_le0, z_0lt, z_0le, z_add, z_sub, z_add1, z_addn, z_addm, z_mul, z_cl, z_n9, z_n9s, z_n90, z_ne9, z_ne9s, z_lt_t, z_lt_f, z_le_t, z_le_f, z_eq_t, z_eq_f, z_pus, z_pun, z_row, or_self, or_false, false_or, true_or, or_true, and_self, and_false, false_and, not_true_eq_false, not_false_eq_true, false_implies, true_implies, implies_true, ne_eq, lm_row_s, lm_row_row, lm_up_row, rc_s, Classical.not_not, Nat.add_sub_cancel, i10, z_on, rok2_0, rok2_1, ml_181, rt_181, cb_181_73, cb_181_77, cb_181_93, cb_181_98, sh_96 hS, rc_mod hS, h5]
          exact hq I' L' v2 hT1 g1 fr.1
end MTEXT

/-- the same, whatever tape is left -/
def mTX0 (tp : Nat → Nat) (n : Nat) (I : lm_I) (L : lm_L) (z : Zt) : Prop := ((True ∧ True) ∧ (I 96 9 = nI (z 30 3) ∧ I 96 21 = nI (z 30 2) ∧ I 96 27 = nI (z 30 5) ∧ I 96 28 = nI (z 30 1) ∧ I 96 46 = nI 0) ∧ (∀ b, b < z 30 2 → L 110 b = xy tp n (z 20 b) ∧ I 111 b = nI (xp tp n (z 20 b)) ∧ I 112 b = nI (z 22 b) ∧ I 113 b = nI (z 23 b) ∧ I 114 b = (if z 22 b = 2 then sM z (z 21 b) else -9) ∧ (z 21 b = 1000 ∨ z 21 b < 11 + b))) ∧ (∀ d, d < z 30 1 → I 115 d = nI (z 16 d) ∧ I 116 d = nI (z 6 (z 18 d))) ∧ (∀ x, x < z 30 0 → mN (xp tp n) (xy tp n) I L z x (oM z (z 5 x)))
theorem mTX.o {tp : Nat → Nat} {n : Nat} {I : lm_I} {L : lm_L} {z : Zt} (g : mTX tp n I L z) : mTX0 tp n I L z := ⟨⟨⟨trivial, trivial⟩, g.1.2⟩, g.2⟩
theorem mTX0_fr {tp : Nat → Nat} {n : Nat} {I I' : lm_I} {L : lm_L} {z : Zt} (g : mTX0 tp n I L z) (h1 : ∀ o, 99 ≤ o → o ≤ 116 → I' o = I o) (h2 : ∀ k, (k = 9 ∨ k = 21 ∨ k = 27 ∨ k = 28 ∨ k = 46) → I' 96 k = I 96 k) : mTX0 tp n I' L z := by
  obtain ⟨⟨-, ⟨a1, a2, a3, a4, a5⟩, b⟩, d, m⟩ := g
  refine ⟨⟨⟨trivial, trivial⟩, ⟨by rw [h2 9 (by decide)]; exact a1, by rw [h2 21 (by decide)]; exact a2, by rw [h2 27 (by decide)]; exact a3, by rw [h2 28 (by decide)]; exact a4, by rw [h2 46 (by decide)]; exact a5⟩, fun x hx => ?_⟩, fun x hx => ?_, fun x hx => ?_⟩
  · rw [h1 111 (by decide) (by decide), h1 112 (by decide) (by decide), h1 113 (by decide) (by decide), h1 114 (by decide) (by decide)]
    exact b x hx
  · rw [h1 115 (by decide) (by decide), h1 116 (by decide) (by decide)]
    exact d x hx
  · have := m x hx
    unfold mN at this ⊢
    rw [h1 99 (by decide) (by decide), h1 100 (by decide) (by decide), h1 102 (by decide) (by decide), h1 103 (by decide) (by decide), h1 104 (by decide) (by decide), h1 105 (by decide) (by decide), h1 106 (by decide) (by decide), h1 107 (by decide) (by decide), h1 108 (by decide) (by decide), h1 109 (by decide) (by decide)]
    exact this
