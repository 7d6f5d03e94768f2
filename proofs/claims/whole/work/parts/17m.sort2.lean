section SORT2
variable {tp : Nat → Nat} {n nt e c x k : Nat} {S : lm_S} {I : lm_I} {L : lm_L} {R : lm_R} {Q : Option Value → lm_M → Prop} {z : Zt} {kd pl : Nat → Nat} {l l' a : Nat → Rr} {M : Rr → Prop}
theorem SQ_c (h : SQ l c M) (he : ∀ i, i < c → l' i = l i) : SQ l' c M := ⟨fun i j h1 h2 => by rw [he i (by omega), he j h2]; exact h.1 i j h1 h2, fun x => ⟨fun q => by obtain ⟨i, i1, i2⟩ := (h.2 x).mp q; exact ⟨i, i1, by rw [he i i1]; exact i2⟩, fun ⟨i, i1, i2⟩ => (h.2 x).mpr ⟨i, i1, by rw [← he i i1]; exact i2⟩⟩⟩
theorem k_180l (hS : lp_shape S) (hR : lp_refs R) (ht : tko kd pl nt) (hT : TX kd pl nt z) (hq : UQ l c (RUL z)) (hc : c ≤ 400) (hQ : ∀ I' a', mRA pl I' a' c → SQ a' c (RUL z) → frQ I I' → Q none (S, I', L, R)) : ∀ (m k : Nat) (I1 : lm_I) (a : Nat → Rr) (x2 x3 x4 x5 x6 x7 : Value), k + m = c → mRA pl I1 a c → SQ a k (fun y => ∃ i, i < k ∧ l i = y) → (∀ i, k ≤ i → i < c → a i = l i) → frQ I I1 → lw e 180 (lm_J 180 2) [.ref 96, .int (nI k), x2, x3, x4, x5, x6, x7] [] (S, I1, L, R) (fun v M' => lm_rok 0 v = true ∧ Q v M') := by
  intro m
  induction m with
  | zero =>
    intro k I1 a x2 x3 x4 x5 x6 x7 hm hA hs ha fr
    have e1 : k = c := by omega
    subst e1
    have h68 := hA.1
    rw [cb_180_2]
    simp (disch := omega) only [lk_v, lk_n, lm_isI_i, lm_isL_l, lm_isR_r, lm_vi_i, lw_iconst, lwx_istore_0, lwx_istore_1, lwx_istore_2, lwx_istore_3, lwx_iload_0, lwx_iload_1, lwx_iload_2, lwx_iload_3, lwx_aload_0, lwx_aload_1, lwx_aload_2, lwx_aload_3, lw_getI, lw_getL, lw_getR, lw_getZ, lw_icmp_ge, lw_iaload, lw_istore, lwx_iload, lw_if_le, lw_isub, lw_icmp_le, lw_iastore, lwx_iinc, lw_goto, lw_vret, List.getD_cons_zero, List.getD_cons_succ, lm_set1, lm_set2, lm_cut, List.getElem?_cons_zero, List.getElem?_cons_succ, List.set_cons_zero, List.set_cons_succ, List.length_cons, List.length_nil, List.map_cons, List.map_nil, List.sum_cons, List.sum_nil, Value.category, Nat.reduceAdd, Nat.reduceDiv, Nat.reduceMod, Nat.reduceLT, Nat.reduceLeDiff, Nat.reduceMul, Int.toNat_natCast, Int.reduceToNat, true_and, and_true, lm_rok_1, lm_rok_20, lm_rok_21, lm_rok_0, lm_args, lm_ent, List.nil_append, List.cons_append, List.replicate, Nat.reduceSub, if_false, if_true, reduceCtorEq, Nat.reduceEqDiff, Bool.or_true, Bool.true_or, Bool.or_false, Bool.false_or, Bool.and_true, Bool.true_and, BEq.rfl, beq_self_eq_true, kb_m94, kb_m92, kb_m63, kb_m46, kb_m45, kb_m42, kb_m41, kb_m33, kb_m10, kb_m9, kb_m4, kb_m3, kb_m2, zkb_6, zkb_7, zkb_8, zkb_9, zkb_10, zkb_11, zkb_12, zkb_13, zkb_14, zkb_15, zkb_16, zkb_17, zkb_18, zkb_19, zkb_20, zkb_21, zkb_22, zkb_23, zkb_24, zkb_26, zkb_32, zkb_33, zkb_34, zkb_38, zkb_40, zkb_41, zkb_43, zkb_44, zkb_45, zkb_46, zkb_48, zkb_57, zkb_58, zkb_59, zkb_60, zkb_61, zkb_62, zkb_64, zkb_80, zkb_81, zkb_91, zkb_92, zkb_93, zkb_97, zkb_100, zkb_104, zkb_122, zkb_126, ki_m8, ki_m2, ki_m1, zki_0, zki_1, zki_2, zki_3, zki_4, zki_5, zks_160, zks_168, zks_240, zks_242, zks_255, zks_264, zks_300, zks_320, zks_500, zks_600, zks_625, zks_626, zks_1200, zks_1256, zks_2000, zks_2504, zks_3040, zks_4000, zks_6000, zks_12000, kl_0, kl_1, z_lt, z_le, z_eq, z_eq0, z_eq1, z_lt0, z_le0, z_0lt, z_0le, z_add, z_sub, z_add1, z_addn, z_addm, z_mul, z_cl, z_n9, z_n9s, z_n90, z_ne9, z_ne9s, z_lt_t, z_lt_f, z_le_t, z_le_f, z_eq_t, z_eq_f, z_pus, z_pun, z_row, or_self, or_false, false_or, true_or, or_true, and_self, and_false, false_and, not_true_eq_false, not_false_eq_true, false_implies, true_implies, implies_true, ne_eq, lm_row_s, lm_row_row, lm_up_row, rc_s, Classical.not_not, Nat.add_sub_cancel, i10, z_on, rok2_0, rok2_1, ml_180, rt_180, cb_180_156, cb_180_205, sh_96 hS, h68]
    exact hQ I1 a hA (SQ_eq hs (fun y => (hq.2 y).symm)) fr
  | succ m ih =>
    intro k I1 a x2 x3 x4 x5 x6 x7 hm hA hs ha fr
    have hk : k < c := by omega
    have h68 := hA.1
    have ek := ha k (Nat.le_refl _) hk
    obtain ⟨r1, r2, r3, r4, r5⟩ := hA.2 k hk
    replace r3 : I1 143 k = x3v (a k) := r3
    replace r5 : I1 145 k = nI (rk8 pl (a k)) := r5
    have xR : RUL z (a k) := (hq.2 _).mpr ⟨k, hk, ek.symm⟩
    have inn := k_180a (e := e) (I := I1) (L := L) (Q := fun v M' => lm_rok 0 v = true ∧ Q v M') (x := a k) (a := a) (k := k) (c := c) (pl := pl) hS hR hc hk (rk8_le ht) (fun i hi => ?_) hs.1 (fun I' r i' h1 h2 h3 h4 h5 => ?_) k I1 (Nat.le_refl _) h68 (fun i hi => hA.2 i (by omega)) (fun j j1 j2 => by omega) (fun j j1 j2 => hA.2 j j2) (fun i i1 i2 => by omega) frQ.rf
    · rw [cb_180_2]
      simp (disch := omega) only [lk_v, lk_n, lm_isI_i, lm_isL_l, lm_isR_r, lm_vi_i, lw_iconst, lwx_istore_0, lwx_istore_1, lwx_istore_2, lwx_istore_3, lwx_iload_0, lwx_iload_1, lwx_iload_2, lwx_iload_3, lwx_aload_0, lwx_aload_1, lwx_aload_2, lwx_aload_3, lw_getI, lw_getL, lw_getR, lw_getZ, lw_icmp_ge, lw_iaload, lw_istore, lwx_iload, lw_if_le, lw_isub, lw_icmp_le, lw_iastore, lwx_iinc, lw_goto, lw_vret, List.getD_cons_zero, List.getD_cons_succ, lm_set1, lm_set2, lm_cut, List.getElem?_cons_zero, List.getElem?_cons_succ, List.set_cons_zero, List.set_cons_succ, List.length_cons, List.length_nil, List.map_cons, List.map_nil, List.sum_cons, List.sum_nil, Value.category, Nat.reduceAdd, Nat.reduceDiv, Nat.reduceMod, Nat.reduceLT, Nat.reduceLeDiff, Nat.reduceMul, Int.toNat_natCast, Int.reduceToNat, true_and, and_true, lm_rok_1, lm_rok_20, lm_rok_21, lm_rok_0, lm_args, lm_ent, List.nil_append, List.cons_append, List.replicate, Nat.reduceSub, if_false, if_true, reduceCtorEq, Nat.reduceEqDiff, Bool.or_true, Bool.true_or, Bool.or_false, Bool.false_or, Bool.and_true, Bool.true_and, BEq.rfl, beq_self_eq_true, kb_m94, kb_m92, kb_m63, kb_m46, kb_m45, kb_m42, kb_m41, kb_m33, kb_m10, kb_m9, kb_m4, kb_m3, kb_m2, zkb_6, zkb_7, zkb_8, zkb_9, zkb_10, zkb_11, zkb_12, zkb_13, zkb_14, zkb_15, zkb_16, zkb_17, zkb_18, zkb_19, zkb_20, zkb_21, zkb_22, zkb_23, zkb_24, zkb_26, zkb_32, zkb_33, zkb_34, zkb_38, zkb_40, zkb_41, zkb_43, zkb_44, zkb_45, zkb_46, zkb_48, zkb_57, zkb_58, zkb_59, zkb_60, zkb_61, zkb_62, zkb_64, zkb_80, zkb_81, zkb_91, zkb_92, zkb_93, zkb_97, zkb_100, zkb_104, zkb_122, zkb_126, ki_m8, ki_m2, ki_m1, zki_0, zki_1, zki_2, zki_3, zki_4, zki_5, zks_160, zks_168, zks_240, zks_242, zks_255, zks_264, zks_300, zks_320, zks_500, zks_600, zks_625, zks_626, zks_1200, zks_1256, zks_2000, zks_2504, zks_3040, zks_4000, zks_6000, zks_12000, kl_0, kl_1, z_lt, z_le, z_eq, z_eq0, z_eq1, z_lt0, z_le0, z_0lt, z_0le, z_add, z_sub, z_add1, z_addn, z_addm, z_mul, z_cl, z_n9, z_n9s, z_n90, z_ne9, z_ne9s, z_lt_t, z_lt_f, z_le_t, z_le_f, z_eq_t, z_eq_f, z_pus, z_pun, z_row, or_self, or_false, false_or, true_or, or_true, and_self, and_false, false_and, not_true_eq_false, not_false_eq_true, false_implies, true_implies, implies_true, ne_eq, lm_row_s, lm_row_row, lm_up_row, rc_s, Classical.not_not, Nat.add_sub_cancel, i10, z_on, rok2_0, rok2_1, ml_180, rt_180, cb_180_156, cb_180_205, rc_mod hS, sh_96 hS, sh_141 hS, sh_142 hS, sh_143 hS, sh_144 hS, sh_145 hS, rf_96_69 hR, rf_96_70 hR, rf_96_71 hR, rf_96_72 hR, rf_96_73 hR, rf_96_96 hR, h68, r1, r2, r3, r4, r5]
      exact inn
    · obtain ⟨j, j1, j2⟩ := (hs.2 (a i)).mpr ⟨i, hi, rfl⟩
      have yR : RUL z (a i) := (hq.2 _).mpr ⟨j, by omega, j2⟩
      refine ⟨rk8_le ht, ?_⟩
      rcases Nat.lt_trichotomy (a i).1 (a k).1 with s | s | s
      · exact Or.inl ⟨s, rk8_lt ht hT xR yR s⟩
      · exfalso
        have := RUL_inj hT yR xR s
        rw [← j2, ek] at this
        exact hq.1 j k j1 hk this
      · exact Or.inr ⟨s, rk8_lt ht hT yR xR s⟩
    · refine ih (k + 1) I' _ _ _ _ _ _ _ (by omega) h4 ?_ (fun i i1 i2 => ?_) (fr.tr h5)
      · refine SQ_c (SQ_eq (SQ_ins hs h1 h2 h3) (fun y => ?_)) (fun i hi => if_pos (by omega))
        constructor
        · rintro (⟨i, i1, i2⟩ | h)
          · exact ⟨i, by omega, i2⟩
          · exact ⟨k, by omega, by rw [h, ek]⟩
        · rintro ⟨i, i1, i2⟩
          by_cases s : i = k
          · right; rw [← i2, s, ek]
          · exact Or.inl ⟨i, by omega, i2⟩
      · show (if i ≤ k then insR a r (a k) i else a i) = l i
        rw [if_neg (by omega)]
        exact ha i (by omega) i2
/-- sortRules -/
theorem k_180 (hS : lp_shape S) (hR : lp_refs R) (ht : tko kd pl nt) (hT : TX kd pl nt z) (hA : mRA pl I l c) (hq : UQ l c (RUL z)) (hc : c ≤ 400) (hc1 : 1 ≤ c) (hQ : ∀ I' a', mRA pl I' a' c → SQ a' c (RUL z) → frQ I I' → Q none (S, I', L, R)) : lc (e + 1) 180 [.ref 96] (S, I, L, R) Q := by
  rw [lc_succ, cb_180]
  simp (disch := omega) only [lk_v, lk_n, lm_isI_i, lm_isL_l, lm_isR_r, lm_vi_i, lw_iconst, lwx_istore_0, lwx_istore_1, lwx_istore_2, lwx_istore_3, lwx_iload_0, lwx_iload_1, lwx_iload_2, lwx_iload_3, lwx_aload_0, lwx_aload_1, lwx_aload_2, lwx_aload_3, lw_getI, lw_getL, lw_getR, lw_getZ, lw_icmp_ge, lw_iaload, lw_istore, lwx_iload, lw_if_le, lw_isub, lw_icmp_le, lw_iastore, lwx_iinc, lw_goto, lw_vret, List.getD_cons_zero, List.getD_cons_succ, lm_set1, lm_set2, lm_cut, List.getElem?_cons_zero, List.getElem?_cons_succ, List.set_cons_zero, List.set_cons_succ, List.length_cons, List.length_nil, List.map_cons, List.map_nil, List.sum_cons, List.sum_nil, Value.category, Nat.reduceAdd, Nat.reduceDiv, Nat.reduceMod, Nat.reduceLT, Nat.reduceLeDiff, Nat.reduceMul, Int.toNat_natCast, Int.reduceToNat, true_and, and_true, lm_rok_1, lm_rok_20, lm_rok_21, lm_rok_0, lm_args, lm_ent, List.nil_append, List.cons_append, List.replicate, Nat.reduceSub, if_false, if_true, reduceCtorEq, Nat.reduceEqDiff, Bool.or_true, Bool.true_or, Bool.or_false, Bool.false_or, Bool.and_true, Bool.true_and, BEq.rfl, beq_self_eq_true, kb_m94, kb_m92, kb_m63, kb_m46, kb_m45, kb_m42, kb_m41, kb_m33, kb_m10, kb_m9, kb_m4, kb_m3, kb_m2, zkb_6, zkb_7, zkb_8, zkb_9, zkb_10, zkb_11, zkb_12, zkb_13, zkb_14, zkb_15, zkb_16, zkb_17, zkb_18, zkb_19, zkb_20, zkb_21, zkb_22, zkb_23, zkb_24, zkb_26, zkb_32, zkb_33, zkb_34, zkb_38, zkb_40, zkb_41, zkb_43, zkb_44, zkb_45, zkb_46, zkb_48, zkb_57, zkb_58, zkb_59, zkb_60, zkb_61, zkb_62, zkb_64, zkb_80, zkb_81, zkb_91, zkb_92, zkb_93, zkb_97, zkb_100, zkb_104, zkb_122, zkb_126, ki_m8, ki_m2, ki_m1, zki_0, zki_1, zki_2, zki_3, zki_4, zki_5, zks_160, zks_168, zks_240, zks_242, zks_255, zks_264, zks_300, zks_320, zks_500, zks_600, zks_625, zks_626, zks_1200, zks_1256, zks_2000, zks_2504, zks_3040, zks_4000, zks_6000, zks_12000, kl_0, kl_1, z_lt, z_le, z_eq, z_eq0, z_eq1, z_lt0, z_le0, z_0lt, z_0le, z_add, z_sub, z_add1, z_addn, z_addm, z_mul, z_cl, z_n9, z_n9s, z_n90, z_ne9, z_ne9s, z_lt_t, z_lt_f, z_le_t, z_le_f, z_eq_t, z_eq_f, z_pus, z_pun, z_row, or_self, or_false, false_or, true_or, or_true, and_self, and_false, false_and, not_true_eq_false, not_false_eq_true, false_implies, true_implies, implies_true, ne_eq, lm_row_s, lm_row_row, lm_up_row, rc_s, Classical.not_not, Nat.add_sub_cancel, i10, z_on, rok2_0, rok2_1, ml_180, rt_180, cb_180_156, cb_180_205]
  refine k_180l (I := I) hS hR ht hT hq hc hQ (c - 1) 1 I l _ _ _ _ _ _ (by omega) hA ⟨fun i j h1 h2 => by omega, fun y => ⟨fun ⟨i, i1, i2⟩ => ⟨i, i1, i2⟩, fun ⟨i, i1, i2⟩ => ⟨i, i1, i2⟩⟩⟩ (fun _ _ _ => rfl) frQ.rf
def NRm (z : Zt) (x : Nat) (y : Rr) : Prop := (z 5 x < 1000 ∧ z 0 (z 5 x) = 7 ∧ y = prtR z x) ∨ y ∈ own z x
/-- addRules -/
theorem k_178 (hS : lp_shape S) (hR : lp_refs R) (ht : tko (xk tp n) (xp tp n) nt) (hT : TX (xk tp n) (xp tp n) nt z) (hcd : card2 z) (gm : ∀ x, x < z 30 0 → mN (xp tp n) (xy tp n) I L z x (oM z (z 5 x))) (h146 : ∀ k, k < z 30 3 → I 146 k = nI (z 31 k)) (hA : mRA (xp tp n) I l c) (hq : UQ l c M) (hk : k < z 30 3) (hM : mBM z M (z 31 k)) (hQ : ∀ I' l' c', mRA (xp tp n) I' l' c' → UQ l' c' (fun y => M y ∨ NRm z (z 31 k) y) → frQ I I' → Q none (S, I', L, R)) : lc (e + 4) 178 [.ref 96, .int (nI k), .int (nI (z 31 k))] (S, I, L, R) Q := by
  obtain ⟨m1, m2⟩ := mu_k hT hk
  have h03 := hT.1.2
  have h80 := hT.1.1.2.1
  have hq0 : UQ l c (fun y => M y ∨ y ∈ ([] : List Rr)) := ⟨hq.1, fun y => Iff.trans ⟨fun q => q.elim id (fun q => by cases q), Or.inl⟩ (hq.2 y)⟩
  generalize hx : z 31 k = x at *
  obtain ⟨⟨c1, c2, c3, c4, c5, c6, c7, c8, c9⟩, d1, d2, d3, d4⟩ := gm x m1
  rw [m2] at c1 c2 c3 c4 c6 d4
  obtain ⟨q1, q2, q3, -⟩ := hT.2.1.2.2.1 x (by omega) m1
  rw [(hT.2.1.1 x m1).1.2.1] at c2
  have hif : ∀ I' : lm_I, (∀ o, 99 ≤ o → o ≤ 109 → I' o = I o) → z 0 x = 5 → ∃ k1 k2, k1 < 81 ∧ k2 < 81 ∧ I' 102 k = nI k1 ∧ I' 103 k = nI k2 ∧ I' 108 k1 = nI (xp tp n (z 9 (z 2 x))) ∧ I' 108 k2 = nI (xp tp n (z 9 (z 3 x))) := fun I' hI k5 => by
    rw [if_pos (by omega)] at q1 q2
    obtain ⟨e1, e2, e3⟩ := d3 k5
    have a1 := (hT.2.1.1 _ q1.2).2.1.1
    have a2 := (hT.2.1.1 _ q2.2).2.1.1
    refine ⟨z 6 (z 1 x), z 6 (z 2 x), by omega, by omega, ?_, ?_, ?_, ?_⟩
    · rw [hI 102 (by decide) (by decide), c3, if_neg (by omega), oM_lt (by omega)]
    · rw [hI 103 (by decide) (by decide), c4, oM_lt (by omega)]
    · rw [hI 108 (by decide) (by decide)]; exact e2
    · rw [hI 108 (by decide) (by decide)]; exact e3
  rw [lc_succ, cb_178]
  have p5 := hT.2.1.2.1 x m1
  by_cases h5 : z 5 x < 1000
  · have p5' : z 5 x < z 30 0 := by
      rcases p5 with ⟨_, b⟩ | ⟨_, b, _⟩
      · omega
      · exact b
    obtain ⟨a1, a2⟩ := (hT.2.1.1 _ p5').2.1
    have k13 := (hT.2.1.1 _ p5').1.1
    rw [oM_lt h5] at c6
    have r99 : I 99 (z 6 (z 5 x)) = nI (z 0 (z 5 x)) := (gm _ p5').1.1
    by_cases h7 : z 0 (z 5 x) = 7
    · have r108 := d4 h5 h7
      have r146 : I 146 (z 6 (z 5 x)) = nI (z 5 x) := by rw [h146 _ a1, a2]
      rw [h7] at r99
      have pR : RUL z (prtR z x) := Or.inr (Or.inr ⟨x, m1, h5, h7, rfl⟩)
      simp (disch := omega) only [lk_v, lk_n, lm_isI_i, lm_isL_l, lm_isR_r, lm_vi_i, lwx_aload_0, lwx_aload_1, lwx_aload_2, lwx_aload_3, lw_getI, lw_getL, lw_getR, lw_getZ, lwx_iload_0, lwx_iload_1, lwx_iload_2, lwx_iload_3, lw_iaload, lwx_istore_0, lwx_istore_1, lwx_istore_2, lwx_istore_3, lw_bipush, lw_icmp_eq, lw_icmp_ne, lw_iconst, lwx_invokevirtual_6, lw_goto, lw_vret, List.getD_cons_zero, List.getD_cons_succ, lm_set1, lm_set2, lm_cut, List.getElem?_cons_zero, List.getElem?_cons_succ, List.set_cons_zero, List.set_cons_succ, List.length_cons, List.length_nil, List.map_cons, List.map_nil, List.sum_cons, List.sum_nil, Value.category, Nat.reduceAdd, Nat.reduceDiv, Nat.reduceMod, Nat.reduceLT, Nat.reduceLeDiff, Nat.reduceMul, Int.toNat_natCast, Int.reduceToNat, true_and, and_true, lm_rok_1, lm_rok_20, lm_rok_21, lm_rok_0, lm_args, lm_ent, List.nil_append, List.cons_append, List.replicate, Nat.reduceSub, if_false, if_true, reduceCtorEq, Nat.reduceEqDiff, Bool.or_true, Bool.true_or, Bool.or_false, Bool.false_or, Bool.and_true, Bool.true_and, BEq.rfl, beq_self_eq_true, kb_m94, kb_m92, kb_m63, kb_m46, kb_m45, kb_m42, kb_m41, kb_m33, kb_m10, kb_m9, kb_m4, kb_m3, kb_m2, zkb_6, zkb_7, zkb_8, zkb_9, zkb_10, zkb_11, zkb_12, zkb_13, zkb_14, zkb_15, zkb_16, zkb_17, zkb_18, zkb_19, zkb_20, zkb_21, zkb_22, zkb_23, zkb_24, zkb_26, zkb_32, zkb_33, zkb_34, zkb_38, zkb_40, zkb_41, zkb_43, zkb_44, zkb_45, zkb_46, zkb_48, zkb_57, zkb_58, zkb_59, zkb_60, zkb_61, zkb_62, zkb_64, zkb_80, zkb_81, zkb_91, zkb_92, zkb_93, zkb_97, zkb_100, zkb_104, zkb_122, zkb_126, ki_m8, ki_m2, ki_m1, zki_0, zki_1, zki_2, zki_3, zki_4, zki_5, zks_160, zks_168, zks_240, zks_242, zks_255, zks_264, zks_300, zks_320, zks_500, zks_600, zks_625, zks_626, zks_1200, zks_1256, zks_2000, zks_2504, zks_3040, zks_4000, zks_6000, zks_12000, kl_0, kl_1, z_lt, z_le, z_eq, z_eq0, z_eq1, z_lt0, z_le0, z_0lt, z_0le, z_add, z_sub, z_add1, z_addn, z_addm, z_mul, z_cl, z_n9, z_n9s, z_n90, z_ne9, z_ne9s, z_lt_t, z_lt_f, z_le_t, z_le_f, z_eq_t, z_eq_f, z_pus, z_pun, z_row, or_self, or_false, false_or, true_or, or_true, and_self, and_false, false_and, not_true_eq_false, not_false_eq_true, false_implies, true_implies, implies_true, ne_eq, lm_row_s, lm_row_row, lm_up_row, rc_s, Classical.not_not, Nat.add_sub_cancel, i10, z_on, rok2_0, rok2_1, ml_178, rt_178, cb_178_132, cb_178_145, cb_178_158, cb_178_171, cb_178_184, cb_178_197, cb_178_253, cb_178_267, cb_178_281, cb_178_296, cb_178_321, cb_178_336, cb_178_361, cb_178_376, cb_178_388, rc_mod hS, sh_96 hS, sh_99 hS, sh_100 hS, sh_105 hS, sh_108 hS, sh_146 hS, rf_96_10 hR, rf_96_11 hR, rf_96_16 hR, rf_96_19 hR, rf_96_74 hR, rf_96_96 hR, rf_96_100 hR, rc_mod hS, c2, c6, r99, r108, r146]
      refine k_addY (x := x) (y := prtR z x) hS hR ht hcd hA hq0 hM (fun y hy => by cases hy) pR (by unfold prtR; simp) (Or.inl ⟨rfl, rfl⟩) (by simp) rfl rfl (if_pos rfl).symm (by show xp tp n (z 9 x) = xp tp n ((4 * z 9 x + 2) / 4); rw [show (4 * z 9 x + 2) / 4 = z 9 x by omega]) (by show 2 = (4 * z 9 x + 2) % 4; omega) (fun I1 l1 c1' a1' q1' p1 f1 => ?_)
      simp (disch := omega) only [lk_v, lk_n, lm_isI_i, lm_isL_l, lm_isR_r, lm_vi_i, lwx_aload_0, lwx_aload_1, lwx_aload_2, lwx_aload_3, lw_getI, lw_getL, lw_getR, lw_getZ, lwx_iload_0, lwx_iload_1, lwx_iload_2, lwx_iload_3, lw_iaload, lwx_istore_0, lwx_istore_1, lwx_istore_2, lwx_istore_3, lw_bipush, lw_icmp_eq, lw_icmp_ne, lw_iconst, lwx_invokevirtual_6, lw_goto, lw_vret, List.getD_cons_zero, List.getD_cons_succ, lm_set1, lm_set2, lm_cut, List.getElem?_cons_zero, List.getElem?_cons_succ, List.set_cons_zero, List.set_cons_succ, List.length_cons, List.length_nil, List.map_cons, List.map_nil, List.sum_cons, List.sum_nil, Value.category, Nat.reduceAdd, Nat.reduceDiv, Nat.reduceMod, Nat.reduceLT, Nat.reduceLeDiff, Nat.reduceMul, Int.toNat_natCast, Int.reduceToNat, true_and, and_true, lm_rok_1, lm_rok_20, lm_rok_21, lm_rok_0, lm_args, lm_ent, List.nil_append, List.cons_append, List.replicate, Nat.reduceSub, if_false, if_true, reduceCtorEq, Nat.reduceEqDiff, Bool.or_true, Bool.true_or, Bool.or_false, Bool.false_or, Bool.and_true, Bool.true_and, BEq.rfl, beq_self_eq_true, kb_m94, kb_m92, kb_m63, kb_m46, kb_m45, kb_m42, kb_m41, kb_m33, kb_m10, kb_m9, kb_m4, kb_m3, kb_m2, zkb_6, zkb_7, zkb_8, zkb_9, zkb_10, zkb_11, zkb_12, zkb_13, zkb_14, zkb_15, zkb_16, zkb_17, zkb_18, zkb_19, zkb_20, zkb_21, zkb_22, zkb_23, zkb_24, zkb_26, zkb_32, zkb_33, zkb_34, zkb_38, zkb_40, zkb_41, zkb_43, zkb_44, zkb_45, zkb_46, zkb_48, zkb_57, zkb_58, zkb_59, zkb_60, zkb_61, zkb_62, zkb_64, zkb_80, zkb_81, zkb_91, zkb_92, zkb_93, zkb_97, zkb_100, zkb_104, zkb_122, zkb_126, ki_m8, ki_m2, ki_m1, zki_0, zki_1, zki_2, zki_3, zki_4, zki_5, zks_160, zks_168, zks_240, zks_242, zks_255, zks_264, zks_300, zks_320, zks_500, zks_600, zks_625, zks_626, zks_1200, zks_1256, zks_2000, zks_2504, zks_3040, zks_4000, zks_6000, zks_12000, kl_0, kl_1, z_lt, z_le, z_eq, z_eq0, z_eq1, z_lt0, z_le0, z_0lt, z_0le, z_add, z_sub, z_add1, z_addn, z_addm, z_mul, z_cl, z_n9, z_n9s, z_n90, z_ne9, z_ne9s, z_lt_t, z_lt_f, z_le_t, z_le_f, z_eq_t, z_eq_f, z_pus, z_pun, z_row, or_self, or_false, false_or, true_or, or_true, and_self, and_false, false_and, not_true_eq_false, not_false_eq_true, false_implies, true_implies, implies_true, ne_eq, lm_row_s, lm_row_row, lm_up_row, rc_s, Classical.not_not, Nat.add_sub_cancel, i10, z_on, rok2_0, rok2_1, ml_178, rt_178, cb_178_132, cb_178_145, cb_178_158, cb_178_171, cb_178_184, cb_178_197, cb_178_253, cb_178_267, cb_178_281, cb_178_296, cb_178_321, cb_178_336, cb_178_361, cb_178_376, cb_178_388]
      refine k_178b hS hR ht hT hcd a1' q1' hM (fun y hy => ?_) m1 (by omega) (by rw [f1.1 99 (by decide) (by omega)]; exact c1) (hif I1 (fun o h1 h2 => f1.1 o (by omega) (by omega))) (fun I2 l2 c2' a2' q2' p2 f2 => hQ I2 l2 c2' a2' ⟨q2'.1, fun y => Iff.trans ?_ (q2'.2 y)⟩ (f1.tr f2))
      · rw [List.nil_append, List.mem_singleton] at hy
        rw [hy]
        exact ⟨pR, rfl⟩
      · show (M y ∨ NRm z x y) ↔ (M y ∨ y ∈ [] ++ [prtR z x] ++ own z x)
        unfold NRm
        rw [List.nil_append, List.mem_append, List.mem_singleton]
        constructor
        · rintro (h | ⟨-, -, h⟩ | h)
          · exact Or.inl h
          · exact Or.inr (Or.inl h)
          · exact Or.inr (Or.inr h)
        · rintro (h | h | h)
          · exact Or.inl h
          · exact Or.inr (Or.inl ⟨h5, h7, h⟩)
          · exact Or.inr (Or.inr h)
    · simp (disch := omega) only [lk_v, lk_n, lm_isI_i, lm_isL_l, lm_isR_r, lm_vi_i, lwx_aload_0, lwx_aload_1, lwx_aload_2, lwx_aload_3, lw_getI, lw_getL, lw_getR, lw_getZ, lwx_iload_0, lwx_iload_1, lwx_iload_2, lwx_iload_3, lw_iaload, lwx_istore_0, lwx_istore_1, lwx_istore_2, lwx_istore_3, lw_bipush, lw_icmp_eq, lw_icmp_ne, lw_iconst, lwx_invokevirtual_6, lw_goto, lw_vret, List.getD_cons_zero, List.getD_cons_succ, lm_set1, lm_set2, lm_cut, List.getElem?_cons_zero, List.getElem?_cons_succ, List.set_cons_zero, List.set_cons_succ, List.length_cons, List.length_nil, List.map_cons, List.map_nil, List.sum_cons, List.sum_nil, Value.category, Nat.reduceAdd, Nat.reduceDiv, Nat.reduceMod, Nat.reduceLT, Nat.reduceLeDiff, Nat.reduceMul, Int.toNat_natCast, Int.reduceToNat, true_and, and_true, lm_rok_1, lm_rok_20, lm_rok_21, lm_rok_0, lm_args, lm_ent, List.nil_append, List.cons_append, List.replicate, Nat.reduceSub, if_false, if_true, reduceCtorEq, Nat.reduceEqDiff, Bool.or_true, Bool.true_or, Bool.or_false, Bool.false_or, Bool.and_true, Bool.true_and, BEq.rfl, beq_self_eq_true, kb_m94, kb_m92, kb_m63, kb_m46, kb_m45, kb_m42, kb_m41, kb_m33, kb_m10, kb_m9, kb_m4, kb_m3, kb_m2, zkb_6, zkb_7, zkb_8, zkb_9, zkb_10, zkb_11, zkb_12, zkb_13, zkb_14, zkb_15, zkb_16, zkb_17, zkb_18, zkb_19, zkb_20, zkb_21, zkb_22, zkb_23, zkb_24, zkb_26, zkb_32, zkb_33, zkb_34, zkb_38, zkb_40, zkb_41, zkb_43, zkb_44, zkb_45, zkb_46, zkb_48, zkb_57, zkb_58, zkb_59, zkb_60, zkb_61, zkb_62, zkb_64, zkb_80, zkb_81, zkb_91, zkb_92, zkb_93, zkb_97, zkb_100, zkb_104, zkb_122, zkb_126, ki_m8, ki_m2, ki_m1, zki_0, zki_1, zki_2, zki_3, zki_4, zki_5, zks_160, zks_168, zks_240, zks_242, zks_255, zks_264, zks_300, zks_320, zks_500, zks_600, zks_625, zks_626, zks_1200, zks_1256, zks_2000, zks_2504, zks_3040, zks_4000, zks_6000, zks_12000, kl_0, kl_1, z_lt, z_le, z_eq, z_eq0, z_eq1, z_lt0, z_le0, z_0lt, z_0le, z_add, z_sub, z_add1, z_addn, z_addm, z_mul, z_cl, z_n9, z_n9s, z_n90, z_ne9, z_ne9s, z_lt_t, z_lt_f, z_le_t, z_le_f, z_eq_t, z_eq_f, z_pus, z_pun, z_row, or_self, or_false, false_or, true_or, or_true, and_self, and_false, false_and, not_true_eq_false, not_false_eq_true, false_implies, true_implies, implies_true, ne_eq, lm_row_s, lm_row_row, lm_up_row, rc_s, Classical.not_not, Nat.add_sub_cancel, i10, z_on, rok2_0, rok2_1, ml_178, rt_178, cb_178_132, cb_178_145, cb_178_158, cb_178_171, cb_178_184, cb_178_197, cb_178_253, cb_178_267, cb_178_281, cb_178_296, cb_178_321, cb_178_336, cb_178_361, cb_178_376, cb_178_388, rc_mod hS, sh_96 hS, sh_99 hS, sh_100 hS, sh_105 hS, sh_108 hS, sh_146 hS, rf_96_10 hR, rf_96_11 hR, rf_96_16 hR, rf_96_19 hR, rf_96_74 hR, rf_96_96 hR, rf_96_100 hR, rc_mod hS, c2, c6, r99]
      refine k_178b hS hR ht hT hcd hA hq0 hM (fun y hy => by cases hy) m1 (by omega) c1 (hif I (fun o _ _ => rfl)) (fun I2 l2 c2' a2' q2' p2 f2 => hQ I2 l2 c2' a2' ⟨q2'.1, fun y => Iff.trans ?_ (q2'.2 y)⟩ f2)
      show (M y ∨ NRm z x y) ↔ (M y ∨ y ∈ [] ++ own z x)
      unfold NRm
      rw [List.nil_append]
      constructor
      · rintro (h | ⟨-, h, -⟩ | h)
        · exact Or.inl h
        · exact absurd h h7
        · exact Or.inr h
      · rintro (h | h)
        · exact Or.inl h
        · exact Or.inr (Or.inr h)
  · have e5 : z 5 x = 1000 := by
      rcases p5 with ⟨_, b⟩ | ⟨_, b, _⟩
      · exact b
      · omega
    rw [e5, oM_no] at c6
    simp (disch := omega) only [lk_v, lk_n, lm_isI_i, lm_isL_l, lm_isR_r, lm_vi_i, lwx_aload_0, lwx_aload_1, lwx_aload_2, lwx_aload_3, lw_getI, lw_getL, lw_getR, lw_getZ, lwx_iload_0, lwx_iload_1, lwx_iload_2, lwx_iload_3, lw_iaload, lwx_istore_0, lwx_istore_1, lwx_istore_2, lwx_istore_3, lw_bipush, lw_icmp_eq, lw_icmp_ne, lw_iconst, lwx_invokevirtual_6, lw_goto, lw_vret, List.getD_cons_zero, List.getD_cons_succ, lm_set1, lm_set2, lm_cut, List.getElem?_cons_zero, List.getElem?_cons_succ, List.set_cons_zero, List.set_cons_succ, List.length_cons, List.length_nil, List.map_cons, List.map_nil, List.sum_cons, List.sum_nil, Value.category, Nat.reduceAdd, Nat.reduceDiv, Nat.reduceMod, Nat.reduceLT, Nat.reduceLeDiff, Nat.reduceMul, Int.toNat_natCast, Int.reduceToNat, true_and, and_true, lm_rok_1, lm_rok_20, lm_rok_21, lm_rok_0, lm_args, lm_ent, List.nil_append, List.cons_append, List.replicate, Nat.reduceSub, if_false, if_true, reduceCtorEq, Nat.reduceEqDiff, Bool.or_true, Bool.true_or, Bool.or_false, Bool.false_or, Bool.and_true, Bool.true_and, BEq.rfl, beq_self_eq_true, kb_m94, kb_m92, kb_m63, kb_m46, kb_m45, kb_m42, kb_m41, kb_m33, kb_m10, kb_m9, kb_m4, kb_m3, kb_m2, zkb_6, zkb_7, zkb_8, zkb_9, zkb_10, zkb_11, zkb_12, zkb_13, zkb_14, zkb_15, zkb_16, zkb_17, zkb_18, zkb_19, zkb_20, zkb_21, zkb_22, zkb_23, zkb_24, zkb_26, zkb_32, zkb_33, zkb_34, zkb_38, zkb_40, zkb_41, zkb_43, zkb_44, zkb_45, zkb_46, zkb_48, zkb_57, zkb_58, zkb_59, zkb_60, zkb_61, zkb_62, zkb_64, zkb_80, zkb_81, zkb_91, zkb_92, zkb_93, zkb_97, zkb_100, zkb_104, zkb_122, zkb_126, ki_m8, ki_m2, ki_m1, zki_0, zki_1, zki_2, zki_3, zki_4, zki_5, zks_160, zks_168, zks_240, zks_242, zks_255, zks_264, zks_300, zks_320, zks_500, zks_600, zks_625, zks_626, zks_1200, zks_1256, zks_2000, zks_2504, zks_3040, zks_4000, zks_6000, zks_12000, kl_0, kl_1, z_lt, z_le, z_eq, z_eq0, z_eq1, z_lt0, z_le0, z_0lt, z_0le, z_add, z_sub, z_add1, z_addn, z_addm, z_mul, z_cl, z_n9, z_n9s, z_n90, z_ne9, z_ne9s, z_lt_t, z_lt_f, z_le_t, z_le_f, z_eq_t, z_eq_f, z_pus, z_pun, z_row, or_self, or_false, false_or, true_or, or_true, and_self, and_false, false_and, not_true_eq_false, not_false_eq_true, false_implies, true_implies, implies_true, ne_eq, lm_row_s, lm_row_row, lm_up_row, rc_s, Classical.not_not, Nat.add_sub_cancel, i10, z_on, rok2_0, rok2_1, ml_178, rt_178, cb_178_132, cb_178_145, cb_178_158, cb_178_171, cb_178_184, cb_178_197, cb_178_253, cb_178_267, cb_178_281, cb_178_296, cb_178_321, cb_178_336, cb_178_361, cb_178_376, cb_178_388, rc_mod hS, sh_96 hS, sh_99 hS, sh_100 hS, sh_105 hS, sh_108 hS, sh_146 hS, rf_96_10 hR, rf_96_11 hR, rf_96_16 hR, rf_96_19 hR, rf_96_74 hR, rf_96_96 hR, rf_96_100 hR, rc_mod hS, c2, c6, eq_self]
    refine k_178b hS hR ht hT hcd hA hq0 hM (fun y hy => by cases hy) m1 (by omega) c1 (hif I (fun o _ _ => rfl)) (fun I2 l2 c2' a2' q2' p2 f2 => hQ I2 l2 c2' a2' ⟨q2'.1, fun y => Iff.trans ?_ (q2'.2 y)⟩ f2)
    show (M y ∨ NRm z x y) ↔ (M y ∨ y ∈ [] ++ own z x)
    unfold NRm
    rw [List.nil_append]
    constructor
    · rintro (h | ⟨h, -⟩ | h)
      · exact Or.inl h
      · exact absurd h h5
      · exact Or.inr h
    · rintro (h | h)
      · exact Or.inl h
      · exact Or.inr (Or.inr h)
end SORT2
