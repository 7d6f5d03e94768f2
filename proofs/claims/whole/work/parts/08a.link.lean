/-! ===== the reference's cells: link, open, end ===== -/
def bI (P : Nat → Nat) (j : Nat) : Int32 := if P j = j then -9 else nI (P j)
/-- cells without their memory -/
def gr (n : Nat) (P So Le Ri dp : Nat → Nat) (u : Nat) : Prop := gok n So Le Ri ∧ fo P n dp u ∧ u + rc P n = n ∧ cl n P So Le Ri
def mr (I : lm_I) (n : Nat) (P So Le Ri : Nat → Nat) : Prop := I 96 75 = nI n ∧ n ≤ 6000 ∧ (∀ j, j < n → I 150 j = bI P j) ∧ (∀ j, j < n → I 147 j = nI (So j)) ∧ (∀ j, j < n → I 148 j = pI (So j) 4 (Le j)) ∧ (∀ j, j < n → I 149 j = pI (So j) 5 (Ri j))
def mg (I : lm_I) (n : Nat) (P So Le Ri dp : Nat → Nat) (u : Nat) : Prop := mr I n P So Le Ri ∧ gr n P So Le Ri dp u
/-- what the reference's solver leaves alone -/
def frM (I I' : lm_I) : Prop := (∀ o, (o < 96 ∨ (97 ≤ o ∧ o < 147) ∨ 153 ≤ o) → I' o = I o) ∧ ∀ k, k ≠ 75 → k ≠ 80 → k ≠ 82 → I' 96 k = I 96 k
theorem frM.rf {I : lm_I} : frM I I := ⟨fun _ _ => rfl, fun _ _ _ _ => rfl⟩
theorem frM.tr {I I1 I2 : lm_I} (h : frM I I1) (h2 : frM I1 I2) : frM I I2 := ⟨fun o ho => (h2.1 o ho).trans (h.1 o ho), fun k a b c => (h2.2 k a b c).trans (h.2 k a b c)⟩
theorem gr_cell {n u : Nat} {P So Le Ri dp : Nat → Nat} (h : gr n P So Le Ri dp u) (hn : n ≤ 9000) {s a b : Nat} (hs : s ≤ 6) (ha : 4 ≤ s → a ≤ n) (hb : 5 ≤ s → b ≤ n) : gr (n + 1) (ext P n n) (ext So n s) (ext Le n a) (ext Ri n b) (ext dp n 0) u := by
  obtain ⟨hg, hf, hu, hcl⟩ := h
  refine ⟨fun j hj => ?_, fun j hj => ?_, ?_, fun j hj hs => ?_⟩
  · by_cases q : j = n
    · subst q; rw [ext_s, ext_s, ext_s]
      exact ⟨hs, fun z => by have := ha z; omega, fun z => by have := hb z; omega⟩
    · rw [ext_n q, ext_n q, ext_n q]
      have := hg j (by omega)
      exact ⟨this.1, fun z => by have := this.2.1 z; omega, fun z => by have := this.2.2 z; omega⟩
  · by_cases q : j = n
    · subst q; rw [ext_s, ext_s]
      exact ⟨by omega, fun _ => rfl, fun z => absurd rfl z, Nat.zero_le _⟩
    · have h1 := hf j (by omega)
      rw [ext_n q, ext_n q, ext_lt h1.1]
      exact ⟨by omega, h1.2⟩
  · show u + (rc (ext P n n) n + (if ext P n n n = n then 1 else 0)) = n + 1
    rw [ext_s, if_pos rfl, rc_congr (P := P) (fun j hj => by rw [ext_lt hj])]
    omega
  · have hu2 : u ≤ 9999 := by omega
    by_cases q : j = n
    · subst q
      have e1 : rt (ext P j j) j = j := rt_self ext_s
      rw [e1]
      exact ⟨rfl, fun _ => rfl, fun _ => rfl⟩
    · have hj2 : j < n := by omega
      rw [ext_n q] at hs ⊢
      have hr : ∀ i, i < n → rt (ext P n n) i = rt P i := fun i hi => rt_ext hf hi
      have hrj := rt_lt hf hu2 hj2
      obtain ⟨c1, c2, c3⟩ := hcl j hj2 hs
      have g1 := hg j hj2
      have g2 := hg _ hrj
      rw [c1] at g2
      rw [hr j hj2, ext_lt hrj, ext_n q, ext_n q, ext_lt hrj, ext_lt hrj]
      exact ⟨c1, fun z => by rw [hr _ (g1.2.1 z), hr _ (g2.2.1 z)]; exact c2 z, fun z => by rw [hr _ (g1.2.2 z), hr _ (g2.2.2 z)]; exact c3 z⟩
section MODEL
variable {e n u : Nat} {S : lm_S} {I : lm_I} {L : lm_L} {R : lm_R} {Q : Option Value → lm_M → Prop} {P So Le Ri dp : Nat → Nat}
theorem mg_u (g : mg I n P So Le Ri dp u) : n ≤ 6000 ∧ u ≤ 6000 := by
  have h1 := g.1.2.1
  have h2 := g.2.2.2.1
  omega
theorem mg_fr {I' : lm_I} (g : mg I n P So Le Ri dp u) (h1 : I' 96 75 = I 96 75) (h2 : ∀ o, 147 ≤ o → o ≤ 150 → I' o = I o) : mg I' n P So Le Ri dp u := by
  obtain ⟨⟨a, b, c, d, f, k⟩, hg⟩ := g
  refine ⟨⟨h1.trans a, b, ?_, ?_, ?_, ?_⟩, hg⟩
  · rw [h2 150 (by decide) (by decide)]; exact c
  · rw [h2 147 (by decide) (by decide)]; exact d
  · rw [h2 148 (by decide) (by decide)]; exact f
  · rw [h2 149 (by decide) (by decide)]; exact k
def linkI (I : lm_I) (n : Nat) (s l r : Int32) : lm_I := lm_row (lm_row (lm_row (lm_row (lm_row I 147 (upd (I 147) n s)) 148 (upd (I 148) n l)) 149 (upd (I 149) n r)) 150 (upd (I 150) n (-9))) 96 (upd (I 96) 75 (nI (n + 1)))
/-- link -/
theorem c_182 (hS : lp_shape S) (hR : lp_refs R) {s l r : Int32} (hn : I 96 75 = nI n) (hn1 : n < 6000) : lc (e + 1) 182 [.ref 96, .int s, .int l, .int r] (S, I, L, R) Q = Q (some (.int (nI n))) (S, linkI I n s l r, L, R) := by
  rw [lc_succ, cb_182]
  simp (disch := omega) only [lk_v, lk_n, lm_isI_i, lm_isL_l, lm_isR_r, lm_vi_i, lwx_aload_0, lwx_aload_1, lwx_aload_2, lwx_aload_3, lw_getI, lw_getL, lw_getR, lw_getZ, lwx_iload_0, lwx_iload_1, lwx_iload_2, lwx_iload_3, lw_iastore, lw_bipush, lw_dup_i, lw_dup_r, lw_iconst, lw_iadd, lw_putI, lw_putL, lw_putR, lw_putZ, lw_isub, lw_iret, List.getD_cons_zero, List.getD_cons_succ, lm_set1, lm_set2, lm_cut, List.getElem?_cons_zero, List.getElem?_cons_succ, List.set_cons_zero, List.set_cons_succ, List.length_cons, List.length_nil, List.map_cons, List.map_nil, List.sum_cons, List.sum_nil, Value.category, Nat.reduceAdd, Nat.reduceDiv, Nat.reduceMod, Nat.reduceLT, Nat.reduceLeDiff, Nat.reduceMul, Int.toNat_natCast, Int.reduceToNat, true_and, and_true, lm_rok_1, lm_rok_20, lm_rok_21, lm_rok_0, lm_args, lm_ent, List.nil_append, List.cons_append, List.replicate, Nat.reduceSub, if_false, if_true, reduceCtorEq, Nat.reduceEqDiff, Bool.or_true, Bool.true_or, Bool.or_false, Bool.false_or, Bool.and_true, Bool.true_and, BEq.rfl, beq_self_eq_true, kb_m94, kb_m92, kb_m63, kb_m46, kb_m45, kb_m42, kb_m41, kb_m33, kb_m10, kb_m9, kb_m4, kb_m3, kb_m2, zkb_6, zkb_7, zkb_8, zkb_9, zkb_10, zkb_11, zkb_12, zkb_13, zkb_14, zkb_15, zkb_16, zkb_17, zkb_18, zkb_19, zkb_20, zkb_21, zkb_22, zkb_23, zkb_24, zkb_26, zkb_32, zkb_33, zkb_34, zkb_38, zkb_40, zkb_41, zkb_43, zkb_44, zkb_45, zkb_46, zkb_48, zkb_57, zkb_58, zkb_59, zkb_60, zkb_61, zkb_62, zkb_64, zkb_80, zkb_81, zkb_91, zkb_92, zkb_93, zkb_97, zkb_100, zkb_104, zkb_122, zkb_126, ki_m8, ki_m2, ki_m1, zki_0, zki_1, zki_2, zki_3, zki_4, zki_5, zks_160, zks_168, zks_240, zks_242, zks_255, zks_264, zks_300, zks_320, zks_500, zks_600, zks_625, zks_626, zks_1200, zks_1256, zks_2000, zks_2504, zks_3040, zks_4000, zks_6000, zks_12000, kl_0, kl_1, z_lt, z_le, z_eq, z_eq0, z_eq1, z_lt0, z_le0, z_0lt, z_0le, z_add, z_sub, z_add1, z_addn, z_addm, z_mul, z_cl, z_n9, z_n9s, z_n90, z_ne9, z_ne9s, z_lt_t, z_lt_f, z_le_t, z_le_f, z_eq_t, z_eq_f, z_pus, z_pun, z_row, or_self, or_false, false_or, true_or, or_true, and_self, and_false, false_and, not_true_eq_false, not_false_eq_true, false_implies, true_implies, implies_true, ne_eq, lm_row_s, lm_row_row, lm_up_row, rc_s, Classical.not_not, Nat.add_sub_cancel, i10, z_on, ml_182, rt_182, rc_mod hS, sh_96 hS, sh_147 hS, sh_148 hS, sh_149 hS, sh_150 hS, rf_96_76 hR, rf_96_77 hR, rf_96_78 hR, rf_96_79 hR, rf_96_96 hR, hn]
  rfl
theorem linkI_mg (g : mg I n P So Le Ri dp u) (hn : n < 6000) {s a b : Nat} (hs : s ≤ 6) (ha : 4 ≤ s → a ≤ n) (hb : 5 ≤ s → b ≤ n) : mg (linkI I n (nI s) (pI s 4 a) (pI s 5 b)) (n + 1) (ext P n n) (ext So n s) (ext Le n a) (ext Ri n b) (ext dp n 0) u := by
  obtain ⟨⟨h75, hn1, h150, h147, h148, h149⟩, hg⟩ := g
  refine ⟨⟨?_, by omega, fun j hj => ?_, fun j hj => ?_, fun j hj => ?_, fun j hj => ?_⟩, gr_cell hg (by omega) hs ha hb⟩
  · unfold linkI; rw [lm_row_s, pk_us]
  · unfold linkI
    rw [lm_row_n (by decide), lm_row_s]
    unfold bI
    by_cases q : j = n
    · subst q; rw [pk_us, ext_s, if_pos rfl]
    · rw [pk_un q, ext_n q]; exact h150 j (by omega)
  · unfold linkI
    rw [lm_row_n (by decide), lm_row_n (by decide), lm_row_n (by decide), lm_row_n (by decide), lm_row_s]
    by_cases q : j = n
    · subst q; rw [pk_us, ext_s]
    · rw [pk_un q, ext_n q]; exact h147 j (by omega)
  · unfold linkI
    rw [lm_row_n (by decide), lm_row_n (by decide), lm_row_n (by decide), lm_row_s]
    by_cases q : j = n
    · subst q; rw [pk_us, ext_s, ext_s]
    · rw [pk_un q, ext_n q, ext_n q]; exact h148 j (by omega)
  · unfold linkI
    rw [lm_row_n (by decide), lm_row_n (by decide), lm_row_s]
    by_cases q : j = n
    · subst q; rw [pk_us, ext_s, ext_s]
    · rw [pk_un q, ext_n q, ext_n q]; exact h149 j (by omega)
theorem linkI_fr {s l r : Int32} : frM I (linkI I n s l r) ∧ linkI I n s l r 96 82 = I 96 82 := by
  refine ⟨⟨fun o ho => ?_, fun k h1 h2 h3 => ?_⟩, ?_⟩
  · unfold linkI
    rw [lm_row_n (by omega), lm_row_n (by omega), lm_row_n (by omega), lm_row_n (by omega), lm_row_n (by omega)]
  · unfold linkI; rw [lm_row_s, pk_un h1]
  · unfold linkI; rw [lm_row_s, pk_un (by decide)]
theorem k_182 (hS : lp_shape S) (hR : lp_refs R) (g : mg I n P So Le Ri dp u) (hn : n < 6000) (s a b : Nat) (hs : s ≤ 6) (ha : 4 ≤ s → a ≤ n) (hb : 5 ≤ s → b ≤ n)
    (k : ∀ I1, mg I1 (n + 1) (ext P n n) (ext So n s) (ext Le n a) (ext Ri n b) (ext dp n 0) u → frM I I1 → I1 96 82 = I 96 82 → Q (some (.int (nI n))) (S, I1, L, R)) : lc (e + 1) 182 [.ref 96, .int (nI s), .int (pI s 4 a), .int (pI s 5 b)] (S, I, L, R) Q := by
  rw [c_182 hS hR g.1.1 hn]
  exact k _ (linkI_mg g hn hs ha hb) linkI_fr.1 linkI_fr.2
/-- open -/
theorem k_183 (hS : lp_shape S) (hR : lp_refs R) (g : mg I n P So Le Ri dp u) (hn : n < 6000)
    (k : ∀ I1, mg I1 (n + 1) (ext P n n) (ext So n 0) (ext Le n 0) (ext Ri n 0) (ext dp n 0) u → frM I I1 → I1 96 82 = I 96 82 → Q (some (.int (nI n))) (S, I1, L, R)) : lc (e + 2) 183 [.ref 96] (S, I, L, R) Q := by
  rw [lc_succ, cb_183]
  simp (disch := omega) only [lk_v, lk_n, lm_isI_i, lm_isL_l, lm_isR_r, lm_vi_i, lwx_aload_0, lwx_aload_1, lwx_aload_2, lwx_aload_3, lw_iconst, lw_bipush, lwx_invokevirtual_4, lw_iret, List.getD_cons_zero, List.getD_cons_succ, lm_set1, lm_set2, lm_cut, List.getElem?_cons_zero, List.getElem?_cons_succ, List.set_cons_zero, List.set_cons_succ, List.length_cons, List.length_nil, List.map_cons, List.map_nil, List.sum_cons, List.sum_nil, Value.category, Nat.reduceAdd, Nat.reduceDiv, Nat.reduceMod, Nat.reduceLT, Nat.reduceLeDiff, Nat.reduceMul, Int.toNat_natCast, Int.reduceToNat, true_and, and_true, lm_rok_1, lm_rok_20, lm_rok_21, lm_rok_0, lm_args, lm_ent, List.nil_append, List.cons_append, List.replicate, Nat.reduceSub, if_false, if_true, reduceCtorEq, Nat.reduceEqDiff, Bool.or_true, Bool.true_or, Bool.or_false, Bool.false_or, Bool.and_true, Bool.true_and, BEq.rfl, beq_self_eq_true, kb_m94, kb_m92, kb_m63, kb_m46, kb_m45, kb_m42, kb_m41, kb_m33, kb_m10, kb_m9, kb_m4, kb_m3, kb_m2, zkb_6, zkb_7, zkb_8, zkb_9, zkb_10, zkb_11, zkb_12, zkb_13, zkb_14, zkb_15, zkb_16, zkb_17, zkb_18, zkb_19, zkb_20, zkb_21, zkb_22, zkb_23, zkb_24, zkb_26, zkb_32, zkb_33, zkb_34, zkb_38, zkb_40, zkb_41, zkb_43, zkb_44, zkb_45, zkb_46, zkb_48, zkb_57, zkb_58, zkb_59, zkb_60, zkb_61, zkb_62, zkb_64, zkb_80, zkb_81, zkb_91, zkb_92, zkb_93, zkb_97, zkb_100, zkb_104, zkb_122, zkb_126, ki_m8, ki_m2, ki_m1, zki_0, zki_1, zki_2, zki_3, zki_4, zki_5, zks_160, zks_168, zks_240, zks_242, zks_255, zks_264, zks_300, zks_320, zks_500, zks_600, zks_625, zks_626, zks_1200, zks_1256, zks_2000, zks_2504, zks_3040, zks_4000, zks_6000, zks_12000, kl_0, kl_1, z_lt, z_le, z_eq, z_eq0, z_eq1, z_lt0, z_le0, z_0lt, z_0le, z_add, z_sub, z_add1, z_addn, z_addm, z_mul, z_cl, z_n9, z_n9s, z_n90, z_ne9, z_ne9s, z_lt_t, z_lt_f, z_le_t, z_le_f, z_eq_t, z_eq_f, z_pus, z_pun, z_row, or_self, or_false, false_or, true_or, or_true, and_self, and_false, false_and, not_true_eq_false, not_false_eq_true, false_implies, true_implies, implies_true, ne_eq, lm_row_s, lm_row_row, lm_up_row, rc_s, Classical.not_not, Nat.add_sub_cancel, i10, z_on, ml_183, rt_183, rc_mod hS]
  refine k_182 hS hR g hn 0 0 0 (by omega) (by omega) (by omega) (fun I1 h1 h2 h3 => ?_)
  simp (disch := omega) only [lk_v, lk_n, lm_isI_i, lm_isL_l, lm_isR_r, lm_vi_i, lwx_aload_0, lwx_aload_1, lwx_aload_2, lwx_aload_3, lw_iconst, lw_bipush, lwx_invokevirtual_4, lw_iret, List.getD_cons_zero, List.getD_cons_succ, lm_set1, lm_set2, lm_cut, List.getElem?_cons_zero, List.getElem?_cons_succ, List.set_cons_zero, List.set_cons_succ, List.length_cons, List.length_nil, List.map_cons, List.map_nil, List.sum_cons, List.sum_nil, Value.category, Nat.reduceAdd, Nat.reduceDiv, Nat.reduceMod, Nat.reduceLT, Nat.reduceLeDiff, Nat.reduceMul, Int.toNat_natCast, Int.reduceToNat, true_and, and_true, lm_rok_1, lm_rok_20, lm_rok_21, lm_rok_0, lm_args, lm_ent, List.nil_append, List.cons_append, List.replicate, Nat.reduceSub, if_false, if_true, reduceCtorEq, Nat.reduceEqDiff, Bool.or_true, Bool.true_or, Bool.or_false, Bool.false_or, Bool.and_true, Bool.true_and, BEq.rfl, beq_self_eq_true, kb_m94, kb_m92, kb_m63, kb_m46, kb_m45, kb_m42, kb_m41, kb_m33, kb_m10, kb_m9, kb_m4, kb_m3, kb_m2, zkb_6, zkb_7, zkb_8, zkb_9, zkb_10, zkb_11, zkb_12, zkb_13, zkb_14, zkb_15, zkb_16, zkb_17, zkb_18, zkb_19, zkb_20, zkb_21, zkb_22, zkb_23, zkb_24, zkb_26, zkb_32, zkb_33, zkb_34, zkb_38, zkb_40, zkb_41, zkb_43, zkb_44, zkb_45, zkb_46, zkb_48, zkb_57, zkb_58, zkb_59, zkb_60, zkb_61, zkb_62, zkb_64, zkb_80, zkb_81, zkb_91, zkb_92, zkb_93, zkb_97, zkb_100, zkb_104, zkb_122, zkb_126, ki_m8, ki_m2, ki_m1, zki_0, zki_1, zki_2, zki_3, zki_4, zki_5, zks_160, zks_168, zks_240, zks_242, zks_255, zks_264, zks_300, zks_320, zks_500, zks_600, zks_625, zks_626, zks_1200, zks_1256, zks_2000, zks_2504, zks_3040, zks_4000, zks_6000, zks_12000, kl_0, kl_1, z_lt, z_le, z_eq, z_eq0, z_eq1, z_lt0, z_le0, z_0lt, z_0le, z_add, z_sub, z_add1, z_addn, z_addm, z_mul, z_cl, z_n9, z_n9s, z_n90, z_ne9, z_ne9s, z_lt_t, z_lt_f, z_le_t, z_le_f, z_eq_t, z_eq_f, z_pus, z_pun, z_row, or_self, or_false, false_or, true_or, or_true, and_self, and_false, false_and, not_true_eq_false, not_false_eq_true, false_implies, true_implies, implies_true, ne_eq, lm_row_s, lm_row_row, lm_up_row, rc_s, Classical.not_not, Nat.add_sub_cancel, i10, z_on, ml_183, rt_183]
  exact k I1 h1 h2 h3
theorem bI_root {j : Nat} (h : P j = j) : bI P j = -9 := if_pos h
theorem bI_up {j : Nat} (h : P j ≠ j) : bI P j = nI (P j) := if_neg h
/-- end: the loop -/
theorem l_184 (hS : lp_shape S) (hR : lp_refs R) (g : mr I n P So Le Ri) (hf : fo P n dp u) (hu : u ≤ 6000) {t0 : Int32} : ∀ (m k : Nat), dp k ≤ m → k < n → lw e 184 (lm_J 184 2) [.ref 96, .int t0, .int (nI k)] [] (S, I, L, R) Q = Q (some (.int (nI (rt P k)))) (S, I, L, R) := by
  obtain ⟨h75, hn1, h150, h147, h148, h149⟩ := g
  intro m
  induction m with
  | zero =>
    intro k hd hk
    have hr : P k = k := Classical.byContradiction fun q => by have := (hf k hk).2.2.1 q; omega
    have h1 := (h150 k hk).trans (bI_root hr)
    rw [cb_184_2]
    simp (disch := omega) only [lk_v, lk_n, lm_isI_i, lm_isL_l, lm_isR_r, lm_vi_i, lwx_iload_0, lwx_iload_1, lwx_iload_2, lwx_iload_3, lwx_istore_0, lwx_istore_1, lwx_istore_2, lwx_istore_3, lwx_aload_0, lwx_aload_1, lwx_aload_2, lwx_aload_3, lw_getI, lw_getL, lw_getR, lw_getZ, lw_iaload, lw_bipush, lw_icmp_eq, lw_goto, lw_iret, List.getD_cons_zero, List.getD_cons_succ, lm_set1, lm_set2, lm_cut, List.getElem?_cons_zero, List.getElem?_cons_succ, List.set_cons_zero, List.set_cons_succ, List.length_cons, List.length_nil, List.map_cons, List.map_nil, List.sum_cons, List.sum_nil, Value.category, Nat.reduceAdd, Nat.reduceDiv, Nat.reduceMod, Nat.reduceLT, Nat.reduceLeDiff, Nat.reduceMul, Int.toNat_natCast, Int.reduceToNat, true_and, and_true, lm_rok_1, lm_rok_20, lm_rok_21, lm_rok_0, lm_args, lm_ent, List.nil_append, List.cons_append, List.replicate, Nat.reduceSub, if_false, if_true, reduceCtorEq, Nat.reduceEqDiff, Bool.or_true, Bool.true_or, Bool.or_false, Bool.false_or, Bool.and_true, Bool.true_and, BEq.rfl, beq_self_eq_true, kb_m94, kb_m92, kb_m63, kb_m46, kb_m45, kb_m42, kb_m41, kb_m33, kb_m10, kb_m9, kb_m4, kb_m3, kb_m2, zkb_6, zkb_7, zkb_8, zkb_9, zkb_10, zkb_11, zkb_12, zkb_13, zkb_14, zkb_15, zkb_16, zkb_17, zkb_18, zkb_19, zkb_20, zkb_21, zkb_22, zkb_23, zkb_24, zkb_26, zkb_32, zkb_33, zkb_34, zkb_38, zkb_40, zkb_41, zkb_43, zkb_44, zkb_45, zkb_46, zkb_48, zkb_57, zkb_58, zkb_59, zkb_60, zkb_61, zkb_62, zkb_64, zkb_80, zkb_81, zkb_91, zkb_92, zkb_93, zkb_97, zkb_100, zkb_104, zkb_122, zkb_126, ki_m8, ki_m2, ki_m1, zki_0, zki_1, zki_2, zki_3, zki_4, zki_5, zks_160, zks_168, zks_240, zks_242, zks_255, zks_264, zks_300, zks_320, zks_500, zks_600, zks_625, zks_626, zks_1200, zks_1256, zks_2000, zks_2504, zks_3040, zks_4000, zks_6000, zks_12000, kl_0, kl_1, z_lt, z_le, z_eq, z_eq0, z_eq1, z_lt0, z_le0, z_0lt, z_0le, z_add, z_sub, z_add1, z_addn, z_addm, z_mul, z_cl, z_n9, z_n9s, z_n90, z_ne9, z_ne9s, z_lt_t, z_lt_f, z_le_t, z_le_f, z_eq_t, z_eq_f, z_pus, z_pun, z_row, or_self, or_false, false_or, true_or, or_true, and_self, and_false, false_and, not_true_eq_false, not_false_eq_true, false_implies, true_implies, implies_true, ne_eq, lm_row_s, lm_row_row, lm_up_row, rc_s, Classical.not_not, Nat.add_sub_cancel, i10, z_on, ml_184, rt_184, cb_184_23, rc_mod hS, sh_96 hS, sh_150 hS, rf_96_79 hR, rf_96_96 hR, h1, rt_self hr]
  | succ m ih =>
    intro k hd hk
    by_cases hr : P k = k
    · have h1 := (h150 k hk).trans (bI_root hr)
      rw [cb_184_2]
      simp (disch := omega) only [lk_v, lk_n, lm_isI_i, lm_isL_l, lm_isR_r, lm_vi_i, lwx_iload_0, lwx_iload_1, lwx_iload_2, lwx_iload_3, lwx_istore_0, lwx_istore_1, lwx_istore_2, lwx_istore_3, lwx_aload_0, lwx_aload_1, lwx_aload_2, lwx_aload_3, lw_getI, lw_getL, lw_getR, lw_getZ, lw_iaload, lw_bipush, lw_icmp_eq, lw_goto, lw_iret, List.getD_cons_zero, List.getD_cons_succ, lm_set1, lm_set2, lm_cut, List.getElem?_cons_zero, List.getElem?_cons_succ, List.set_cons_zero, List.set_cons_succ, List.length_cons, List.length_nil, List.map_cons, List.map_nil, List.sum_cons, List.sum_nil, Value.category, Nat.reduceAdd, Nat.reduceDiv, Nat.reduceMod, Nat.reduceLT, Nat.reduceLeDiff, Nat.reduceMul, Int.toNat_natCast, Int.reduceToNat, true_and, and_true, lm_rok_1, lm_rok_20, lm_rok_21, lm_rok_0, lm_args, lm_ent, List.nil_append, List.cons_append, List.replicate, Nat.reduceSub, if_false, if_true, reduceCtorEq, Nat.reduceEqDiff, Bool.or_true, Bool.true_or, Bool.or_false, Bool.false_or, Bool.and_true, Bool.true_and, BEq.rfl, beq_self_eq_true, kb_m94, kb_m92, kb_m63, kb_m46, kb_m45, kb_m42, kb_m41, kb_m33, kb_m10, kb_m9, kb_m4, kb_m3, kb_m2, zkb_6, zkb_7, zkb_8, zkb_9, zkb_10, zkb_11, zkb_12, zkb_13, zkb_14, zkb_15, zkb_16, zkb_17, zkb_18, zkb_19, zkb_20, zkb_21, zkb_22, zkb_23, zkb_24, zkb_26, zkb_32, zkb_33, zkb_34, zkb_38, zkb_40, zkb_41, zkb_43, zkb_44, zkb_45, zkb_46, zkb_48, zkb_57, zkb_58, zkb_59, zkb_60, zkb_61, zkb_62, zkb_64, zkb_80, zkb_81, zkb_91, zkb_92, zkb_93, zkb_97, zkb_100, zkb_104, zkb_122, zkb_126, ki_m8, ki_m2, ki_m1, zki_0, zki_1, zki_2, zki_3, zki_4, zki_5, zks_160, zks_168, zks_240, zks_242, zks_255, zks_264, zks_300, zks_320, zks_500, zks_600, zks_625, zks_626, zks_1200, zks_1256, zks_2000, zks_2504, zks_3040, zks_4000, zks_6000, zks_12000, kl_0, kl_1, z_lt, z_le, z_eq, z_eq0, z_eq1, z_lt0, z_le0, z_0lt, z_0le, z_add, z_sub, z_add1, z_addn, z_addm, z_mul, z_cl, z_n9, z_n9s, z_n90, z_ne9, z_ne9s, z_lt_t, z_lt_f, z_le_t, z_le_f, z_eq_t, z_eq_f, z_pus, z_pun, z_row, or_self, or_false, false_or, true_or, or_true, and_self, and_false, false_and, not_true_eq_false, not_false_eq_true, false_implies, true_implies, implies_true, ne_eq, lm_row_s, lm_row_row, lm_up_row, rc_s, Classical.not_not, Nat.add_sub_cancel, i10, z_on, ml_184, rt_184, cb_184_23, rc_mod hS, sh_96 hS, sh_150 hS, rf_96_79 hR, rf_96_96 hR, h1, rt_self hr]
    · have h1 := (h150 k hk).trans (bI_up hr)
      have h2 := (hf k hk).1
      rw [cb_184_2]
      simp (disch := omega) only [lk_v, lk_n, lm_isI_i, lm_isL_l, lm_isR_r, lm_vi_i, lwx_iload_0, lwx_iload_1, lwx_iload_2, lwx_iload_3, lwx_istore_0, lwx_istore_1, lwx_istore_2, lwx_istore_3, lwx_aload_0, lwx_aload_1, lwx_aload_2, lwx_aload_3, lw_getI, lw_getL, lw_getR, lw_getZ, lw_iaload, lw_bipush, lw_icmp_eq, lw_goto, lw_iret, List.getD_cons_zero, List.getD_cons_succ, lm_set1, lm_set2, lm_cut, List.getElem?_cons_zero, List.getElem?_cons_succ, List.set_cons_zero, List.set_cons_succ, List.length_cons, List.length_nil, List.map_cons, List.map_nil, List.sum_cons, List.sum_nil, Value.category, Nat.reduceAdd, Nat.reduceDiv, Nat.reduceMod, Nat.reduceLT, Nat.reduceLeDiff, Nat.reduceMul, Int.toNat_natCast, Int.reduceToNat, true_and, and_true, lm_rok_1, lm_rok_20, lm_rok_21, lm_rok_0, lm_args, lm_ent, List.nil_append, List.cons_append, List.replicate, Nat.reduceSub, if_false, if_true, reduceCtorEq, Nat.reduceEqDiff, Bool.or_true, Bool.true_or, Bool.or_false, Bool.false_or, Bool.and_true, Bool.true_and, BEq.rfl, beq_self_eq_true, kb_m94, kb_m92, kb_m63, kb_m46, kb_m45, kb_m42, kb_m41, kb_m33, kb_m10, kb_m9, kb_m4, kb_m3, kb_m2, zkb_6, zkb_7, zkb_8, zkb_9, zkb_10, zkb_11, zkb_12, zkb_13, zkb_14, zkb_15, zkb_16, zkb_17, zkb_18, zkb_19, zkb_20, zkb_21, zkb_22, zkb_23, zkb_24, zkb_26, zkb_32, zkb_33, zkb_34, zkb_38, zkb_40, zkb_41, zkb_43, zkb_44, zkb_45, zkb_46, zkb_48, zkb_57, zkb_58, zkb_59, zkb_60, zkb_61, zkb_62, zkb_64, zkb_80, zkb_81, zkb_91, zkb_92, zkb_93, zkb_97, zkb_100, zkb_104, zkb_122, zkb_126, ki_m8, ki_m2, ki_m1, zki_0, zki_1, zki_2, zki_3, zki_4, zki_5, zks_160, zks_168, zks_240, zks_242, zks_255, zks_264, zks_300, zks_320, zks_500, zks_600, zks_625, zks_626, zks_1200, zks_1256, zks_2000, zks_2504, zks_3040, zks_4000, zks_6000, zks_12000, kl_0, kl_1, z_lt, z_le, z_eq, z_eq0, z_eq1, z_lt0, z_le0, z_0lt, z_0le, z_add, z_sub, z_add1, z_addn, z_addm, z_mul, z_cl, z_n9, z_n9s, z_n90, z_ne9, z_ne9s, z_lt_t, z_lt_f, z_le_t, z_le_f, z_eq_t, z_eq_f, z_pus, z_pun, z_row, or_self, or_false, false_or, true_or, or_true, and_self, and_false, false_and, not_true_eq_false, not_false_eq_true, false_implies, true_implies, implies_true, ne_eq, lm_row_s, lm_row_row, lm_up_row, rc_s, Classical.not_not, Nat.add_sub_cancel, i10, z_on, ml_184, rt_184, cb_184_23, rc_mod hS, sh_96 hS, sh_150 hS, rf_96_79 hR, rf_96_96 hR, h1]
      rw [ih (P k) (by have := (hf k hk).2.2.1 hr; omega) h2, rt_up hf (by omega) hk]
/-- end -/
theorem c_184 (hS : lp_shape S) (hR : lp_refs R) (g : mr I n P So Le Ri) (hf : fo P n dp u) (hu : u ≤ 6000) {k : Nat} (hk : k < n) : lc (e + 1) 184 [.ref 96, .int (nI k)] (S, I, L, R) Q = Q (some (.int (nI (rt P k)))) (S, I, L, R) := by
  rw [lc_succ, cb_184]
  simp (disch := omega) only [lk_v, lk_n, lm_isI_i, lm_isL_l, lm_isR_r, lm_vi_i, lwx_iload_0, lwx_iload_1, lwx_iload_2, lwx_iload_3, lwx_istore_0, lwx_istore_1, lwx_istore_2, lwx_istore_3, lwx_aload_0, lwx_aload_1, lwx_aload_2, lwx_aload_3, lw_getI, lw_getL, lw_getR, lw_getZ, lw_iaload, lw_bipush, lw_icmp_eq, lw_goto, lw_iret, List.getD_cons_zero, List.getD_cons_succ, lm_set1, lm_set2, lm_cut, List.getElem?_cons_zero, List.getElem?_cons_succ, List.set_cons_zero, List.set_cons_succ, List.length_cons, List.length_nil, List.map_cons, List.map_nil, List.sum_cons, List.sum_nil, Value.category, Nat.reduceAdd, Nat.reduceDiv, Nat.reduceMod, Nat.reduceLT, Nat.reduceLeDiff, Nat.reduceMul, Int.toNat_natCast, Int.reduceToNat, true_and, and_true, lm_rok_1, lm_rok_20, lm_rok_21, lm_rok_0, lm_args, lm_ent, List.nil_append, List.cons_append, List.replicate, Nat.reduceSub, if_false, if_true, reduceCtorEq, Nat.reduceEqDiff, Bool.or_true, Bool.true_or, Bool.or_false, Bool.false_or, Bool.and_true, Bool.true_and, BEq.rfl, beq_self_eq_true, kb_m94, kb_m92, kb_m63, kb_m46, kb_m45, kb_m42, kb_m41, kb_m33, kb_m10, kb_m9, kb_m4, kb_m3, kb_m2, zkb_6, zkb_7, zkb_8, zkb_9, zkb_10, zkb_11, zkb_12, zkb_13, zkb_14, zkb_15, zkb_16, zkb_17, zkb_18, zkb_19, zkb_20, zkb_21, zkb_22, zkb_23, zkb_24, zkb_26, zkb_32, zkb_33, zkb_34, zkb_38, zkb_40, zkb_41, zkb_43, zkb_44, zkb_45, zkb_46, zkb_48, zkb_57, zkb_58, zkb_59, zkb_60, zkb_61, zkb_62, zkb_64, zkb_80, zkb_81, zkb_91, zkb_92, zkb_93, zkb_97, zkb_100, zkb_104, zkb_122, zkb_126, ki_m8, ki_m2, ki_m1, zki_0, zki_1, zki_2, zki_3, zki_4, zki_5, zks_160, zks_168, zks_240, zks_242, zks_255, zks_264, zks_300, zks_320, zks_500, zks_600, zks_625, zks_626, zks_1200, zks_1256, zks_2000, zks_2504, zks_3040, zks_4000, zks_6000, zks_12000, kl_0, kl_1, z_lt, z_le, z_eq, z_eq0, z_eq1, z_lt0, z_le0, z_0lt, z_0le, z_add, z_sub, z_add1, z_addn, z_addm, z_mul, z_cl, z_n9, z_n9s, z_n90, z_ne9, z_ne9s, z_lt_t, z_lt_f, z_le_t, z_le_f, z_eq_t, z_eq_f, z_pus, z_pun, z_row, or_self, or_false, false_or, true_or, or_true, and_self, and_false, false_and, not_true_eq_false, not_false_eq_true, false_implies, true_implies, implies_true, ne_eq, lm_row_s, lm_row_row, lm_up_row, rc_s, Classical.not_not, Nat.add_sub_cancel, i10, z_on, ml_184, rt_184, cb_184_23]
  rw [l_184 hS hR g hf hu _ k (Nat.le_refl _) hk]
  simp only [rt_184, lm_rok_1, true_and]
end MODEL
