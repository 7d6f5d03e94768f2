/-! ===== the class's edited rules ===== -/
abbrev N4 : Type := Nat × Nat × Nat × Nat
def insT (T : Nat → N4) (r : Nat) (q : N4) : Nat → N4 := fun i => if i < r then T i else if i = r then q else T (i - 1)
def insK (rk : Nat → Nat) (r g i : Nat) : Nat := if i < r then rk i else if i = r then g else rk (i - 1)
/-- rows of the table at 81 -/
def EDR (I : lm_I) (c N B : Nat) (T : Nat → N4) (rk : Nat → Nat) : Prop := (I 81 6 = nI c ∧ I 81 7 = nI N ∧ I 81 8 = nI B) ∧ ∀ i, i < c → (I 84 i = nI (rk i) ∧ rk i ≤ 2000) ∧ rrow I 81 i (T i).1 (T i).2.1 (T i).2.2.1 (T i).2.2.2
/-- rows that hold for P -/
def EDS (I : lm_I) (N B k : Nat) (P : (Nat → Ty) → Prop) : Prop := ∃ c T rk, EDR I c N B T rk ∧ c ≤ 160 + k ∧ (∀ i, i < c → rok (2 * N + B + 1) (T i).1 (T i).2.1 (T i).2.2.1 (T i).2.2.2) ∧ rsum (fun i => (T i).1) (fun i => (T i).2.2.1) 0 c ≤ 4 * N + B + 4 * k ∧ ∀ w, (∀ i, i < c → 1 ≤ (T i).1 → rr4 (T i) w) ↔ P w
section EDIT
variable {e n p c N B k : Nat} {S : lm_S} {I : lm_I} {L : lm_L} {R : lm_R} {Q : Option Value → lm_M → Prop} {T : Nat → N4} {rk : Nat → Nat} {P : (Nat → Ty) → Prop} {r : Nat} {q : N4}
theorem insT_all {X : N4 → Prop} (hr : r ≤ c) : (∀ i, i < c + 1 → X (insT T r q i)) ↔ (∀ i, i < c → X (T i)) ∧ X q := by
  constructor
  · intro h
    refine ⟨fun i hi => ?_, ?_⟩
    · by_cases s : i < r
      · have := h i (by omega)
        unfold insT at this
        rw [if_pos s] at this
        exact this
      · have := h (i + 1) (by omega)
        unfold insT at this
        rw [if_neg (by omega), if_neg (by omega), Nat.add_sub_cancel] at this
        exact this
    · have := h r (by omega)
      unfold insT at this
      rw [if_neg (by omega), if_pos rfl] at this
      exact this
  · rintro ⟨h1, h2⟩ i hi
    unfold insT
    by_cases s : i < r
    · rw [if_pos s]; exact h1 i (by omega)
    · rw [if_neg s]
      by_cases s2 : i = r
      · rw [if_pos s2]; exact h2
      · rw [if_neg s2]; exact h1 (i - 1) (by omega)
theorem rsum_add {F Y : Nat → Nat} : ∀ (m k j : Nat), rsum F Y k (m + j) = rsum F Y k m + rsum F Y (k + m) j := by
  intro m
  induction m with
  | zero => intro k j; rw [Nat.zero_add]; show _ = 0 + _; rw [Nat.zero_add]; rfl
  | succ m ih =>
    intro k j
    rw [show m + 1 + j = (m + j) + 1 by omega]
    show rcost (F k) (Y k) + rsum F Y (k + 1) (m + j) = rcost (F k) (Y k) + rsum F Y (k + 1) m + _
    rw [ih, show k + 1 + m = k + (m + 1) by omega]
    omega
theorem rsum_cong {F Y F' Y' : Nat → Nat} : ∀ (m k k' : Nat), (∀ i, i < m → F' (k' + i) = F (k + i) ∧ Y' (k' + i) = Y (k + i)) → rsum F' Y' k' m = rsum F Y k m := by
  intro m
  induction m with
  | zero => intro k k' _; rfl
  | succ m ih =>
    intro k k' h
    have h0 := h 0 (by omega)
    show rcost (F' k') (Y' k') + rsum F' Y' (k' + 1) m = rcost (F k) (Y k) + rsum F Y (k + 1) m
    rw [ih (k + 1) (k' + 1) (fun i hi => by have := h (i + 1) (by omega); rw [show k + 1 + i = k + (i + 1) by omega, show k' + 1 + i = k' + (i + 1) by omega]; exact this)]
    have h1 : F' k' = F k := h0.1
    have h2 : Y' k' = Y k := h0.2
    rw [h1, h2]
theorem rsum_le {F Y F' Y' : Nat → Nat} : ∀ (m k : Nat), (∀ i, k ≤ i → i < k + m → rcost (F' i) (Y' i) ≤ rcost (F i) (Y i)) → rsum F' Y' k m ≤ rsum F Y k m := by
  intro m
  induction m with
  | zero => intro k _; exact Nat.le_refl _
  | succ m ih =>
    intro k h
    have h0 := h k (Nat.le_refl _) (by omega)
    have h1 := ih (k + 1) (fun i a b => h i (by omega) (by omega))
    show rcost (F' k) (Y' k) + rsum F' Y' (k + 1) m ≤ rcost (F k) (Y k) + rsum F Y (k + 1) m
    omega
theorem insT_sum (hr : r ≤ c) : rsum (fun i => (insT T r q i).1) (fun i => (insT T r q i).2.2.1) 0 (c + 1) = rsum (fun i => (T i).1) (fun i => (T i).2.2.1) 0 c + rcost q.1 q.2.2.1 := by
  have e1 : c + 1 = r + (1 + (c - r)) := by omega
  have e2 : c = r + (c - r) := by omega
  rw [e1, rsum_add r 0, rsum_add 1, Nat.zero_add]
  have x1 : rsum (fun i => (insT T r q i).1) (fun i => (insT T r q i).2.2.1) 0 r = rsum (fun i => (T i).1) (fun i => (T i).2.2.1) 0 r := rsum_cong r 0 0 (fun i hi => by
    have : insT T r q (0 + i) = T (0 + i) := by unfold insT; rw [if_pos (by omega)]
    exact ⟨by show (insT T r q (0 + i)).1 = _; rw [this], by show (insT T r q (0 + i)).2.2.1 = _; rw [this]⟩)
  have x2 : rsum (fun i => (insT T r q i).1) (fun i => (insT T r q i).2.2.1) (r + 1) (c - r) = rsum (fun i => (T i).1) (fun i => (T i).2.2.1) r (c - r) := rsum_cong (c - r) r (r + 1) (fun i hi => by
    have : insT T r q (r + 1 + i) = T (r + i) := by unfold insT; rw [if_neg (by omega), if_neg (by omega), show r + 1 + i - 1 = r + i by omega]
    exact ⟨by show (insT T r q (r + 1 + i)).1 = _; rw [this], by show (insT T r q (r + 1 + i)).2.2.1 = _; rw [this]⟩)
  have x3 : rsum (fun i => (insT T r q i).1) (fun i => (insT T r q i).2.2.1) r 1 = rcost q.1 q.2.2.1 := by
    have : insT T r q r = q := by unfold insT; rw [if_neg (by omega), if_pos rfl]
    show rcost (insT T r q r).1 (insT T r q r).2.2.1 + 0 = _
    rw [this]; rfl
  rw [x1, x2, x3]
  have x4 := rsum_add (F := fun i => (T i).1) (Y := fun i => (T i).2.2.1) r 0 (c - r)
  rw [Nat.zero_add, ← e2] at x4
  omega
/-- Rules.add with any ranks -/
theorem c_70h (hS : lp_shape S) (hR : lp_refs R) (hp : p = 29 ∨ p = 63 ∨ p = 81) {rk : Rr → Nat} {C : Rr → Nat → Int32} {l : Nat → Rr} {x : Rr} (hc : c < 168) (hrk : rk x ≤ 2000) (hlt : ∀ i, i < c → rk (l i) ≤ 2000)
    (hQ : ∀ I' r, r ≤ c → cRA p rk C I' (insR l r x) (c + 1) → frR p I I' → Q none (S, I', L, R)) : ∀ (r : Nat) (I1 : lm_I), r ≤ c → I1 p 6 = nI c → (∀ i, i < r → rowA p rk C I1 i (l i)) → (∀ j, r < j → j ≤ c → rowA p rk C I1 j (l (j - 1))) → frR p I I1 → lw e 70 (lm_J 70 17) [.ref p, .int (nI (rk x)), .int (C x 0), .int (C x 1), .int (C x 2), .int (C x 3), .int (C x 4), .int (nI r)] [] (S, I1, L, R) Q := by
  intro r
  induction r with
  | zero =>
    intro I1 hr h6 lo hi fr
    have fin := c_70b (e := e) (L := L) (Q := Q) (x := x) hS hR hp hc h6 hr lo hi (fun I' a b => hQ I' 0 hr a (fr.tr b))
    rw [cb_70_17]
    simp (disch := omega) only [lk_v, lk_n, lm_isI_i, lm_isL_l, lm_isR_r, lm_vi_i, lwx_aload_0, lwx_aload_1, lwx_aload_2, lwx_aload_3, lw_getI, lw_getL, lw_getR, lw_getZ, lw_sipush, lw_icmp_lt, lw_vret, lw_istore, lwx_iload, lw_if_le, lw_iconst, lw_isub, lw_iaload, lwx_iload_0, lwx_iload_1, lwx_iload_2, lwx_iload_3, lw_icmp_le, lw_iastore, lwx_iinc, lw_goto, lw_dup_i, lw_dup_r, lw_iadd, lw_putI, lw_putL, lw_putR, lw_putZ, List.getD_cons_zero, List.getD_cons_succ, lm_set1, lm_set2, lm_cut, List.getElem?_cons_zero, List.getElem?_cons_succ, List.set_cons_zero, List.set_cons_succ, List.length_cons, List.length_nil, List.map_cons, List.map_nil, List.sum_cons, List.sum_nil, Value.category, Nat.reduceAdd, Nat.reduceDiv, Nat.reduceMod, Nat.reduceLT, Nat.reduceLeDiff, Nat.reduceMul, Int.toNat_natCast, Int.reduceToNat, true_and, and_true, lm_rok_1, lm_rok_20, lm_rok_21, lm_rok_0, lm_args, lm_ent, List.nil_append, List.cons_append, List.replicate, Nat.reduceSub, if_false, if_true, reduceCtorEq, Nat.reduceEqDiff, Bool.or_true, Bool.true_or, Bool.or_false, Bool.false_or, Bool.and_true, Bool.true_and, BEq.rfl, beq_self_eq_true, kb_m94, kb_m92, kb_m63, kb_m46, kb_m45, kb_m42, kb_m41, kb_m33, kb_m10, kb_m9, kb_m4, kb_m3, kb_m2, zkb_6, zkb_7, zkb_8, zkb_9, zkb_10, zkb_11, zkb_12, zkb_13, zkb_14, zkb_15, zkb_16, zkb_17, zkb_18, zkb_19, zkb_20, zkb_21, zkb_22, zkb_23, zkb_24, zkb_26, zkb_32, zkb_33, zkb_34, zkb_38, zkb_40, zkb_41, zkb_43, zkb_44, zkb_45, zkb_46, zkb_48, zkb_57, zkb_58, zkb_59, zkb_60, zkb_61, zkb_62, zkb_64, zkb_80, zkb_81, zkb_91, zkb_92, zkb_93, zkb_97, zkb_100, zkb_104, zkb_122, zkb_126, ki_m8, ki_m2, ki_m1, zki_0, zki_1, zki_2, zki_3, zki_4, zki_5, zks_160, zks_168, zks_240, zks_242, zks_255, zks_264, zks_300, zks_320, zks_500, zks_600, zks_625, zks_626, zks_1200, zks_1256, zks_2000, zks_2504, zks_3040, zks_4000, zks_6000, zks_12000, kl_0, kl_1, z_lt, z_le, z_eq, z_eq0, z_eq1, z_lt0, z_le0, z_0lt, z_0le, z_add, z_sub, z_add1, z_addn, z_addm, z_mul, z_cl, z_n9, z_n9s, z_n90, z_ne9, z_ne9s, z_lt_t, z_lt_f, z_le_t, z_le_f, z_eq_t, z_eq_f, z_pus, z_pun, z_row, or_self, or_false, false_or, true_or, or_true, and_self, and_false, false_and, not_true_eq_false, not_false_eq_true, false_implies, true_implies, implies_true, ne_eq, lm_row_s, lm_row_row, lm_up_row, rc_s, Classical.not_not, Nat.add_sub_cancel, i10, z_on, rok2_0, rok2_1, ml_70, rt_70, cb_70_11]
    exact fin
  | succ r ih =>
    intro I1 hr h6 lo hi fr
    obtain ⟨a1, a2, a3, a4, a5, a6⟩ := lo r (by omega)
    have b1 := hlt r (by omega)
    by_cases hk : rk (l r) ≤ rk x
    · have fin := c_70b (e := e) (L := L) (Q := Q) (x := x) hS hR hp hc h6 hr lo hi (fun I' a b => hQ I' (r + 1) hr a (fr.tr b))
      rw [cb_70_17]
      simp (disch := omega) only [lk_v, lk_n, lm_isI_i, lm_isL_l, lm_isR_r, lm_vi_i, lwx_aload_0, lwx_aload_1, lwx_aload_2, lwx_aload_3, lw_getI, lw_getL, lw_getR, lw_getZ, lw_sipush, lw_icmp_lt, lw_vret, lw_istore, lwx_iload, lw_if_le, lw_iconst, lw_isub, lw_iaload, lwx_iload_0, lwx_iload_1, lwx_iload_2, lwx_iload_3, lw_icmp_le, lw_iastore, lwx_iinc, lw_goto, lw_dup_i, lw_dup_r, lw_iadd, lw_putI, lw_putL, lw_putR, lw_putZ, List.getD_cons_zero, List.getD_cons_succ, lm_set1, lm_set2, lm_cut, List.getElem?_cons_zero, List.getElem?_cons_succ, List.set_cons_zero, List.set_cons_succ, List.length_cons, List.length_nil, List.map_cons, List.map_nil, List.sum_cons, List.sum_nil, Value.category, Nat.reduceAdd, Nat.reduceDiv, Nat.reduceMod, Nat.reduceLT, Nat.reduceLeDiff, Nat.reduceMul, Int.toNat_natCast, Int.reduceToNat, true_and, and_true, lm_rok_1, lm_rok_20, lm_rok_21, lm_rok_0, lm_args, lm_ent, List.nil_append, List.cons_append, List.replicate, Nat.reduceSub, if_false, if_true, reduceCtorEq, Nat.reduceEqDiff, Bool.or_true, Bool.true_or, Bool.or_false, Bool.false_or, Bool.and_true, Bool.true_and, BEq.rfl, beq_self_eq_true, kb_m94, kb_m92, kb_m63, kb_m46, kb_m45, kb_m42, kb_m41, kb_m33, kb_m10, kb_m9, kb_m4, kb_m3, kb_m2, zkb_6, zkb_7, zkb_8, zkb_9, zkb_10, zkb_11, zkb_12, zkb_13, zkb_14, zkb_15, zkb_16, zkb_17, zkb_18, zkb_19, zkb_20, zkb_21, zkb_22, zkb_23, zkb_24, zkb_26, zkb_32, zkb_33, zkb_34, zkb_38, zkb_40, zkb_41, zkb_43, zkb_44, zkb_45, zkb_46, zkb_48, zkb_57, zkb_58, zkb_59, zkb_60, zkb_61, zkb_62, zkb_64, zkb_80, zkb_81, zkb_91, zkb_92, zkb_93, zkb_97, zkb_100, zkb_104, zkb_122, zkb_126, ki_m8, ki_m2, ki_m1, zki_0, zki_1, zki_2, zki_3, zki_4, zki_5, zks_160, zks_168, zks_240, zks_242, zks_255, zks_264, zks_300, zks_320, zks_500, zks_600, zks_625, zks_626, zks_1200, zks_1256, zks_2000, zks_2504, zks_3040, zks_4000, zks_6000, zks_12000, kl_0, kl_1, z_lt, z_le, z_eq, z_eq0, z_eq1, z_lt0, z_le0, z_0lt, z_0le, z_add, z_sub, z_add1, z_addn, z_addm, z_mul, z_cl, z_n9, z_n9s, z_n90, z_ne9, z_ne9s, z_lt_t, z_lt_f, z_le_t, z_le_f, z_eq_t, z_eq_f, z_pus, z_pun, z_row, or_self, or_false, false_or, true_or, or_true, and_self, and_false, false_and, not_true_eq_false, not_false_eq_true, false_implies, true_implies, implies_true, ne_eq, lm_row_s, lm_row_row, lm_up_row, rc_s, Classical.not_not, Nat.add_sub_cancel, i10, z_on, rok2_0, rok2_1, ml_70, rt_70, cb_70_11, rc_ru hS hp, ru_s0 hS hp, ru_s hS hp, ru_s1 hS hp, ru_s2 hS hp, ru_s3 hS hp, ru_s4 hS hp, ru_s5 hS hp, ru_s6 hS hp, ru_r0_0 hR hp, ru_r_0 hR hp, ru_r0_1 hR hp, ru_r_1 hR hp, ru_r0_2 hR hp, ru_r_2 hR hp, ru_r0_3 hR hp, ru_r_3 hR hp, ru_r0_4 hR hp, ru_r_4 hR hp, ru_r0_5 hR hp, ru_r_5 hR hp, a1]
      exact fin
    · rw [cb_70_17]
      simp (disch := omega) only [lk_v, lk_n, lm_isI_i, lm_isL_l, lm_isR_r, lm_vi_i, lwx_aload_0, lwx_aload_1, lwx_aload_2, lwx_aload_3, lw_getI, lw_getL, lw_getR, lw_getZ, lw_sipush, lw_icmp_lt, lw_vret, lw_istore, lwx_iload, lw_if_le, lw_iconst, lw_isub, lw_iaload, lwx_iload_0, lwx_iload_1, lwx_iload_2, lwx_iload_3, lw_icmp_le, lw_iastore, lwx_iinc, lw_goto, lw_dup_i, lw_dup_r, lw_iadd, lw_putI, lw_putL, lw_putR, lw_putZ, List.getD_cons_zero, List.getD_cons_succ, lm_set1, lm_set2, lm_cut, List.getElem?_cons_zero, List.getElem?_cons_succ, List.set_cons_zero, List.set_cons_succ, List.length_cons, List.length_nil, List.map_cons, List.map_nil, List.sum_cons, List.sum_nil, Value.category, Nat.reduceAdd, Nat.reduceDiv, Nat.reduceMod, Nat.reduceLT, Nat.reduceLeDiff, Nat.reduceMul, Int.toNat_natCast, Int.reduceToNat, true_and, and_true, lm_rok_1, lm_rok_20, lm_rok_21, lm_rok_0, lm_args, lm_ent, List.nil_append, List.cons_append, List.replicate, Nat.reduceSub, if_false, if_true, reduceCtorEq, Nat.reduceEqDiff, Bool.or_true, Bool.true_or, Bool.or_false, Bool.false_or, Bool.and_true, Bool.true_and, BEq.rfl, beq_self_eq_true, kb_m94, kb_m92, kb_m63, kb_m46, kb_m45, kb_m42, kb_m41, kb_m33, kb_m10, kb_m9, kb_m4, kb_m3, kb_m2, zkb_6, zkb_7, zkb_8, zkb_9, zkb_10, zkb_11, zkb_12, zkb_13, zkb_14, zkb_15, zkb_16, zkb_17, zkb_18, zkb_19, zkb_20, zkb_21, zkb_22, zkb_23, zkb_24, zkb_26, zkb_32, zkb_33, zkb_34, zkb_38, zkb_40, zkb_41, zkb_43, zkb_44, zkb_45, zkb_46, zkb_48, zkb_57, zkb_58, zkb_59, zkb_60, zkb_61, zkb_62, zkb_64, zkb_80, zkb_81, zkb_91, zkb_92, zkb_93, zkb_97, zkb_100, zkb_104, zkb_122, zkb_126, ki_m8, ki_m2, ki_m1, zki_0, zki_1, zki_2, zki_3, zki_4, zki_5, zks_160, zks_168, zks_240, zks_242, zks_255, zks_264, zks_300, zks_320, zks_500, zks_600, zks_625, zks_626, zks_1200, zks_1256, zks_2000, zks_2504, zks_3040, zks_4000, zks_6000, zks_12000, kl_0, kl_1, z_lt, z_le, z_eq, z_eq0, z_eq1, z_lt0, z_le0, z_0lt, z_0le, z_add, z_sub, z_add1, z_addn, z_addm, z_mul, z_cl, z_n9, z_n9s, z_n90, z_ne9, z_ne9s, z_lt_t, z_lt_f, z_le_t, z_le_f, z_eq_t, z_eq_f, z_pus, z_pun, z_row, or_self, or_false, false_or, true_or, or_true, and_self, and_false, false_and, not_true_eq_false, not_false_eq_true, false_implies, true_implies, implies_true, ne_eq, lm_row_s, lm_row_row, lm_up_row, rc_s, Classical.not_not, Nat.add_sub_cancel, i10, z_on, rok2_0, rok2_1, ml_70, rt_70, cb_70_11, rc_ru hS hp, ru_s0 hS hp, ru_s hS hp, ru_s1 hS hp, ru_s2 hS hp, ru_s3 hS hp, ru_s4 hS hp, ru_s5 hS hp, ru_s6 hS hp, ru_r0_0 hR hp, ru_r_0 hR hp, ru_r0_1 hR hp, ru_r_1 hR hp, ru_r0_2 hR hp, ru_r_2 hR hp, ru_r0_3 hR hp, ru_r_3 hR hp, ru_r0_4 hR hp, ru_r_4 hR hp, ru_r0_5 hR hp, ru_r_5 hR hp, a1, a2, a3, a4, a5, a6]
      refine ih _ (by omega) ?_ (fun i hi2 => ?_) (fun j hj1 hj2 => ?_) (fr.tr ⟨fun o ho => ?_, fun k hk => ?_⟩)
      · simp (disch := omega) only [z_lt, z_le, z_eq, z_eq0, z_eq1, z_lt0, z_le0, z_0lt, z_0le, z_add, z_sub, z_add1, z_addn, z_addm, z_mul, z_cl, z_n9, z_n9s, z_n90, z_ne9, z_ne9s, z_lt_t, z_lt_f, z_le_t, z_le_f, z_eq_t, z_eq_f, z_pus, z_pun, z_row, or_self, or_false, false_or, true_or, or_true, and_self, and_false, false_and, not_true_eq_false, not_false_eq_true, false_implies, true_implies, implies_true, ne_eq, lm_row_s, lm_row_row, lm_up_row, rc_s, Classical.not_not, Nat.add_sub_cancel, i10, z_on, rok2_0, rok2_1]
        exact h6
      · obtain ⟨c1, c2, c3, c4, c5, c6⟩ := lo i (by omega)
        refine ⟨?_, ?_, ?_, ?_, ?_, ?_⟩
        · simp (disch := omega) only [z_lt, z_le, z_eq, z_eq0, z_eq1, z_lt0, z_le0, z_0lt, z_0le, z_add, z_sub, z_add1, z_addn, z_addm, z_mul, z_cl, z_n9, z_n9s, z_n90, z_ne9, z_ne9s, z_lt_t, z_lt_f, z_le_t, z_le_f, z_eq_t, z_eq_f, z_pus, z_pun, z_row, or_self, or_false, false_or, true_or, or_true, and_self, and_false, false_and, not_true_eq_false, not_false_eq_true, false_implies, true_implies, implies_true, ne_eq, lm_row_s, lm_row_row, lm_up_row, rc_s, Classical.not_not, Nat.add_sub_cancel, i10, z_on, rok2_0, rok2_1]
          exact c1
        · simp (disch := omega) only [z_lt, z_le, z_eq, z_eq0, z_eq1, z_lt0, z_le0, z_0lt, z_0le, z_add, z_sub, z_add1, z_addn, z_addm, z_mul, z_cl, z_n9, z_n9s, z_n90, z_ne9, z_ne9s, z_lt_t, z_lt_f, z_le_t, z_le_f, z_eq_t, z_eq_f, z_pus, z_pun, z_row, or_self, or_false, false_or, true_or, or_true, and_self, and_false, false_and, not_true_eq_false, not_false_eq_true, false_implies, true_implies, implies_true, ne_eq, lm_row_s, lm_row_row, lm_up_row, rc_s, Classical.not_not, Nat.add_sub_cancel, i10, z_on, rok2_0, rok2_1]
          exact c2
        · simp (disch := omega) only [z_lt, z_le, z_eq, z_eq0, z_eq1, z_lt0, z_le0, z_0lt, z_0le, z_add, z_sub, z_add1, z_addn, z_addm, z_mul, z_cl, z_n9, z_n9s, z_n90, z_ne9, z_ne9s, z_lt_t, z_lt_f, z_le_t, z_le_f, z_eq_t, z_eq_f, z_pus, z_pun, z_row, or_self, or_false, false_or, true_or, or_true, and_self, and_false, false_and, not_true_eq_false, not_false_eq_true, false_implies, true_implies, implies_true, ne_eq, lm_row_s, lm_row_row, lm_up_row, rc_s, Classical.not_not, Nat.add_sub_cancel, i10, z_on, rok2_0, rok2_1]
          exact c3
        · simp (disch := omega) only [z_lt, z_le, z_eq, z_eq0, z_eq1, z_lt0, z_le0, z_0lt, z_0le, z_add, z_sub, z_add1, z_addn, z_addm, z_mul, z_cl, z_n9, z_n9s, z_n90, z_ne9, z_ne9s, z_lt_t, z_lt_f, z_le_t, z_le_f, z_eq_t, z_eq_f, z_pus, z_pun, z_row, or_self, or_false, false_or, true_or, or_true, and_self, and_false, false_and, not_true_eq_false, not_false_eq_true, false_implies, true_implies, implies_true, ne_eq, lm_row_s, lm_row_row, lm_up_row, rc_s, Classical.not_not, Nat.add_sub_cancel, i10, z_on, rok2_0, rok2_1]
          exact c4
        · simp (disch := omega) only [z_lt, z_le, z_eq, z_eq0, z_eq1, z_lt0, z_le0, z_0lt, z_0le, z_add, z_sub, z_add1, z_addn, z_addm, z_mul, z_cl, z_n9, z_n9s, z_n90, z_ne9, z_ne9s, z_lt_t, z_lt_f, z_le_t, z_le_f, z_eq_t, z_eq_f, z_pus, z_pun, z_row, or_self, or_false, false_or, true_or, or_true, and_self, and_false, false_and, not_true_eq_false, not_false_eq_true, false_implies, true_implies, implies_true, ne_eq, lm_row_s, lm_row_row, lm_up_row, rc_s, Classical.not_not, Nat.add_sub_cancel, i10, z_on, rok2_0, rok2_1]
          exact c5
        · simp (disch := omega) only [z_lt, z_le, z_eq, z_eq0, z_eq1, z_lt0, z_le0, z_0lt, z_0le, z_add, z_sub, z_add1, z_addn, z_addm, z_mul, z_cl, z_n9, z_n9s, z_n90, z_ne9, z_ne9s, z_lt_t, z_lt_f, z_le_t, z_le_f, z_eq_t, z_eq_f, z_pus, z_pun, z_row, or_self, or_false, false_or, true_or, or_true, and_self, and_false, false_and, not_true_eq_false, not_false_eq_true, false_implies, true_implies, implies_true, ne_eq, lm_row_s, lm_row_row, lm_up_row, rc_s, Classical.not_not, Nat.add_sub_cancel, i10, z_on, rok2_0, rok2_1]
          exact c6
      · by_cases s : j = r + 1
        · subst s
          rw [Nat.add_sub_cancel]
          refine ⟨?_, ?_, ?_, ?_, ?_, ?_⟩
          all_goals simp (disch := omega) only [z_lt, z_le, z_eq, z_eq0, z_eq1, z_lt0, z_le0, z_0lt, z_0le, z_add, z_sub, z_add1, z_addn, z_addm, z_mul, z_cl, z_n9, z_n9s, z_n90, z_ne9, z_ne9s, z_lt_t, z_lt_f, z_le_t, z_le_f, z_eq_t, z_eq_f, z_pus, z_pun, z_row, or_self, or_false, false_or, true_or, or_true, and_self, and_false, false_and, not_true_eq_false, not_false_eq_true, false_implies, true_implies, implies_true, ne_eq, lm_row_s, lm_row_row, lm_up_row, rc_s, Classical.not_not, Nat.add_sub_cancel, i10, z_on, rok2_0, rok2_1]
        · obtain ⟨c1, c2, c3, c4, c5, c6⟩ := hi j (by omega) hj2
          refine ⟨?_, ?_, ?_, ?_, ?_, ?_⟩
          · simp (disch := omega) only [z_lt, z_le, z_eq, z_eq0, z_eq1, z_lt0, z_le0, z_0lt, z_0le, z_add, z_sub, z_add1, z_addn, z_addm, z_mul, z_cl, z_n9, z_n9s, z_n90, z_ne9, z_ne9s, z_lt_t, z_lt_f, z_le_t, z_le_f, z_eq_t, z_eq_f, z_pus, z_pun, z_row, or_self, or_false, false_or, true_or, or_true, and_self, and_false, false_and, not_true_eq_false, not_false_eq_true, false_implies, true_implies, implies_true, ne_eq, lm_row_s, lm_row_row, lm_up_row, rc_s, Classical.not_not, Nat.add_sub_cancel, i10, z_on, rok2_0, rok2_1]
            exact c1
          · simp (disch := omega) only [z_lt, z_le, z_eq, z_eq0, z_eq1, z_lt0, z_le0, z_0lt, z_0le, z_add, z_sub, z_add1, z_addn, z_addm, z_mul, z_cl, z_n9, z_n9s, z_n90, z_ne9, z_ne9s, z_lt_t, z_lt_f, z_le_t, z_le_f, z_eq_t, z_eq_f, z_pus, z_pun, z_row, or_self, or_false, false_or, true_or, or_true, and_self, and_false, false_and, not_true_eq_false, not_false_eq_true, false_implies, true_implies, implies_true, ne_eq, lm_row_s, lm_row_row, lm_up_row, rc_s, Classical.not_not, Nat.add_sub_cancel, i10, z_on, rok2_0, rok2_1]
            exact c2
          · simp (disch := omega) only [z_lt, z_le, z_eq, z_eq0, z_eq1, z_lt0, z_le0, z_0lt, z_0le, z_add, z_sub, z_add1, z_addn, z_addm, z_mul, z_cl, z_n9, z_n9s, z_n90, z_ne9, z_ne9s, z_lt_t, z_lt_f, z_le_t, z_le_f, z_eq_t, z_eq_f, z_pus, z_pun, z_row, or_self, or_false, false_or, true_or, or_true, and_self, and_false, false_and, not_true_eq_false, not_false_eq_true, false_implies, true_implies, implies_true, ne_eq, lm_row_s, lm_row_row, lm_up_row, rc_s, Classical.not_not, Nat.add_sub_cancel, i10, z_on, rok2_0, rok2_1]
            exact c3
          · simp (disch := omega) only [z_lt, z_le, z_eq, z_eq0, z_eq1, z_lt0, z_le0, z_0lt, z_0le, z_add, z_sub, z_add1, z_addn, z_addm, z_mul, z_cl, z_n9, z_n9s, z_n90, z_ne9, z_ne9s, z_lt_t, z_lt_f, z_le_t, z_le_f, z_eq_t, z_eq_f, z_pus, z_pun, z_row, or_self, or_false, false_or, true_or, or_true, and_self, and_false, false_and, not_true_eq_false, not_false_eq_true, false_implies, true_implies, implies_true, ne_eq, lm_row_s, lm_row_row, lm_up_row, rc_s, Classical.not_not, Nat.add_sub_cancel, i10, z_on, rok2_0, rok2_1]
            exact c4
          · simp (disch := omega) only [z_lt, z_le, z_eq, z_eq0, z_eq1, z_lt0, z_le0, z_0lt, z_0le, z_add, z_sub, z_add1, z_addn, z_addm, z_mul, z_cl, z_n9, z_n9s, z_n90, z_ne9, z_ne9s, z_lt_t, z_lt_f, z_le_t, z_le_f, z_eq_t, z_eq_f, z_pus, z_pun, z_row, or_self, or_false, false_or, true_or, or_true, and_self, and_false, false_and, not_true_eq_false, not_false_eq_true, false_implies, true_implies, implies_true, ne_eq, lm_row_s, lm_row_row, lm_up_row, rc_s, Classical.not_not, Nat.add_sub_cancel, i10, z_on, rok2_0, rok2_1]
            exact c5
          · simp (disch := omega) only [z_lt, z_le, z_eq, z_eq0, z_eq1, z_lt0, z_le0, z_0lt, z_0le, z_add, z_sub, z_add1, z_addn, z_addm, z_mul, z_cl, z_n9, z_n9s, z_n90, z_ne9, z_ne9s, z_lt_t, z_lt_f, z_le_t, z_le_f, z_eq_t, z_eq_f, z_pus, z_pun, z_row, or_self, or_false, false_or, true_or, or_true, and_self, and_false, false_and, not_true_eq_false, not_false_eq_true, false_implies, true_implies, implies_true, ne_eq, lm_row_s, lm_row_row, lm_up_row, rc_s, Classical.not_not, Nat.add_sub_cancel, i10, z_on, rok2_0, rok2_1]
            exact c6
      · simp (disch := omega) only [z_lt, z_le, z_eq, z_eq0, z_eq1, z_lt0, z_le0, z_0lt, z_0le, z_add, z_sub, z_add1, z_addn, z_addm, z_mul, z_cl, z_n9, z_n9s, z_n90, z_ne9, z_ne9s, z_lt_t, z_lt_f, z_le_t, z_le_f, z_eq_t, z_eq_f, z_pus, z_pun, z_row, or_self, or_false, false_or, true_or, or_true, and_self, and_false, false_and, not_true_eq_false, not_false_eq_true, false_implies, true_implies, implies_true, ne_eq, lm_row_s, lm_row_row, lm_up_row, rc_s, Classical.not_not, Nat.add_sub_cancel, i10, z_on, rok2_0, rok2_1]
      · simp (disch := omega) only [z_lt, z_le, z_eq, z_eq0, z_eq1, z_lt0, z_le0, z_0lt, z_0le, z_add, z_sub, z_add1, z_addn, z_addm, z_mul, z_cl, z_n9, z_n9s, z_n90, z_ne9, z_ne9s, z_lt_t, z_lt_f, z_le_t, z_le_f, z_eq_t, z_eq_f, z_pus, z_pun, z_row, or_self, or_false, false_or, true_or, or_true, and_self, and_false, false_and, not_true_eq_false, not_false_eq_true, false_implies, true_implies, implies_true, ne_eq, lm_row_s, lm_row_row, lm_up_row, rc_s, Classical.not_not, Nat.add_sub_cancel, i10, z_on, rok2_0, rok2_1]
/-- a row more -/
theorem c_70e (hS : lp_shape S) (hR : lp_refs R) (h : EDS I N B k P) (hk : k ≤ 3) {g : Nat} (hg : g ≤ 2000) {v1 v3 v4 v5 : Int32} (hq : rok (2 * N + B + 1) q.1 q.2.1 q.2.2.1 q.2.2.2) (hq1 : 1 ≤ q.1) (hq5 : q.1 ≠ 5) (e3 : v3 = nI q.2.1) (e4 : v4 = nI q.2.2.1) (e5 : 3 ≤ q.1 → q.1 ≤ 5 → v5 = nI q.2.2.2)
    (hQ : ∀ I', EDS I' N B (k + 1) (fun w => P w ∧ rr4 q w) → (∀ o, (o < 81 ∨ 87 < o) → I' o = I o) → Q none (S, I', L, R)) : lc (e + 1) 70 [.ref 81, .int (nI g), .int v1, .int (nI q.1), .int v3, .int v4, .int v5] (S, I, L, R) Q := by
  obtain ⟨c, T, rk, ⟨⟨h6, h7, h8⟩, hr⟩, c160, hok, hsum, hP⟩ := h
  let C : Rr → Nat → Int32 := fun x j => if x.2.1 = 1 then (if j = 0 then v1 else if j = 1 then nI q.1 else if j = 2 then v3 else if j = 3 then v4 else v5) else (if j = 0 then I 83 x.1 else if j = 1 then I 82 x.1 else if j = 2 then I 85 x.1 else if j = 3 then I 86 x.1 else I 87 x.1)
  let rk' : Rr → Nat := fun x => if x.2.1 = 1 then g else rk x.1
  let l : Nat → Rr := fun i => (i, 0, 0, 0)
  let x : Rr := (0, 1, 0, 0)
  have main := c_70h (e := e) (L := L) (I := I) (c := c) (rk := rk') (C := C) (l := l) (x := x) (Q := fun v M => lm_rok 0 v = true ∧ Q v M) hS hR (Or.inr (Or.inr rfl)) (by omega) hg (fun i hi => (hr i hi).1.2) (fun I' r r1 a f => ⟨rfl, ?_⟩) c I (Nat.le_refl _) h6 (fun i hi => ⟨(hr i hi).1.1, rfl, rfl, rfl, rfl, rfl⟩) (fun j j1 j2 => by omega) frR.rf
  · rw [lc_succ, cb_70]
    simp (disch := omega) only [lk_v, lk_n, lm_isI_i, lm_isL_l, lm_isR_r, lm_vi_i, lwx_aload_0, lwx_aload_1, lwx_aload_2, lwx_aload_3, lw_getI, lw_getL, lw_getR, lw_getZ, lw_sipush, lw_icmp_lt, lw_vret, lw_istore, lwx_iload, lw_if_le, lw_iconst, lw_isub, lw_iaload, lwx_iload_0, lwx_iload_1, lwx_iload_2, lwx_iload_3, lw_icmp_le, lw_iastore, lwx_iinc, lw_goto, lw_dup_i, lw_dup_r, lw_iadd, lw_putI, lw_putL, lw_putR, lw_putZ, List.getD_cons_zero, List.getD_cons_succ, lm_set1, lm_set2, lm_cut, List.getElem?_cons_zero, List.getElem?_cons_succ, List.set_cons_zero, List.set_cons_succ, List.length_cons, List.length_nil, List.map_cons, List.map_nil, List.sum_cons, List.sum_nil, Value.category, Nat.reduceAdd, Nat.reduceDiv, Nat.reduceMod, Nat.reduceLT, Nat.reduceLeDiff, Nat.reduceMul, Int.toNat_natCast, Int.reduceToNat, true_and, and_true, lm_rok_1, lm_rok_20, lm_rok_21, lm_rok_0, lm_args, lm_ent, List.nil_append, List.cons_append, List.replicate, Nat.reduceSub, if_false, if_true, reduceCtorEq, Nat.reduceEqDiff, Bool.or_true, Bool.true_or, Bool.or_false, Bool.false_or, Bool.and_true, Bool.true_and, BEq.rfl, beq_self_eq_true, kb_m94, kb_m92, kb_m63, kb_m46, kb_m45, kb_m42, kb_m41, kb_m33, kb_m10, kb_m9, kb_m4, kb_m3, kb_m2, zkb_6, zkb_7, zkb_8, zkb_9, zkb_10, zkb_11, zkb_12, zkb_13, zkb_14, zkb_15, zkb_16, zkb_17, zkb_18, zkb_19, zkb_20, zkb_21, zkb_22, zkb_23, zkb_24, zkb_26, zkb_32, zkb_33, zkb_34, zkb_38, zkb_40, zkb_41, zkb_43, zkb_44, zkb_45, zkb_46, zkb_48, zkb_57, zkb_58, zkb_59, zkb_60, zkb_61, zkb_62, zkb_64, zkb_80, zkb_81, zkb_91, zkb_92, zkb_93, zkb_97, zkb_100, zkb_104, zkb_122, zkb_126, ki_m8, ki_m2, ki_m1, zki_0, zki_1, zki_2, zki_3, zki_4, zki_5, zks_160, zks_168, zks_240, zks_242, zks_255, zks_264, zks_300, zks_320, zks_500, zks_600, zks_625, zks_626, zks_1200, zks_1256, zks_2000, zks_2504, zks_3040, zks_4000, zks_6000, zks_12000, kl_0, kl_1, z_lt, z_le, z_eq, z_eq0, z_eq1, z_lt0, z_le0, z_0lt, z_0le, z_add, z_sub, z_add1, z_addn, z_addm, z_mul, z_cl, z_n9, z_n9s, z_n90, z_ne9, z_ne9s, z_lt_t, z_lt_f, z_le_t, z_le_f, z_eq_t, z_eq_f, z_pus, z_pun, z_row, or_self, or_false, false_or, true_or, or_true, and_self, and_false, false_and, not_true_eq_false, not_false_eq_true, false_implies, true_implies, implies_true, ne_eq, lm_row_s, lm_row_row, lm_up_row, rc_s, Classical.not_not, Nat.add_sub_cancel, i10, z_on, rok2_0, rok2_1, ml_70, rt_70, cb_70_11, cb_70_137, ru_s hS (p := 81) (Or.inr (Or.inr rfl)), h6]
    exact main
  · refine hQ I' ⟨c + 1, insT T r q, insK rk r g, ⟨⟨a.1, by rw [f.2 7 (by decide)]; exact h7, by rw [f.2 8 (by decide)]; exact h8⟩, fun i hi => ?_⟩, by omega, (insT_all (X := fun q => rok (2 * N + B + 1) q.1 q.2.1 q.2.2.1 q.2.2.2) r1).mpr ⟨hok, hq⟩, ?_, fun w => ?_⟩ (fun o ho => f.1 o (by omega))
    · obtain ⟨b1, b2, b3, b4, b5, b6⟩ := a.2 i hi
      unfold insT insK
      unfold insR at b1 b2 b3 b4 b5 b6
      by_cases s : i < r
      · rw [if_pos s] at b1 b2 b3 b4 b5 b6
        rw [if_pos s, if_pos s]
        obtain ⟨⟨c1, c2⟩, d1, d2, d3⟩ := hr i (by omega)
        exact ⟨⟨b1, c2⟩, b3.trans d1, fun y => ⟨b4.trans (d2 y).1, b5.trans (d2 y).2⟩, fun y y2 => b6.trans (d3 y y2)⟩
      · rw [if_neg s] at b1 b2 b3 b4 b5 b6
        rw [if_neg s, if_neg s]
        by_cases s2 : i = r
        · rw [if_pos s2] at b1 b2 b3 b4 b5 b6
          rw [if_pos s2, if_pos s2]
          exact ⟨⟨b1, hg⟩, b3, fun _ => ⟨b4.trans e3, b5.trans e4⟩, fun y y2 => b6.trans (e5 y y2)⟩
        · rw [if_neg s2] at b1 b2 b3 b4 b5 b6
          rw [if_neg s2, if_neg s2]
          obtain ⟨⟨c1, c2⟩, d1, d2, d3⟩ := hr (i - 1) (by omega)
          exact ⟨⟨b1, c2⟩, b3.trans d1, fun y => ⟨b4.trans (d2 y).1, b5.trans (d2 y).2⟩, fun y y2 => b6.trans (d3 y y2)⟩
    · rw [insT_sum r1]
      have : rcost q.1 q.2.2.1 ≤ 4 := by
        have := hq.1
        unfold rcost
        split <;> omega
      omega
    · rw [insT_all (X := fun q => 1 ≤ q.1 → rr4 q w) r1, hP w]
      exact ⟨fun y => ⟨y.1, y.2 hq1⟩, fun y => ⟨y.1, fun _ => y.2⟩⟩
/-- whether the edited rules hold -/
theorem c_79e (hS : lp_shape S) (hR : lp_refs R) (h : EDS I N B k P) (hk : k ≤ 3) (hN : N ≤ 80) (hB : B ≤ 22) (h88 : ∀ r, r < 168 → I 88 r = nI 1)
    (hQ0 : ∀ I', (∀ o, (o < 70 ∨ 77 ≤ o) → I' o = I o) → (∀ w, ¬ P w) → Q (some (.int (nI 0))) (S, I', L, R))
    (hQ1 : ∀ (I' : lm_I) (n : Nat) (P1 So Le Ri dp : Nat → Nat) (u : Nat), (∀ o, (o < 70 ∨ 77 ≤ o) → I' o = I o) → svf I' n P1 So Le Ri dp u → 2 * N + B + 1 ≤ n → acy n (rt P1) So Le Ri → (∀ w, P w ↔ ∃ val, Sol n P1 So Le Ri val ∧ ∀ j, j < 2 * N + B + 1 → val j = w j) → Q (some (.int (nI 1))) (S, I', L, R)) :
    lc (e + 5) 79 [.ref 70, .ref 81, .ref 88] (S, I, L, R) Q := by
  obtain ⟨c, T, rk, ⟨⟨h6, h7, h8⟩, hr⟩, c160, hok, hsum, hP⟩ := h
  have cs : ∀ w, csat (fun i => (T i).1) (fun i => (T i).2.1) (fun i => (T i).2.2.1) (fun i => (T i).2.2.2) (I 88) c w ↔ P w := fun w => by
    rw [← hP w]
    exact ⟨fun x i hi y => x i hi (by rw [h88 i (by omega)]; decide) y, fun x i hi _ y => x i hi y⟩
  refine c_79 (e := e) (ch := 88) (F := fun i => (T i).1) (X := fun i => (T i).2.1) (Y := fun i => (T i).2.2.1) (Z := fun i => (T i).2.2.2) (V := 2 * N + B + 1) hS hR (Or.inr (Or.inr rfl)) (Or.inr (Or.inr rfl)) ⟨h6, by omega, ⟨N, B, h7, h8, rfl⟩, fun i hi => ⟨(hr i hi).2, hok i hi⟩⟩ (by omega) (by omega) (fun I1 f1 no => ?_) (fun I1 n P1 So Le Ri dp u f1 g b1 b2 b3 => ?_)
  · exact hQ0 I1 f1 (fun w hw => no w ((cs w).mpr hw))
  · exact hQ1 I1 n P1 So Le Ri dp u f1 g b1 b2 (fun w => (cs w).symm.trans (b3 w))
end EDIT
