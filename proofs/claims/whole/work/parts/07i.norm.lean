/-! ===== numbers: rows with side conditions for omega ===== -/
section NORM
variable {a b : Nat} {k : Nat}
theorem z_lt (ha : a < 2147483648) (hb : b < 2147483648) : (nI a < nI b) = (a < b) := propext (nI_ltI ha hb)
theorem z_le (ha : a < 2147483648) (hb : b < 2147483648) : (nI a ≤ nI b) = (a ≤ b) := propext (nI_leI ha hb)
theorem z_eq (ha : a < 2147483648) (hb : b < 2147483648) : (nI a = nI b) = (a = b) := propext (nI_eq ha hb)
theorem z_eq0 (ha : a < 2147483648) : (nI a = 0) = (a = 0) := z_eq (b := 0) ha (by omega)
theorem z_eq1 (ha : a < 2147483648) : (nI a = 1) = (a = 1) := z_eq (b := 1) ha (by omega)
theorem z_lt0 (ha : a < 2147483648) : (nI a < 0) = False := eq_false (nI_pos ha)
theorem z_le0 (ha : a < 2147483648) : (nI a ≤ 0) = (a = 0) := by
  rw [show (nI a ≤ 0) = (a ≤ 0) from z_le (b := 0) ha (by omega)]
  exact propext ⟨fun q => by omega, fun q => by omega⟩
theorem z_0lt (ha : a < 2147483648) : (0 < nI a) = (0 < a) := z_lt (a := 0) (by omega) ha
theorem z_0le (ha : a < 2147483648) : (0 ≤ nI a) = True := eq_true (nI_pos' ha)
theorem z_add : nI a + nI b = nI (a + b) := nI_add a b
theorem z_sub (h : b ≤ a) : nI a - nI b = nI (a - b) := pk_sub h
theorem z_add1 : nI a + 1 = nI (a + 1) := nI_1 a
theorem z_addn (h : 1 ≤ a) : nI a + -1 = nI (a - 1) := by rw [← Int32.sub_eq_add_neg]; exact pk_sub h
theorem z_addm (h : 2 ≤ a) : nI a + -2 = nI (a - 2) := by rw [← Int32.sub_eq_add_neg]; exact pk_sub h
theorem z_mul : nI a * nI b = nI (a * b) := (Int32.ofNat_mul a b).symm
theorem z_cl (h : a < 2147483648) : (nI a).toNatClampNeg = a := nI_clamp h
theorem z_n90 : ((-9 : Int32) < 0) = True := eq_true (by decide)
theorem z_n9 (h : a < 2147483648) : (nI a = -9) = False := eq_false (fun q => by
  have h1 := nI_pos' h
  rw [q] at h1
  exact absurd h1 (by decide))
theorem z_n9s (h : a < 2147483648) : (-9 = nI a) = False := by rw [show (-9 = nI a) = (nI a = -9) from propext ⟨Eq.symm, Eq.symm⟩]; exact z_n9 h
theorem z_ne9 (h : a < 2147483648) : (nI a < -9) = False := eq_false (fun q => by
  have h1 := nI_pos' h
  exact absurd (Int32.lt_of_le_of_lt h1 q) (by decide))
theorem z_ne9s (h : a < 2147483648) : (nI a ≤ -9) = False := eq_false (fun q => by
  have h1 := nI_pos' h
  exact absurd (Int32.le_trans h1 q) (by decide))
theorem z_lt_t (h : a < b) : (a < b) = True := eq_true h
theorem z_lt_f (h : b ≤ a) : (a < b) = False := eq_false (Nat.not_lt.mpr h)
theorem z_le_t (h : a ≤ b) : (a ≤ b) = True := eq_true h
theorem z_le_f (h : b < a) : (a ≤ b) = False := eq_false (Nat.not_le.mpr h)
theorem z_eq_t (h : a = b) : (a = b) = True := eq_true h
theorem z_eq_f (h : a < b ∨ b < a) : (a = b) = False := eq_false (fun q => by omega)
theorem z_pus {f : Nat → Int32} {x : Int32} : upd f a x a = x := pk_us
theorem z_pun {f : Nat → Int32} {x : Int32} (h : a < b ∨ b < a) : upd f a x b = f b := pk_un (by omega)
theorem z_row {I : lm_I} {f : Nat → Int32} (h : a < b ∨ b < a) : lm_row I a f b = I b := lm_row_n (by omega)
theorem zkb_6 : (Int8.ofInt 6).toInt32 = nI 6 := by decide +kernel
theorem zkb_7 : (Int8.ofInt 7).toInt32 = nI 7 := by decide +kernel
theorem zkb_8 : (Int8.ofInt 8).toInt32 = nI 8 := by decide +kernel
theorem zkb_9 : (Int8.ofInt 9).toInt32 = nI 9 := by decide +kernel
theorem zkb_10 : (Int8.ofInt 10).toInt32 = nI 10 := by decide +kernel
theorem zkb_11 : (Int8.ofInt 11).toInt32 = nI 11 := by decide +kernel
theorem zkb_12 : (Int8.ofInt 12).toInt32 = nI 12 := by decide +kernel
theorem zkb_13 : (Int8.ofInt 13).toInt32 = nI 13 := by decide +kernel
theorem zkb_14 : (Int8.ofInt 14).toInt32 = nI 14 := by decide +kernel
theorem zkb_15 : (Int8.ofInt 15).toInt32 = nI 15 := by decide +kernel
theorem zkb_16 : (Int8.ofInt 16).toInt32 = nI 16 := by decide +kernel
theorem zkb_17 : (Int8.ofInt 17).toInt32 = nI 17 := by decide +kernel
theorem zkb_18 : (Int8.ofInt 18).toInt32 = nI 18 := by decide +kernel
theorem zkb_19 : (Int8.ofInt 19).toInt32 = nI 19 := by decide +kernel
theorem zkb_20 : (Int8.ofInt 20).toInt32 = nI 20 := by decide +kernel
theorem zkb_21 : (Int8.ofInt 21).toInt32 = nI 21 := by decide +kernel
theorem zkb_22 : (Int8.ofInt 22).toInt32 = nI 22 := by decide +kernel
theorem zkb_23 : (Int8.ofInt 23).toInt32 = nI 23 := by decide +kernel
theorem zkb_24 : (Int8.ofInt 24).toInt32 = nI 24 := by decide +kernel
theorem zkb_26 : (Int8.ofInt 26).toInt32 = nI 26 := by decide +kernel
theorem zkb_32 : (Int8.ofInt 32).toInt32 = nI 32 := by decide +kernel
theorem zkb_33 : (Int8.ofInt 33).toInt32 = nI 33 := by decide +kernel
theorem zkb_34 : (Int8.ofInt 34).toInt32 = nI 34 := by decide +kernel
theorem zkb_38 : (Int8.ofInt 38).toInt32 = nI 38 := by decide +kernel
theorem zkb_40 : (Int8.ofInt 40).toInt32 = nI 40 := by decide +kernel
theorem zkb_41 : (Int8.ofInt 41).toInt32 = nI 41 := by decide +kernel
theorem zkb_43 : (Int8.ofInt 43).toInt32 = nI 43 := by decide +kernel
theorem zkb_44 : (Int8.ofInt 44).toInt32 = nI 44 := by decide +kernel
theorem zkb_45 : (Int8.ofInt 45).toInt32 = nI 45 := by decide +kernel
theorem zkb_46 : (Int8.ofInt 46).toInt32 = nI 46 := by decide +kernel
theorem zkb_48 : (Int8.ofInt 48).toInt32 = nI 48 := by decide +kernel
theorem zkb_57 : (Int8.ofInt 57).toInt32 = nI 57 := by decide +kernel
theorem zkb_58 : (Int8.ofInt 58).toInt32 = nI 58 := by decide +kernel
theorem zkb_59 : (Int8.ofInt 59).toInt32 = nI 59 := by decide +kernel
theorem zkb_60 : (Int8.ofInt 60).toInt32 = nI 60 := by decide +kernel
theorem zkb_61 : (Int8.ofInt 61).toInt32 = nI 61 := by decide +kernel
theorem zkb_62 : (Int8.ofInt 62).toInt32 = nI 62 := by decide +kernel
theorem zkb_64 : (Int8.ofInt 64).toInt32 = nI 64 := by decide +kernel
theorem zkb_80 : (Int8.ofInt 80).toInt32 = nI 80 := by decide +kernel
theorem zkb_81 : (Int8.ofInt 81).toInt32 = nI 81 := by decide +kernel
theorem zkb_91 : (Int8.ofInt 91).toInt32 = nI 91 := by decide +kernel
theorem zkb_92 : (Int8.ofInt 92).toInt32 = nI 92 := by decide +kernel
theorem zkb_93 : (Int8.ofInt 93).toInt32 = nI 93 := by decide +kernel
theorem zkb_97 : (Int8.ofInt 97).toInt32 = nI 97 := by decide +kernel
theorem zkb_100 : (Int8.ofInt 100).toInt32 = nI 100 := by decide +kernel
theorem zkb_104 : (Int8.ofInt 104).toInt32 = nI 104 := by decide +kernel
theorem zkb_122 : (Int8.ofInt 122).toInt32 = nI 122 := by decide +kernel
theorem zkb_126 : (Int8.ofInt 126).toInt32 = nI 126 := by decide +kernel
theorem zki_0 : Int32.ofInt 0 = nI 0 := by decide +kernel
theorem zki_1 : Int32.ofInt 1 = nI 1 := by decide +kernel
theorem zki_2 : Int32.ofInt 2 = nI 2 := by decide +kernel
theorem zki_3 : Int32.ofInt 3 = nI 3 := by decide +kernel
theorem zki_4 : Int32.ofInt 4 = nI 4 := by decide +kernel
theorem zki_5 : Int32.ofInt 5 = nI 5 := by decide +kernel
theorem zks_160 : (Int16.ofInt 160).toInt32 = nI 160 := by decide +kernel
theorem zks_168 : (Int16.ofInt 168).toInt32 = nI 168 := by decide +kernel
theorem zks_240 : (Int16.ofInt 240).toInt32 = nI 240 := by decide +kernel
theorem zks_242 : (Int16.ofInt 242).toInt32 = nI 242 := by decide +kernel
theorem zks_255 : (Int16.ofInt 255).toInt32 = nI 255 := by decide +kernel
theorem zks_264 : (Int16.ofInt 264).toInt32 = nI 264 := by decide +kernel
theorem zks_300 : (Int16.ofInt 300).toInt32 = nI 300 := by decide +kernel
theorem zks_320 : (Int16.ofInt 320).toInt32 = nI 320 := by decide +kernel
theorem zks_500 : (Int16.ofInt 500).toInt32 = nI 500 := by decide +kernel
theorem zks_600 : (Int16.ofInt 600).toInt32 = nI 600 := by decide +kernel
theorem zks_625 : (Int16.ofInt 625).toInt32 = nI 625 := by decide +kernel
theorem zks_626 : (Int16.ofInt 626).toInt32 = nI 626 := by decide +kernel
theorem zks_1200 : (Int16.ofInt 1200).toInt32 = nI 1200 := by decide +kernel
theorem zks_1256 : (Int16.ofInt 1256).toInt32 = nI 1256 := by decide +kernel
theorem zks_2000 : (Int16.ofInt 2000).toInt32 = nI 2000 := by decide +kernel
theorem zks_2504 : (Int16.ofInt 2504).toInt32 = nI 2504 := by decide +kernel
theorem zks_3040 : (Int16.ofInt 3040).toInt32 = nI 3040 := by decide +kernel
theorem zks_4000 : (Int16.ofInt 4000).toInt32 = nI 4000 := by decide +kernel
theorem zks_6000 : (Int16.ofInt 6000).toInt32 = nI 6000 := by decide +kernel
theorem zks_12000 : (Int16.ofInt 12000).toInt32 = nI 12000 := by decide +kernel
section RC
variable {S : lm_S} {I : lm_I} {L : lm_L} {R : lm_R} {as : List Value} {r p : Nat}
theorem rc_s (h : r % 128 = 99) : lm_rc r as (S, I, L, R) = true := lm_rc_s h
theorem rc_x (hS : lp_shape S) (h : r % 128 = 9) : lm_rc r (.ref 0 :: as) (S, I, L, R) = true := lm_rc_v (by rw [h]; show (S.2.2 0).1 = 9; rw [sh_0 hS])
theorem rc_sol (hS : lp_shape S) (h : r % 128 = 5) : lm_rc r (.ref 70 :: as) (S, I, L, R) = true := lm_rc_v (by rw [h]; show (S.2.2 70).1 = 5; rw [sh_70 hS])
theorem rc_hunt (hS : lp_shape S) (h : r % 128 = 0) : lm_rc r (.ref 77 :: as) (S, I, L, R) = true := lm_rc_v (by rw [h]; show (S.2.2 77).1 = 0; rw [sh_77 hS])
theorem rc_mend (hS : lp_shape S) (h : r % 128 = 1) : lm_rc r (.ref 80 :: as) (S, I, L, R) = true := lm_rc_v (by rw [h]; show (S.2.2 80).1 = 1; rw [sh_80 hS])
theorem rc_wri (hS : lp_shape S) (h : r % 128 = 8) : lm_rc r (.ref 90 :: as) (S, I, L, R) = true := lm_rc_v (by rw [h]; show (S.2.2 90).1 = 8; rw [sh_90 hS])
theorem rc_mod (hS : lp_shape S) (h : r % 128 = 10) : lm_rc r (.ref 96 :: as) (S, I, L, R) = true := lm_rc_v (by rw [h]; show (S.2.2 96).1 = 10; rw [sh_96 hS])
theorem rc_p0 (hS : lp_shape S) (hp : p = 2 ∨ p = 36) (h : r % 128 = 3) : lm_rc r (.ref (p) :: as) (S, I, L, R) = true := lm_rc_v (by rw [h]; show (S.2.2 (p)).1 = 3; rw [pg_s hS hp])
theorem rc_p1 (hS : lp_shape S) (hp : p = 2 ∨ p = 36) (h : r % 128 = 6) : lm_rc r (.ref (p + 1) :: as) (S, I, L, R) = true := lm_rc_v (by rw [h]; show (S.2.2 (p + 1)).1 = 6; rw [pg_s1 hS hp])
theorem rc_p7 (hS : lp_shape S) (hp : p = 2 ∨ p = 36) (h : r % 128 = 7) : lm_rc r (.ref (p + 7) :: as) (S, I, L, R) = true := lm_rc_v (by rw [h]; show (S.2.2 (p + 7)).1 = 7; rw [pg_s7 hS hp])
theorem rc_p20 (hS : lp_shape S) (hp : p = 2 ∨ p = 36) (h : r % 128 = 2) : lm_rc r (.ref (p + 20) :: as) (S, I, L, R) = true := lm_rc_v (by rw [h]; show (S.2.2 (p + 20)).1 = 2; rw [pg_s20 hS hp])
theorem rc_p27 (hS : lp_shape S) (hp : p = 2 ∨ p = 36) (h : r % 128 = 4) : lm_rc r (.ref (p + 27) :: as) (S, I, L, R) = true := lm_rc_v (by rw [h]; show (S.2.2 (p + 27)).1 = 4; rw [pg_s27 hS hp])
theorem rc_ru (hS : lp_shape S) (hp : p = 29 ∨ p = 63 ∨ p = 81) (h : r % 128 = 4) : lm_rc r (.ref p :: as) (S, I, L, R) = true := lm_rc_v (by rw [h]; show (S.2.2 p).1 = 4; rw [ru_s hS hp])
end RC
end NORM
section SOLVER
variable {e u : Nat} {S : lm_S} {I : lm_I} {L : lm_L} {R : lm_R} {Q : Option Value → lm_M → Prop}
/-- n open cells -/
def opn (I : lm_I) (n : Nat) (P So Le Ri dp : Nat → Nat) : Prop := svf I n P So Le Ri dp 0 ∧ ∀ j, j < n → P j = j ∧ So j = 0
theorem l_80 (hS : lp_shape S) (hR : lp_refs R) {V : Nat} (hV : V ≤ 600) : ∀ (m v : Nat) (I : lm_I) (P So Le Ri dp : Nat → Nat), v + m = V → opn I v P So Le Ri dp →
    (∀ (I' : lm_I) (P' So' Le' Ri' dp' : Nat → Nat), opn I' V P' So' Le' Ri' dp' → (∀ o, (o < 70 ∨ 77 ≤ o) → I' o = I o) → lw (e + 1) 80 (lm_J 80 28) [.ref 70, .int (nI V), .int (nI V)] [] (S, I', L, R) Q) →
    lw (e + 1) 80 (lm_J 80 7) [.ref 70, .int (nI V), .int (nI v)] [] (S, I, L, R) Q := by
  intro m
  induction m with
  | zero =>
    intro v I P So Le Ri dp hm ho hQ
    have e1 : v = V := by omega
    subst e1
    rw [cb_80_7]
    simp (disch := omega) only [lk_v, lk_n, lm_isI_i, lm_isL_l, lm_isR_r, lm_vi_i, lwx_aload_0, lwx_aload_1, lwx_aload_2, lwx_aload_3, lw_iconst, lw_putI, lw_putL, lw_putR, lw_putZ, lwx_istore_0, lwx_istore_1, lwx_istore_2, lwx_istore_3, lwx_iload_0, lwx_iload_1, lwx_iload_2, lwx_iload_3, lw_icmp_ge, lw_bipush, lwx_invokevirtual_4, lw_pop_i, lw_pop_r, lwx_iinc, lw_goto, lw_getI, lw_getL, lw_getR, lw_getZ, lw_isub, lw_vret, List.getD_cons_zero, List.getD_cons_succ, lm_set1, lm_set2, lm_cut, List.getElem?_cons_zero, List.getElem?_cons_succ, List.set_cons_zero, List.set_cons_succ, List.length_cons, List.length_nil, List.map_cons, List.map_nil, List.sum_cons, List.sum_nil, Value.category, Nat.reduceAdd, Nat.reduceDiv, Nat.reduceMod, Nat.reduceLT, Nat.reduceLeDiff, Nat.reduceMul, Int.toNat_natCast, Int.reduceToNat, true_and, and_true, lm_rok_1, lm_rok_20, lm_rok_21, lm_rok_0, lm_args, lm_ent, List.nil_append, List.cons_append, List.replicate, Nat.reduceSub, if_false, if_true, reduceCtorEq, Nat.reduceEqDiff, Bool.or_true, Bool.true_or, Bool.or_false, Bool.false_or, Bool.and_true, Bool.true_and, BEq.rfl, beq_self_eq_true, kb_m94, kb_m92, kb_m63, kb_m46, kb_m45, kb_m42, kb_m41, kb_m33, kb_m10, kb_m9, kb_m4, kb_m3, kb_m2, zkb_6, zkb_7, zkb_8, zkb_9, zkb_10, zkb_11, zkb_12, zkb_13, zkb_14, zkb_15, zkb_16, zkb_17, zkb_18, zkb_19, zkb_20, zkb_21, zkb_22, zkb_23, zkb_24, zkb_26, zkb_32, zkb_33, zkb_34, zkb_38, zkb_40, zkb_41, zkb_43, zkb_44, zkb_45, zkb_46, zkb_48, zkb_57, zkb_58, zkb_59, zkb_60, zkb_61, zkb_62, zkb_64, zkb_80, zkb_81, zkb_91, zkb_92, zkb_93, zkb_97, zkb_100, zkb_104, zkb_122, zkb_126, ki_m8, ki_m2, ki_m1, zki_0, zki_1, zki_2, zki_3, zki_4, zki_5, zks_160, zks_168, zks_240, zks_242, zks_255, zks_264, zks_300, zks_320, zks_500, zks_600, zks_625, zks_626, zks_1200, zks_1256, zks_2000, zks_2504, zks_3040, zks_4000, zks_6000, zks_12000, kl_0, kl_1, z_lt, z_le, z_eq, z_eq0, z_eq1, z_lt0, z_le0, z_0lt, z_0le, z_add, z_sub, z_add1, z_addn, z_addm, z_mul, z_cl, z_n9, z_n9s, z_n90, z_ne9, z_ne9s, z_lt_t, z_lt_f, z_le_t, z_le_f, z_eq_t, z_eq_f, z_pus, z_pun, z_row, or_self, or_false, false_or, true_or, or_true, and_self, and_false, false_and, not_true_eq_false, not_false_eq_true, false_implies, true_implies, implies_true, ne_eq, lm_row_s, lm_row_row, lm_up_row, rc_s, Classical.not_not, Nat.add_sub_cancel, i10, ml_80, rt_80]
    exact hQ I P So Le Ri dp ho (fun _ _ => rfl)
  | succ m ih =>
    intro v I P So Le Ri dp hm ho hQ
    rw [cb_80_7]
    simp (disch := omega) only [lk_v, lk_n, lm_isI_i, lm_isL_l, lm_isR_r, lm_vi_i, lwx_aload_0, lwx_aload_1, lwx_aload_2, lwx_aload_3, lw_iconst, lw_putI, lw_putL, lw_putR, lw_putZ, lwx_istore_0, lwx_istore_1, lwx_istore_2, lwx_istore_3, lwx_iload_0, lwx_iload_1, lwx_iload_2, lwx_iload_3, lw_icmp_ge, lw_bipush, lwx_invokevirtual_4, lw_pop_i, lw_pop_r, lwx_iinc, lw_goto, lw_getI, lw_getL, lw_getR, lw_getZ, lw_isub, lw_vret, List.getD_cons_zero, List.getD_cons_succ, lm_set1, lm_set2, lm_cut, List.getElem?_cons_zero, List.getElem?_cons_succ, List.set_cons_zero, List.set_cons_succ, List.length_cons, List.length_nil, List.map_cons, List.map_nil, List.sum_cons, List.sum_nil, Value.category, Nat.reduceAdd, Nat.reduceDiv, Nat.reduceMod, Nat.reduceLT, Nat.reduceLeDiff, Nat.reduceMul, Int.toNat_natCast, Int.reduceToNat, true_and, and_true, lm_rok_1, lm_rok_20, lm_rok_21, lm_rok_0, lm_args, lm_ent, List.nil_append, List.cons_append, List.replicate, Nat.reduceSub, if_false, if_true, reduceCtorEq, Nat.reduceEqDiff, Bool.or_true, Bool.true_or, Bool.or_false, Bool.false_or, Bool.and_true, Bool.true_and, BEq.rfl, beq_self_eq_true, kb_m94, kb_m92, kb_m63, kb_m46, kb_m45, kb_m42, kb_m41, kb_m33, kb_m10, kb_m9, kb_m4, kb_m3, kb_m2, zkb_6, zkb_7, zkb_8, zkb_9, zkb_10, zkb_11, zkb_12, zkb_13, zkb_14, zkb_15, zkb_16, zkb_17, zkb_18, zkb_19, zkb_20, zkb_21, zkb_22, zkb_23, zkb_24, zkb_26, zkb_32, zkb_33, zkb_34, zkb_38, zkb_40, zkb_41, zkb_43, zkb_44, zkb_45, zkb_46, zkb_48, zkb_57, zkb_58, zkb_59, zkb_60, zkb_61, zkb_62, zkb_64, zkb_80, zkb_81, zkb_91, zkb_92, zkb_93, zkb_97, zkb_100, zkb_104, zkb_122, zkb_126, ki_m8, ki_m2, ki_m1, zki_0, zki_1, zki_2, zki_3, zki_4, zki_5, zks_160, zks_168, zks_240, zks_242, zks_255, zks_264, zks_300, zks_320, zks_500, zks_600, zks_625, zks_626, zks_1200, zks_1256, zks_2000, zks_2504, zks_3040, zks_4000, zks_6000, zks_12000, kl_0, kl_1, z_lt, z_le, z_eq, z_eq0, z_eq1, z_lt0, z_le0, z_0lt, z_0le, z_add, z_sub, z_add1, z_addn, z_addm, z_mul, z_cl, z_n9, z_n9s, z_n90, z_ne9, z_ne9s, z_lt_t, z_lt_f, z_le_t, z_le_f, z_eq_t, z_eq_f, z_pus, z_pun, z_row, or_self, or_false, false_or, true_or, or_true, and_self, and_false, false_and, not_true_eq_false, not_false_eq_true, false_implies, true_implies, implies_true, ne_eq, lm_row_s, lm_row_row, lm_up_row, rc_s, Classical.not_not, Nat.add_sub_cancel, i10, ml_80, rt_80, rc_sol hS, sh_70 hS, sh_71 hS, sh_72 hS, sh_73 hS, sh_74 hS, sh_75 hS, sh_76 hS, rf_70_0 hR, rf_70_1 hR, rf_70_2 hR, rf_70_3 hR, rf_70_4 hR, rf_70_5 hR]
    have hk := k_81 (e := e) (Q := lk (e + 1) 80 ((21, .pop) :: (22, .iinc 2 1) :: (25, .goto 7) :: lm_J 80 28) [.ref 70, .int (nI V), .int (nI v)] [] Q) (L := L) hS hR ho.1 (by omega) 0 0 0 (by omega) (by omega) (by omega) (fun I1 h1 f1 => by
      simp (disch := omega) only [lk_v, lk_n, lm_isI_i, lm_isL_l, lm_isR_r, lm_vi_i, lwx_aload_0, lwx_aload_1, lwx_aload_2, lwx_aload_3, lw_iconst, lw_putI, lw_putL, lw_putR, lw_putZ, lwx_istore_0, lwx_istore_1, lwx_istore_2, lwx_istore_3, lwx_iload_0, lwx_iload_1, lwx_iload_2, lwx_iload_3, lw_icmp_ge, lw_bipush, lwx_invokevirtual_4, lw_pop_i, lw_pop_r, lwx_iinc, lw_goto, lw_getI, lw_getL, lw_getR, lw_getZ, lw_isub, lw_vret, List.getD_cons_zero, List.getD_cons_succ, lm_set1, lm_set2, lm_cut, List.getElem?_cons_zero, List.getElem?_cons_succ, List.set_cons_zero, List.set_cons_succ, List.length_cons, List.length_nil, List.map_cons, List.map_nil, List.sum_cons, List.sum_nil, Value.category, Nat.reduceAdd, Nat.reduceDiv, Nat.reduceMod, Nat.reduceLT, Nat.reduceLeDiff, Nat.reduceMul, Int.toNat_natCast, Int.reduceToNat, true_and, and_true, lm_rok_1, lm_rok_20, lm_rok_21, lm_rok_0, lm_args, lm_ent, List.nil_append, List.cons_append, List.replicate, Nat.reduceSub, if_false, if_true, reduceCtorEq, Nat.reduceEqDiff, Bool.or_true, Bool.true_or, Bool.or_false, Bool.false_or, Bool.and_true, Bool.true_and, BEq.rfl, beq_self_eq_true, kb_m94, kb_m92, kb_m63, kb_m46, kb_m45, kb_m42, kb_m41, kb_m33, kb_m10, kb_m9, kb_m4, kb_m3, kb_m2, zkb_6, zkb_7, zkb_8, zkb_9, zkb_10, zkb_11, zkb_12, zkb_13, zkb_14, zkb_15, zkb_16, zkb_17, zkb_18, zkb_19, zkb_20, zkb_21, zkb_22, zkb_23, zkb_24, zkb_26, zkb_32, zkb_33, zkb_34, zkb_38, zkb_40, zkb_41, zkb_43, zkb_44, zkb_45, zkb_46, zkb_48, zkb_57, zkb_58, zkb_59, zkb_60, zkb_61, zkb_62, zkb_64, zkb_80, zkb_81, zkb_91, zkb_92, zkb_93, zkb_97, zkb_100, zkb_104, zkb_122, zkb_126, ki_m8, ki_m2, ki_m1, zki_0, zki_1, zki_2, zki_3, zki_4, zki_5, zks_160, zks_168, zks_240, zks_242, zks_255, zks_264, zks_300, zks_320, zks_500, zks_600, zks_625, zks_626, zks_1200, zks_1256, zks_2000, zks_2504, zks_3040, zks_4000, zks_6000, zks_12000, kl_0, kl_1, z_lt, z_le, z_eq, z_eq0, z_eq1, z_lt0, z_le0, z_0lt, z_0le, z_add, z_sub, z_add1, z_addn, z_addm, z_mul, z_cl, z_n9, z_n9s, z_n90, z_ne9, z_ne9s, z_lt_t, z_lt_f, z_le_t, z_le_f, z_eq_t, z_eq_f, z_pus, z_pun, z_row, or_self, or_false, false_or, true_or, or_true, and_self, and_false, false_and, not_true_eq_false, not_false_eq_true, false_implies, true_implies, implies_true, ne_eq, lm_row_s, lm_row_row, lm_up_row, rc_s, Classical.not_not, Nat.add_sub_cancel, i10, ml_80, rt_80, rc_sol hS, sh_70 hS, sh_71 hS, sh_72 hS, sh_73 hS, sh_74 hS, sh_75 hS, sh_76 hS, rf_70_0 hR, rf_70_1 hR, rf_70_2 hR, rf_70_3 hR, rf_70_4 hR, rf_70_5 hR]
      refine ih (v + 1) I1 _ _ _ _ _ (by omega) ⟨h1, fun j hj => ?_⟩ (fun I' P' So' Le' Ri' dp' g1 g2 => hQ I' P' So' Le' Ri' dp' g1 (fun o q => (g2 o q).trans (f1.1 o q)))
      by_cases q : j = v
      · subst q; exact ⟨ext_s, ext_s⟩
      · rw [ext_n q, ext_n q]; exact ho.2 j (by omega))
    exact hk
end SOLVER
