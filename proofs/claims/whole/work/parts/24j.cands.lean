/-! ===== what may be changed ===== -/
def pre (C : Nat → List N3) : Nat → List N3
  | 0 => []
  | k + 1 => pre C k ++ C k
def kkz (ky bi : Nat → Int64) (z : Zt) (m : Nat) : Int64 := if m < 11 then bi m else ky (z 20 (m - 11))
abbrev rcz (ky bi : Nat → Int64) (z : Zt) (n m : Nat) : Prop := cmg (kbz ky z) bi (z 16) (z 30 1) (kkz ky bi z m) (clz z n) = m
def nml (ky bi : Nat → Int64) (z : Zt) (mn : Nat → Nat) (n m : Nat) : List N3 := if m ≠ mn n ∧ rcz ky bi z n m then [(0, n, m)] else []
def cd1 (ky bi : Nat → Int64) (z : Zt) (mn : Nat → Nat) (n : Nat) : List N3 := if z 0 n = 0 then pre (nml ky bi z mn n) (11 + z 30 2) else if z 0 n = 1 ∨ z 0 n = 2 then [(1, n, 1000)] else []
def cd2 (z : Zt) (n : Nat) : List N3 := if cca z n then [(2, n, 1000)] else if z 0 n = 12 ∨ z 0 n = 13 then [(3, n, 1000)] else []
def cd3 (z : Zt) (n : Nat) : List N3 := if z 0 n = 3 then [(4, n, 1000)] else []
def cd4 (n : Nat) : List N3 := [(5, n, 1000), (6, n, 1000), (7, n, 1000)]
def cdA (ky bi : Nat → Int64) (z : Zt) (mn : Nat → Nat) : List N3 := pre (cd1 ky bi z mn) (z 30 0) ++ pre (cd2 z) (z 30 0) ++ pre (cd3 z) (z 30 0) ++ pre cd4 (z 30 0)
section CANDS
variable {kd pl : Nat → Nat} {nt e p c : Nat} {S : lm_S} {I : lm_I} {L : lm_L} {R : lm_R} {Q : Option Value → lm_M → Prop} {z : Zt} {ky bi : Nat → Int64} {mn : Nat → Nat} {l : Nat → Rr} {f : N3 → Bool} {A : List N3} {n m k : Nat}
theorem pre_len {C : Nat → List N3} {b : Nat} (h : ∀ i, i < k → (C i).length ≤ b) : (pre C k).length ≤ b * k := by
  induction k with
  | zero => exact Nat.le_refl _
  | succ k ih =>
    have a := ih (fun i hi => h i (by omega))
    have d := h k (by omega)
    show (pre C k ++ C k).length ≤ _
    rw [List.length_append, Nat.mul_succ]
    omega
theorem pre_mem {C : Nat → List N3} {q : N3} : q ∈ pre C k ↔ ∃ i, i < k ∧ q ∈ C i := by
  induction k with
  | zero => exact ⟨fun h => absurd h (List.not_mem_nil), fun ⟨i, hi, _⟩ => absurd hi (Nat.not_lt_zero _)⟩
  | succ k ih =>
    show q ∈ pre C k ++ C k ↔ _
    rw [List.mem_append, ih]
    constructor
    · rintro (⟨i, hi, h⟩ | h)
      · exact ⟨i, by omega, h⟩
      · exact ⟨k, by omega, h⟩
    · rintro ⟨i, hi, h⟩
      by_cases q : i = k
      · rw [q] at h; exact Or.inr h
      · exact Or.inl ⟨i, by omega, h⟩
theorem nml_len : (nml ky bi z mn n m).length ≤ 1 := by unfold nml; split <;> simp
theorem cd1_len (B22 : z 30 2 ≤ 22) : (cd1 ky bi z mn n).length ≤ 33 := by
  unfold cd1
  split
  · have := pre_len (C := nml ky bi z mn n) (k := 11 + z 30 2) (b := 1) (fun i _ => nml_len)
    omega
  · split <;> simp
theorem cd2_len : (cd2 z n).length ≤ 1 := by
  unfold cd2
  split
  · simp
  · split <;> simp
theorem cd3_len : (cd3 z n).length ≤ 1 := by unfold cd3; split <;> simp
theorem OKC_0 (hn : n < z 30 0) (h0 : z 0 n = 0) (hm : m < 11 + z 30 2) : OKC z (0, n, m) := ⟨⟨by show 0 ≤ 7; omega, hn, fun _ => ⟨h0, hm⟩, fun q => absurd (show 0 = 1 from q) (by decide), fun q => absurd (show 0 = 2 from q) (by decide), fun q => absurd (show 0 = 3 from q) (by decide), fun q => absurd (show 0 = 4 from q) (by decide)⟩, fun q => absurd (show 0 = 2 from q) (by decide), fun q => absurd rfl q⟩
theorem OKC_x {cs : Nat} (hn : n < z 30 0) (c0 : cs ≠ 0) (c7 : cs ≤ 7) (c1 : cs = 1 → z 0 n = 1 ∨ z 0 n = 2) (c2 : cs = 2 → cca z n) (c3 : cs = 3 → z 0 n = 12 ∨ z 0 n = 13) (c4 : cs = 4 → z 0 n = 3) : OKC z (cs, n, 1000) := ⟨⟨c7, hn, fun q => absurd q c0, c1, fun q => ⟨(c2 q).1, (c2 q).2.1⟩, c3, c4⟩, c2, fun _ => rfl⟩
theorem cdA_ok {q : N3} (h : q ∈ cdA ky bi z mn) : OKC z q := by
  unfold cdA at h
  rw [List.mem_append, List.mem_append, List.mem_append] at h
  rcases h with ((h | h) | h) | h
  · obtain ⟨i, hi, h⟩ := pre_mem.mp h
    unfold cd1 at h
    split at h
    · rename_i h0
      obtain ⟨j, hj, h⟩ := pre_mem.mp h
      unfold nml at h
      split at h
      · rw [List.mem_singleton.mp h]; exact OKC_0 hi h0 hj
      · exact absurd h (List.not_mem_nil)
    · split at h
      · rename_i h1
        rw [List.mem_singleton.mp h]; exact OKC_x hi (by decide) (by decide) (fun _ => h1) (fun q => absurd q (by decide)) (fun q => absurd q (by decide)) (fun q => absurd q (by decide))
      · exact absurd h (List.not_mem_nil)
  · obtain ⟨i, hi, h⟩ := pre_mem.mp h
    unfold cd2 at h
    split at h
    · rename_i h1
      rw [List.mem_singleton.mp h]; exact OKC_x hi (by decide) (by decide) (fun q => absurd q (by decide)) (fun _ => h1) (fun q => absurd q (by decide)) (fun q => absurd q (by decide))
    · split at h
      · rename_i h1
        rw [List.mem_singleton.mp h]; exact OKC_x hi (by decide) (by decide) (fun q => absurd q (by decide)) (fun q => absurd q (by decide)) (fun _ => h1) (fun q => absurd q (by decide))
      · exact absurd h (List.not_mem_nil)
  · obtain ⟨i, hi, h⟩ := pre_mem.mp h
    unfold cd3 at h
    split at h
    · rename_i h1
      rw [List.mem_singleton.mp h]; exact OKC_x hi (by decide) (by decide) (fun q => absurd q (by decide)) (fun q => absurd q (by decide)) (fun q => absurd q (by decide)) (fun _ => h1)
    · exact absurd h (List.not_mem_nil)
  · obtain ⟨i, hi, h⟩ := pre_mem.mp h
    have h : q = (5, i, 1000) ∨ q = (6, i, 1000) ∨ q = (7, i, 1000) := by simpa [cd4] using h
    rcases h with rfl | rfl | rfl
    all_goals exact OKC_x hi (by decide) (by decide) (fun q => absurd q (by decide)) (fun q => absurd q (by decide)) (fun q => absurd q (by decide)) (fun q => absurd q (by decide))
theorem nmC_fr {kb : Nat → Int64} {ot hb : Nat → Nat} {D B : Nat} {I' : lm_I} (hp : p = 2 ∨ p = 36) (h : nmC kb bi ot hb D B I L p) (g : ∀ o, o < 70 → I' o = I o) : nmC kb bi ot hb D B I' L p := by
  obtain ⟨⟨a1, a2, a3, a4⟩, b, d, e⟩ := h
  exact ⟨⟨a1, a2, by rw [g _ (by omega)]; exact a3, by rw [g _ (by omega)]; exact a4⟩, b, fun b hb => by rw [g _ (by omega)]; exact d b hb, fun d hd => by rw [g _ (by omega)]; exact e d hd⟩
/-- reaches -/
theorem c_35 (hS : lp_shape S) (hR : lp_refs R) (hp : p = 2 ∨ p = 36) (hT : TX kd pl nt z) (ho : hot z) (hN : nmC (kbz ky z) bi (z 21) (z 16) (z 30 1) (z 30 2) I L p) (hn : n < z 30 0) (hm : m < 11 + z 30 2) (hQ : Q (some (.int (nI (if rcz ky bi z n m then 1 else 0)))) (S, I, L, R)) : lc (e + 2) 35 [.ref (p + 20), .int (nI m), .int (oN (z 10 n))] (S, I, L, R) Q := by
  obtain ⟨⟨c1, c2⟩, -⟩ := node_ch hT ho hn
  have B22 := hN.1.2.1
  have h8 := hN.1.2.2.2
  have hk : L (p + 21) m = kkz ky bi z m := by
    unfold kkz
    split
    · rename_i q; exact hN.2.1 m q
    · rename_i q
      have := (hN.2.2.1 (m - 11) (by omega)).1
      rw [show 11 + (m - 11) = m by omega] at this
      exact this
  have e34 : ∀ Q, lc (e + 1) 34 [.ref (p + 20), .long (kkz ky bi z m), .int (oN (z 10 n))] (S, I, L, R) Q = Q (some (.int (oN (cmg (kbz ky z) bi (z 16) (z 30 1) (kkz ky bi z m) (clz z n))))) (S, I, L, R) := fun Q => c_34 hS hR hp hN c1 c2
  unfold rcz at hQ
  rw [lc_succ, cb_35]
  by_cases q : cmg (kbz ky z) bi (z 16) (z 30 1) (kkz ky bi z m) (clz z n) = m
  · rw [if_pos q] at hQ
    rw [q] at e34
    have eo : oN m = nI m := oN_lt (by omega)
    rw [eo] at e34
    simp (disch := omega) only [lk_v, lk_n, lm_isI_i, lm_isL_l, lm_isR_r, lm_vi_i, lwx_iload_0, lwx_iload_1, lwx_iload_2, lwx_iload_3, lw_if_lt, lwx_aload_0, lwx_aload_1, lwx_aload_2, lwx_aload_3, lw_getI, lw_getL, lw_getR, lw_getZ, lw_icmp_ge, lw_laload, lwx_invokevirtual_3, lw_icmp_ne, lw_iconst, lw_goto, lw_iret, List.getD_cons_zero, List.getD_cons_succ, lm_set1, lm_set2, lm_cut, List.getElem?_cons_zero, List.getElem?_cons_succ, List.set_cons_zero, List.set_cons_succ, List.length_cons, List.length_nil, List.map_cons, List.map_nil, List.sum_cons, List.sum_nil, Value.category, Nat.reduceAdd, Nat.reduceDiv, Nat.reduceMod, Nat.reduceLT, Nat.reduceLeDiff, Nat.reduceMul, Int.toNat_natCast, Int.reduceToNat, true_and, and_true, lm_rok_1, lm_rok_20, lm_rok_21, lm_rok_0, lm_args, lm_ent, List.nil_append, List.cons_append, List.replicate, Nat.reduceSub, if_false, if_true, reduceCtorEq, Nat.reduceEqDiff, Bool.or_true, Bool.true_or, Bool.or_false, Bool.false_or, Bool.and_true, Bool.true_and, BEq.rfl, beq_self_eq_true, kb_m94, kb_m92, kb_m63, kb_m46, kb_m45, kb_m42, kb_m41, kb_m33, kb_m10, kb_m9, kb_m4, kb_m3, kb_m2, zkb_6, zkb_7, zkb_8, zkb_9, zkb_10, zkb_11, zkb_12, zkb_13, zkb_14, zkb_15, zkb_16, zkb_17, zkb_18, zkb_19, zkb_20, zkb_21, zkb_22, zkb_23, zkb_24, zkb_26, zkb_32, zkb_33, zkb_34, zkb_38, zkb_40, zkb_41, zkb_43, zkb_44, zkb_45, zkb_46, zkb_48, zkb_57, zkb_58, zkb_59, zkb_60, zkb_61, zkb_62, zkb_64, zkb_80, zkb_81, zkb_91, zkb_92, zkb_93, zkb_97, zkb_100, zkb_104, zkb_122, zkb_126, ki_m8, ki_m2, ki_m1, zki_0, zki_1, zki_2, zki_3, zki_4, zki_5, zks_160, zks_168, zks_240, zks_242, zks_255, zks_264, zks_300, zks_320, zks_500, zks_600, zks_625, zks_626, zks_1200, zks_1256, zks_2000, zks_2504, zks_3040, zks_4000, zks_6000, zks_12000, kl_0, kl_1, z_lt, z_le, z_eq, z_eq0, z_eq1, z_lt0, z_le0, z_0lt, z_0le, z_add, z_sub, z_add1, z_addn, z_addm, z_mul, z_cl, z_n9, z_n9s, z_n90, z_ne9, z_ne9s, z_lt_t, z_lt_f, z_le_t, z_le_f, z_eq_t, z_eq_f, z_pus, z_pun, z_row, or_self, or_false, false_or, true_or, or_true, and_self, and_false, false_and, not_true_eq_false, not_false_eq_true, false_implies, true_implies, implies_true, ne_eq, lm_row_s, lm_row_row, lm_up_row, rc_s, Classical.not_not, Nat.add_sub_cancel, i10, z_on, rok2_0, rok2_1, ml_35, rt_35, cb_35_31, cb_35_32, rc_p0 hS hp, rc_p1 hS hp, rc_p7 hS hp, rc_p20 hS hp, rc_p27 hS hp, pg_s20 hS hp, pg_s21 hS hp, pg_r20_0 hR hp, pg_r20_1 hR hp, pg_r20_2 hR hp, pg_r20_3 hR hp, pg_r20_4 hR hp, pg_r20_5 hR hp, h8, hk, e34]
    exact hQ
  · rw [if_neg q] at hQ
    by_cases q2 : cmg (kbz ky z) bi (z 16) (z 30 1) (kkz ky bi z m) (clz z n) < 1000
    · rw [oN_lt q2] at e34
      simp (disch := omega) only [lk_v, lk_n, lm_isI_i, lm_isL_l, lm_isR_r, lm_vi_i, lwx_iload_0, lwx_iload_1, lwx_iload_2, lwx_iload_3, lw_if_lt, lwx_aload_0, lwx_aload_1, lwx_aload_2, lwx_aload_3, lw_getI, lw_getL, lw_getR, lw_getZ, lw_icmp_ge, lw_laload, lwx_invokevirtual_3, lw_icmp_ne, lw_iconst, lw_goto, lw_iret, List.getD_cons_zero, List.getD_cons_succ, lm_set1, lm_set2, lm_cut, List.getElem?_cons_zero, List.getElem?_cons_succ, List.set_cons_zero, List.set_cons_succ, List.length_cons, List.length_nil, List.map_cons, List.map_nil, List.sum_cons, List.sum_nil, Value.category, Nat.reduceAdd, Nat.reduceDiv, Nat.reduceMod, Nat.reduceLT, Nat.reduceLeDiff, Nat.reduceMul, Int.toNat_natCast, Int.reduceToNat, true_and, and_true, lm_rok_1, lm_rok_20, lm_rok_21, lm_rok_0, lm_args, lm_ent, List.nil_append, List.cons_append, List.replicate, Nat.reduceSub, if_false, if_true, reduceCtorEq, Nat.reduceEqDiff, Bool.or_true, Bool.true_or, Bool.or_false, Bool.false_or, Bool.and_true, Bool.true_and, BEq.rfl, beq_self_eq_true, kb_m94, kb_m92, kb_m63, kb_m46, kb_m45, kb_m42, kb_m41, kb_m33, kb_m10, kb_m9, kb_m4, kb_m3, kb_m2, zkb_6, zkb_7, zkb_8, zkb_9, zkb_10, zkb_11, zkb_12, zkb_13, zkb_14, zkb_15, zkb_16, zkb_17, zkb_18, zkb_19, zkb_20, zkb_21, zkb_22, zkb_23, zkb_24, zkb_26, zkb_32, zkb_33, zkb_34, zkb_38, zkb_40, zkb_41, zkb_43, zkb_44, zkb_45, zkb_46, zkb_48, zkb_57, zkb_58, zkb_59, zkb_60, zkb_61, zkb_62, zkb_64, zkb_80, zkb_81, zkb_91, zkb_92, zkb_93, zkb_97, zkb_100, zkb_104, zkb_122, zkb_126, ki_m8, ki_m2, ki_m1, zki_0, zki_1, zki_2, zki_3, zki_4, zki_5, zks_160, zks_168, zks_240, zks_242, zks_255, zks_264, zks_300, zks_320, zks_500, zks_600, zks_625, zks_626, zks_1200, zks_1256, zks_2000, zks_2504, zks_3040, zks_4000, zks_6000, zks_12000, kl_0, kl_1, z_lt, z_le, z_eq, z_eq0, z_eq1, z_lt0, z_le0, z_0lt, z_0le, z_add, z_sub, z_add1, z_addn, z_addm, z_mul, z_cl, z_n9, z_n9s, z_n90, z_ne9, z_ne9s, z_lt_t, z_lt_f, z_le_t, z_le_f, z_eq_t, z_eq_f, z_pus, z_pun, z_row, or_self, or_false, false_or, true_or, or_true, and_self, and_false, false_and, not_true_eq_false, not_false_eq_true, false_implies, true_implies, implies_true, ne_eq, lm_row_s, lm_row_row, lm_up_row, rc_s, Classical.not_not, Nat.add_sub_cancel, i10, z_on, rok2_0, rok2_1, ml_35, rt_35, cb_35_31, cb_35_32, rc_p0 hS hp, rc_p1 hS hp, rc_p7 hS hp, rc_p20 hS hp, rc_p27 hS hp, pg_s20 hS hp, pg_s21 hS hp, pg_r20_0 hR hp, pg_r20_1 hR hp, pg_r20_2 hR hp, pg_r20_3 hR hp, pg_r20_4 hR hp, pg_r20_5 hR hp, h8, hk, e34]
      exact hQ
    · have eo : oN (cmg (kbz ky z) bi (z 16) (z 30 1) (kkz ky bi z m) (clz z n)) = -9 := if_neg q2
      rw [eo] at e34
      simp (disch := omega) only [lk_v, lk_n, lm_isI_i, lm_isL_l, lm_isR_r, lm_vi_i, lwx_iload_0, lwx_iload_1, lwx_iload_2, lwx_iload_3, lw_if_lt, lwx_aload_0, lwx_aload_1, lwx_aload_2, lwx_aload_3, lw_getI, lw_getL, lw_getR, lw_getZ, lw_icmp_ge, lw_laload, lwx_invokevirtual_3, lw_icmp_ne, lw_iconst, lw_goto, lw_iret, List.getD_cons_zero, List.getD_cons_succ, lm_set1, lm_set2, lm_cut, List.getElem?_cons_zero, List.getElem?_cons_succ, List.set_cons_zero, List.set_cons_succ, List.length_cons, List.length_nil, List.map_cons, List.map_nil, List.sum_cons, List.sum_nil, Value.category, Nat.reduceAdd, Nat.reduceDiv, Nat.reduceMod, Nat.reduceLT, Nat.reduceLeDiff, Nat.reduceMul, Int.toNat_natCast, Int.reduceToNat, true_and, and_true, lm_rok_1, lm_rok_20, lm_rok_21, lm_rok_0, lm_args, lm_ent, List.nil_append, List.cons_append, List.replicate, Nat.reduceSub, if_false, if_true, reduceCtorEq, Nat.reduceEqDiff, Bool.or_true, Bool.true_or, Bool.or_false, Bool.false_or, Bool.and_true, Bool.true_and, BEq.rfl, beq_self_eq_true, kb_m94, kb_m92, kb_m63, kb_m46, kb_m45, kb_m42, kb_m41, kb_m33, kb_m10, kb_m9, kb_m4, kb_m3, kb_m2, zkb_6, zkb_7, zkb_8, zkb_9, zkb_10, zkb_11, zkb_12, zkb_13, zkb_14, zkb_15, zkb_16, zkb_17, zkb_18, zkb_19, zkb_20, zkb_21, zkb_22, zkb_23, zkb_24, zkb_26, zkb_32, zkb_33, zkb_34, zkb_38, zkb_40, zkb_41, zkb_43, zkb_44, zkb_45, zkb_46, zkb_48, zkb_57, zkb_58, zkb_59, zkb_60, zkb_61, zkb_62, zkb_64, zkb_80, zkb_81, zkb_91, zkb_92, zkb_93, zkb_97, zkb_100, zkb_104, zkb_122, zkb_126, ki_m8, ki_m2, ki_m1, zki_0, zki_1, zki_2, zki_3, zki_4, zki_5, zks_160, zks_168, zks_240, zks_242, zks_255, zks_264, zks_300, zks_320, zks_500, zks_600, zks_625, zks_626, zks_1200, zks_1256, zks_2000, zks_2504, zks_3040, zks_4000, zks_6000, zks_12000, kl_0, kl_1, z_lt, z_le, z_eq, z_eq0, z_eq1, z_lt0, z_le0, z_0lt, z_0le, z_add, z_sub, z_add1, z_addn, z_addm, z_mul, z_cl, z_n9, z_n9s, z_n90, z_ne9, z_ne9s, z_lt_t, z_lt_f, z_le_t, z_le_f, z_eq_t, z_eq_f, z_pus, z_pun, z_row, or_self, or_false, false_or, true_or, or_true, and_self, and_false, false_and, not_true_eq_false, not_false_eq_true, false_implies, true_implies, implies_true, ne_eq, lm_row_s, lm_row_row, lm_up_row, rc_s, Classical.not_not, Nat.add_sub_cancel, i10, z_on, rok2_0, rok2_1, ml_35, rt_35, cb_35_31, cb_35_32, rc_p0 hS hp, rc_p1 hS hp, rc_p7 hS hp, rc_p20 hS hp, rc_p27 hS hp, pg_s20 hS hp, pg_s21 hS hp, pg_r20_0 hR hp, pg_r20_1 hR hp, pg_r20_2 hR hp, pg_r20_3 hR hp, pg_r20_4 hR hp, pg_r20_5 hR hp, h8, hk, e34]
      exact hQ
end CANDS
