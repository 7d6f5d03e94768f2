/-! ===== the solver makes cells ===== -/
def ext (f : Nat → Nat) (n x : Nat) : Nat → Nat := fun j => if j = n then x else f j
theorem ext_s {f : Nat → Nat} {n x : Nat} : ext f n x n = x := if_pos rfl
theorem ext_n {f : Nat → Nat} {n x j : Nat} (h : j ≠ n) : ext f n x j = f j := if_neg h
theorem ext_lt {f : Nat → Nat} {n x j : Nat} (h : j < n) : ext f n x j = f j := if_neg (Nat.ne_of_lt h)
def svf (I : lm_I) (n : Nat) (P So Le Ri dp : Nat → Nat) (u : Nat) : Prop := sv I n P So Le Ri ∧ fo P n dp u ∧ u + rc P n = n ∧ cl n P So Le Ri
def cellI (I : lm_I) (n : Nat) (s l r : Int32) : lm_I := lm_row (lm_row (lm_row (lm_row (lm_row I 71 (upd (I 71) n (nI n))) 72 (upd (I 72) n s)) 73 (upd (I 73) n l)) 74 (upd (I 74) n r)) 70 (upd (I 70) 6 (nI (n + 1)))
theorem cellI_o {I : lm_I} {n : Nat} {s l r : Int32} {o : Nat} (h : o < 70 ∨ 75 ≤ o) : cellI I n s l r o = I o := by
  unfold cellI
  rw [lm_row_n (by omega), lm_row_n (by omega), lm_row_n (by omega), lm_row_n (by omega), lm_row_n (by omega)]
theorem cellI_7 {I : lm_I} {n : Nat} {s l r : Int32} : cellI I n s l r 70 7 = I 70 7 := by
  unfold cellI
  rw [lm_row_s]
  rfl
section SOLVER
variable {e n u : Nat} {S : lm_S} {I : lm_I} {L : lm_L} {R : lm_R} {Q : Option Value → lm_M → Prop} {P So Le Ri dp : Nat → Nat}
/-- Solver.cell -/
theorem c_81 (hS : lp_shape S) (hR : lp_refs R) {s l r : Int32} (hn : I 70 6 = nI n) (hn1 : n < 626) : lc (e + 1) 81 [.ref 70, .int s, .int l, .int r] (S, I, L, R) Q = Q (some (.int (nI n))) (S, cellI I n s l r, L, R) := by
  have h1 : (nI n < 626) = True := eq_true (nI_lt (a := n) (b := 626) hn1 (by omega))
  have h2 : (nI n).toNatClampNeg = n := nI_clamp (by omega)
  have h3 : (nI n < 0) = False := eq_false (nI_pos (by omega))
  have h4 : (626 ≤ n) = False := eq_false (by omega)
  have h5 : nI (n + 1) - 1 = nI n := nI_pred n
  rw [lc_succ, cb_81]
  simp only [lk_v, lk_n, lm_isI_i, lm_isL_l, lm_isR_r, lm_vi_i, lwx_aload_0, lwx_aload_1, lwx_aload_2, lwx_aload_3, lw_getI, lw_getL, lw_getR, lw_getZ, lw_sipush, lw_icmp_lt, lw_iret, lw_iastore, lwx_iload_0, lwx_iload_1, lwx_iload_2, lwx_iload_3, lw_dup_i, lw_dup_r, lw_iconst, lw_iadd, lw_putI, lw_putL, lw_putR, lw_putZ, lw_isub, List.getD_cons_zero, List.getD_cons_succ, lm_set1, lm_set2, lm_cut, List.getElem?_cons_zero, List.getElem?_cons_succ, List.set_cons_zero, List.set_cons_succ, List.length_cons, List.length_nil, List.map_cons, List.map_nil, List.sum_cons, List.sum_nil, Value.category, Nat.reduceAdd, Nat.reduceDiv, Nat.reduceMod, Nat.reduceLT, Nat.reduceLeDiff, Nat.reduceMul, Int.toNat_natCast, Int.reduceToNat, true_and, and_true, lm_rok_1, lm_rok_20, lm_rok_21, lm_rok_0, lm_args, lm_ent, List.nil_append, List.cons_append, List.replicate, Nat.reduceSub, if_false, if_true, reduceCtorEq, Nat.reduceEqDiff, Bool.or_true, Bool.true_or, Bool.or_false, Bool.false_or, Bool.and_true, Bool.true_and, BEq.rfl, beq_self_eq_true, kb_m94, kb_m92, kb_m63, kb_m46, kb_m45, kb_m42, kb_m41, kb_m33, kb_m10, kb_m9, kb_m4, kb_m3, kb_m2, kb_6, kb_7, kb_8, kb_9, kb_10, kb_11, kb_12, kb_13, kb_14, kb_15, kb_16, kb_17, kb_18, kb_19, kb_20, kb_21, kb_22, kb_23, kb_24, kb_26, kb_32, kb_33, kb_34, kb_38, kb_40, kb_41, kb_43, kb_44, kb_45, kb_46, kb_48, kb_57, kb_58, kb_59, kb_60, kb_61, kb_62, kb_64, kb_80, kb_81, kb_91, kb_92, kb_93, kb_97, kb_100, kb_104, kb_122, kb_126, ki_m8, ki_m2, ki_m1, ki_0, ki_1, ki_2, ki_3, ki_4, ki_5, ks_160, ks_168, ks_240, ks_242, ks_255, ks_264, ks_300, ks_320, ks_500, ks_600, ks_625, ks_626, ks_1200, ks_1256, ks_2000, ks_2504, ks_3040, ks_4000, ks_6000, ks_12000, kl_0, kl_1, ml_81, rt_81, cb_81_14, sh_70 hS, sh_71 hS, sh_72 hS, sh_73 hS, sh_74 hS, rf_70_0 hR, rf_70_1 hR, rf_70_2 hR, rf_70_3 hR, hn, h1, h2, h3, h4, nI_1, h5, lm_up_row, lm_row_s, lm_row_n, ne_eq, false_implies, not_false_eq_true, true_implies, not_true_eq_false, or_self, pk_us]
  rfl
theorem rt_ext {P dp : Nat → Nat} {n u : Nat} (hf : fo P n dp u) : ∀ {i : Nat}, i < n → rt (ext P n n) i = rt P i := by
  have key : ∀ (k i : Nat), i < n → rti (ext P n n) k i = rti P k i := by
    intro k
    induction k with
    | zero => intro i _; rfl
    | succ k ih => intro i hi; show rti (ext P n n) k (ext P n n i) = rti P k (P i); rw [ext_lt hi]; exact ih _ (hf i hi).1
  intro i hi
  exact key 10000 i hi
theorem svf_cell {I : lm_I} (h : svf I n P So Le Ri dp u) (hn : n < 626) {s a b : Nat} (hs : s ≤ 6) (ha : 4 ≤ s → a ≤ n) (hb : 5 ≤ s → b ≤ n) : svf (cellI I n (nI s) (pI s 4 a) (pI s 5 b)) (n + 1) (ext P n n) (ext So n s) (ext Le n a) (ext Ri n b) (ext dp n 0) u := by
  obtain ⟨⟨h70, hn1, h71, h72, h73, h74, hg⟩, hf, hu, hcl⟩ := h
  have key : ∀ (o : Nat) (x : Int32) (f : Nat → Nat) (F : Nat → Int32), cellI I n (nI s) (pI s 4 a) (pI s 5 b) o = upd F n x → ∀ j, j < n + 1 → cellI I n (nI s) (pI s 4 a) (pI s 5 b) o j = if j = n then x else F j := fun o x f F hh j _ => by rw [hh]; rfl
  have e71 : cellI I n (nI s) (pI s 4 a) (pI s 5 b) 71 = upd (I 71) n (nI n) := by
    unfold cellI; rw [lm_row_n (by decide), lm_row_n (by decide), lm_row_n (by decide), lm_row_n (by decide), lm_row_s]
  have e72 : cellI I n (nI s) (pI s 4 a) (pI s 5 b) 72 = upd (I 72) n (nI s) := by
    unfold cellI; rw [lm_row_n (by decide), lm_row_n (by decide), lm_row_n (by decide), lm_row_s]
  have e73 : cellI I n (nI s) (pI s 4 a) (pI s 5 b) 73 = upd (I 73) n (pI s 4 a) := by
    unfold cellI; rw [lm_row_n (by decide), lm_row_n (by decide), lm_row_s]
  have e74 : cellI I n (nI s) (pI s 4 a) (pI s 5 b) 74 = upd (I 74) n (pI s 5 b) := by
    unfold cellI; rw [lm_row_n (by decide), lm_row_s]
  refine ⟨⟨?_, by omega, fun j hj => ?_, fun j hj => ?_, fun j hj => ?_, fun j hj => ?_, fun j hj => ?_⟩, fun j hj => ?_, ?_, fun j hj hs => ?_⟩
  · unfold cellI; rw [lm_row_s]; rfl
  · rw [e71]
    by_cases q : j = n
    · subst q; rw [pk_us, ext_s]
    · rw [pk_un q, ext_n q]; exact h71 j (by omega)
  · rw [e72]
    by_cases q : j = n
    · subst q; rw [pk_us, ext_s]
    · rw [pk_un q, ext_n q]; exact h72 j (by omega)
  · rw [e73]
    by_cases q : j = n
    · subst q; rw [pk_us, ext_s, ext_s]
    · rw [pk_un q, ext_n q, ext_n q]; exact h73 j (by omega)
  · rw [e74]
    by_cases q : j = n
    · subst q; rw [pk_us, ext_s, ext_s]
    · rw [pk_un q, ext_n q, ext_n q]; exact h74 j (by omega)
  · by_cases q : j = n
    · subst q; rw [ext_s, ext_s, ext_s]
      exact ⟨hs, fun z => by have := ha z; omega, fun z => by have := hb z; omega⟩
    · rw [ext_n q, ext_n q, ext_n q]
      have := hg j (by omega)
      exact ⟨this.1, fun z => by have := this.2.1 z; omega, fun z => by have := this.2.2 z; omega⟩
  · by_cases q : j = n
    · subst q; rw [ext_s, ext_s]
      exact ⟨by omega, fun _ => rfl, fun z => absurd rfl z, Nat.zero_le _⟩
    · have h1 := hf j (by omega)
      rw [ext_n q, ext_n q, ext_lt h1.1]
      exact ⟨by omega, h1.2⟩
  · show u + (rc (ext P n n) n + (if ext P n n n = n then 1 else 0)) = n + 1
    rw [ext_s, if_pos rfl, rc_congr (P := P) (fun j hj => by rw [ext_lt hj])]
    omega
  · have hu2 : u ≤ 9999 := by omega
    by_cases q : j = n
    · subst q
      have e1 : rt (ext P j j) j = j := rt_self ext_s
      rw [e1]
      exact ⟨rfl, fun _ => rfl, fun _ => rfl⟩
    · have hj2 : j < n := by omega
      rw [ext_n q] at hs ⊢
      have hr : ∀ i, i < n → rt (ext P n n) i = rt P i := fun i hi => rt_ext hf hi
      have hrj := rt_lt hf hu2 hj2
      obtain ⟨c1, c2, c3⟩ := hcl j hj2 hs
      have g1 := hg j hj2
      have g2 := hg _ hrj
      rw [c1] at g2
      rw [hr j hj2, ext_lt hrj, ext_n q, ext_n q, ext_lt hrj, ext_lt hrj]
      exact ⟨c1, fun z => by rw [hr _ (g1.2.1 z), hr _ (g2.2.1 z)]; exact c2 z, fun z => by rw [hr _ (g1.2.2 z), hr _ (g2.2.2 z)]; exact c3 z⟩
/-- what a new cell adds -/
theorem Sol_cell {s a b : Nat} {val : Nat → Ty} (hf : fo P n dp u) (hg : gok n So Le Ri) : Sol (n + 1) (ext P n n) (ext So n s) (ext Le n a) (ext Ri n b) val ↔ (Sol n P So Le Ri val ∧ (s ≠ 0 → val n = con s (val a) (val b))) := by
  constructor
  · intro h
    refine ⟨fun j hj => ?_, fun z => ?_⟩
    · have h1 := h j (by omega)
      rw [ext_lt hj, ext_lt hj, ext_lt hj, ext_lt hj] at h1
      exact h1
    · have h1 := h n (by omega)
      rw [ext_s, ext_s, ext_s, ext_s] at h1
      exact h1.2 z
  · rintro ⟨h, h2⟩ j hj
    by_cases q : j = n
    · subst q
      rw [ext_s, ext_s, ext_s, ext_s]
      exact ⟨rfl, h2⟩
    · rw [ext_n q, ext_n q, ext_n q, ext_n q]
      exact h j (by omega)
/-- types of cells behind n do not matter to n cells -/
theorem Sol_agree {val val' : Nat → Ty} (hf : fo P n dp u) (hg : gok n So Le Ri) (hv : ∀ j, j < n → val' j = val j) (h : Sol n P So Le Ri val) : Sol n P So Le Ri val' := by
  intro j hj
  have h1 := h j hj
  have g1 := hg j hj
  refine ⟨by rw [hv j hj, hv _ (hf j hj).1]; exact h1.1, fun z => ?_⟩
  rw [hv j hj, h1.2 z]
  exact con_parts (fun q => (hv _ (g1.2.1 q)).symm) (fun q => (hv _ (g1.2.2 q)).symm) (by omega)
end SOLVER
