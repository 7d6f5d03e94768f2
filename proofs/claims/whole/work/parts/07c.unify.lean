theorem i10 : ((1 : Int32) = 0) = False := eq_false (by decide)
/-- how many of n cells are roots -/
def rc (P : Nat → Nat) : Nat → Nat
  | 0 => 0
  | m + 1 => rc P m + (if P m = m then 1 else 0)
theorem rc_congr {P P' : Nat → Nat} : ∀ {n : Nat}, (∀ j, j < n → (P' j = j ↔ P j = j)) → rc P' n = rc P n
  | 0, _ => rfl
  | n + 1, h => by
    show rc P' n + _ = rc P n + _
    rw [rc_congr (fun j hj => h j (by omega))]
    by_cases e : P n = n
    · rw [if_pos e, if_pos ((h n (by omega)).mpr e)]
    · rw [if_neg e, if_neg (fun q => e ((h n (by omega)).mp q))]
theorem rc_join {P : Nat → Nat} {a b : Nat} (ea : P a = a) (hne : a ≠ b) : ∀ {n : Nat}, a < n → rc (fun j => if j = a then b else P j) n + 1 = rc P n
  | 0, h => absurd h (Nat.not_lt_zero _)
  | n + 1, h => by
    show rc _ n + (if (if n = a then b else P n) = n then 1 else 0) + 1 = rc P n + (if P n = n then 1 else 0)
    by_cases e : n = a
    · subst e
      rw [if_pos rfl, if_neg (fun q => hne q.symm), if_pos ea]
      rw [rc_congr (P := P) (P' := fun j => if j = n then b else P j) (fun j hj => by simp [Nat.ne_of_lt hj])]
    · rw [if_neg e]
      have := rc_join ea hne (n := n) (by omega)
      omega
theorem rc_le {P : Nat → Nat} : ∀ n, rc P n ≤ n
  | 0 => Nat.le_refl _
  | n + 1 => by
    have := rc_le (P := P) n
    show rc P n + _ ≤ n + 1
    split <;> omega
/-- rows of the solver: n cells, parents, sorts, parts (-9: none) -/
def pI (s m x : Nat) : Int32 := if m ≤ s then nI x else -9
def sv (I : lm_I) (n : Nat) (P So Le Ri : Nat → Nat) : Prop := I 70 6 = nI n ∧ n ≤ 626 ∧ (∀ j, j < n → I 71 j = nI (P j)) ∧ (∀ j, j < n → I 72 j = nI (So j)) ∧ (∀ j, j < n → I 73 j = pI (So j) 4 (Le j)) ∧ (∀ j, j < n → I 74 j = pI (So j) 5 (Ri j)) ∧ gok n So Le Ri
/-- pairs that wait, the next one first -/
def wst (f : Nat → Int32) : List (Nat × Nat) → Prop
  | [] => True
  | q :: W => f (2 * W.length) = nI q.1 ∧ f (2 * W.length + 1) = nI q.2 ∧ wst f W
theorem wst_keep {f g : Nat → Int32} : ∀ {W : List (Nat × Nat)}, (∀ j, j < 2 * W.length → g j = f j) → wst f W → wst g W
  | [], _, _ => trivial
  | q :: W, h, hw => by
    simp only [List.length_cons] at h
    exact ⟨(h _ (by omega)).trans hw.1, (h _ (by omega)).trans hw.2.1, wst_keep (fun j hj => h j (by omega)) hw.2.2⟩
/-- joined cells have one sort and joined parts -/
def cl (n : Nat) (P So Le Ri : Nat → Nat) : Prop := ∀ j, j < n → So j ≠ 0 → So (rt P j) = So j ∧ (4 ≤ So j → rt P (Le j) = rt P (Le (rt P j))) ∧ (5 ≤ So j → rt P (Ri j) = rt P (Ri (rt P j)))
/-- the same while pairs wait -/
def clo (n : Nat) (P So Le Ri : Nat → Nat) (W : List (Nat × Nat)) : Prop := ∀ φ : Nat → Ty, (∀ j, j < n → φ j = φ (P j)) → (∀ q ∈ W, φ q.1 = φ q.2) → ∀ j, j < n → So j ≠ 0 → So (rt P j) = So j ∧ (4 ≤ So j → φ (Le j) = φ (Le (rt P j))) ∧ (5 ≤ So j → φ (Ri j) = φ (Ri (rt P j)))
def lev : Nat → Ty
  | 0 => .zero
  | n + 1 => .succ (lev n)
theorem lev_inj : ∀ {a b : Nat}, lev a = lev b → a = b
  | 0, 0, _ => rfl
  | 0, _ + 1, h => by cases h
  | _ + 1, 0, h => by cases h
  | a + 1, b + 1, h => by
    have h1 : lev a = lev b := by injection h
    rw [lev_inj h1]
theorem clo_nil {n u : Nat} {P So Le Ri dp : Nat → Nat} (hf : fo P n dp u) (hu : u ≤ 9999) (h : clo n P So Le Ri []) : cl n P So Le Ri := by
  intro j hj hs
  have h1 := h (fun j => lev (rt P j)) (fun j hj => by rw [rt_up hf hu hj]) (fun q z => by cases z) j hj hs
  exact ⟨h1.1, fun z => lev_inj (h1.2.1 z), fun z => lev_inj (h1.2.2 z)⟩
theorem phi_rt {n u : Nat} {P dp : Nat → Nat} {φ : Nat → Ty} (hf : fo P n dp u) (h : ∀ j, j < n → φ j = φ (P j)) {j : Nat} (hj : j < n) : φ (rt P j) = φ j :=
  Sol_rt (So := fun _ => 0) (Le := fun _ => 0) (Ri := fun _ => 0) hf (fun j hj => ⟨h j hj, fun z => absurd rfl z⟩) 10000 j hj
theorem cl_clo {n u : Nat} {P So Le Ri dp : Nat → Nat} {W : List (Nat × Nat)} (hf : fo P n dp u) (hu : u ≤ 9999) (hg : gok n So Le Ri) (h : cl n P So Le Ri) : clo n P So Le Ri W := by
  intro φ hφ _ j hj hs
  obtain ⟨h1, h2, h3⟩ := h j hj hs
  have g1 := hg j hj
  have g2 := hg _ (rt_lt hf hu hj)
  rw [h1] at g2
  refine ⟨h1, fun z => ?_, fun z => ?_⟩
  · rw [← phi_rt hf hφ (g1.2.1 z), h2 z, phi_rt hf hφ (g2.2.1 z)]
  · rw [← phi_rt hf hφ (g1.2.2 z), h3 z, phi_rt hf hφ (g2.2.2 z)]
/-- one root put under another, the pair waits no longer -/
theorem clo_join {n u : Nat} {P P2 So Le Ri dp dp2 : Nat → Nat} {W W' : List (Nat × Nat)} {a b x y : Nat} (hf : fo P n dp u) (hf2 : fo P2 n dp2 u) (hu : u ≤ 9998) (hrt : ∀ j, j < n → rt P2 j = rt P j) (hx : x < n) (hy : y < n) (ex : P2 x = x) (ey : P2 y = y) (hne : x ≠ y) (ha : a < n) (hb : b < n)
    (hab : (rt P a = x ∧ rt P b = y) ∨ (rt P a = y ∧ rt P b = x)) (hW : ∀ q ∈ W, q ∈ W') (hs : So x = 0 ∨ (So x = So y ∧ (4 ≤ So x → (Le x, Le y) ∈ W' ∨ (Le y, Le x) ∈ W') ∧ (5 ≤ So x → (Ri x, Ri y) ∈ W' ∨ (Ri y, Ri x) ∈ W')))
    (h : clo n P So Le Ri ((a, b) :: W)) : clo n (fun j => if j = x then y else P2 j) So Le Ri W' := by
  intro φ hφ hw j hj hsj
  have hxy : φ x = φ y := by
    have h1 := hφ x hx
    simp only [if_true] at h1
    exact h1
  have hφ2 : ∀ j, j < n → φ j = φ (P2 j) := fun j hj => by
    by_cases q : j = x
    · rw [q, ex]
    · have h1 := hφ j hj
      simp only [if_neg q] at h1
      exact h1
  have hr : ∀ j, j < n → φ (rt P j) = φ j := fun j hj => by rw [← hrt j hj]; exact phi_rt hf2 hφ2 hj
  have hφ1 : ∀ j, j < n → φ j = φ (P j) := fun j hj => by
    rw [← hr j hj, ← hr (P j) (hf j hj).1, rt_up hf (by omega) hj]
  have hφab : φ a = φ b := by
    rw [← hr a ha, ← hr b hb]
    rcases hab with ⟨h1, h2⟩ | ⟨h1, h2⟩ <;> rw [h1, h2, hxy]
  obtain ⟨h1, h2, h3⟩ := h φ hφ1 (fun q hq => by
    rcases List.mem_cons.mp hq with rfl | hq
    · exact hφab
    · exact hw q (hW q hq)) j hj hsj
  rw [rt_join hf2 (by omega) hx hy ex ey hne _ j hj (Nat.le_refl _), hrt j hj]
  by_cases q : rt P j = x
  · rw [if_pos q]
    rw [q] at h1 h2 h3
    rcases hs with hs | ⟨s1, s2, s3⟩
    · rw [hs] at h1; exact absurd h1.symm hsj
    · refine ⟨by rw [← s1]; exact h1, fun z => ?_, fun z => ?_⟩
      · rw [h2 z]
        rcases s2 (by omega) with m | m
        · exact hw _ m
        · exact (hw _ m).symm
      · rw [h3 z]
        rcases s3 (by omega) with m | m
        · exact hw _ m
        · exact (hw _ m).symm
  · rw [if_neg q]
    exact ⟨h1, h2, h3⟩
section SOLVER
variable {e n u : Nat} {S : lm_S} {I : lm_I} {L : lm_L} {R : lm_R} {Q : Option Value → lm_M → Prop}
/-- Solver.push of two cells -/
theorem c_87a (hS : lp_shape S) (hR : lp_refs R) {a b t : Nat} (hn : I 70 6 = nI n) (hn1 : n ≤ 626) (ha : a < n) (hb : b < n) (ht : t + 2 ≤ 1256) : lc (e + 2) 87 [.ref 70, .int (nI t), .int (nI a), .int (nI b)] (S, I, L, R) Q = Q (some (.int (nI (t + 2)))) (S, lm_row I 76 (upd (upd (I 76) t (nI a)) (t + 1) (nI b)), L, R) := by
  have h1 : (0 ≤ nI a ∧ nI a < nI n) = True := eq_true ⟨nI_pos' (by omega), nI_lt ha (by omega)⟩
  have h2 : (0 ≤ nI b ∧ nI b < nI n) = True := eq_true ⟨nI_pos' (by omega), nI_lt hb (by omega)⟩
  have h3 : nI t + 2 = nI (t + 2) := nI_add t 2
  have h4 : (nI (t + 2) ≤ Int32.ofNat 1256) = True := eq_true (nI_le (a := t + 2) (b := 1256) ht (by omega))
  have h5 : (nI t).toNatClampNeg = t := nI_clamp (by omega)
  have h6 : (nI t < 0) = False := eq_false (nI_pos (by omega))
  have h7 : (nI (t + 1)).toNatClampNeg = t + 1 := nI_clamp (by omega)
  have h8 : (nI (t + 1) < 0) = False := eq_false (nI_pos (by omega))
  have h9 : (1256 ≤ t) = False := eq_false (by omega)
  have h10 : (1256 ≤ t + 1) = False := eq_false (by omega)
  rw [lc_succ, cb_87]
  simp only [lk_v, lk_n, lm_isI_i, lm_isL_l, lm_isR_r, lm_vi_i, lwx_aload_0, lwx_aload_1, lwx_aload_2, lwx_aload_3, lwx_iload_0, lwx_iload_1, lwx_iload_2, lwx_iload_3, lwx_invokevirtual_2, lw_if_eq, lw_iconst, lw_iadd, lw_getI, lw_getL, lw_getR, lw_getZ, lw_alen, lw_icmp_le, lw_iret, lw_iastore, List.getD_cons_zero, List.getD_cons_succ, lm_set1, lm_set2, lm_cut, List.getElem?_cons_zero, List.getElem?_cons_succ, List.set_cons_zero, List.set_cons_succ, List.length_cons, List.length_nil, List.map_cons, List.map_nil, List.sum_cons, List.sum_nil, Value.category, Nat.reduceAdd, Nat.reduceDiv, Nat.reduceMod, Nat.reduceLT, Nat.reduceLeDiff, Nat.reduceMul, Int.toNat_natCast, Int.reduceToNat, true_and, and_true, lm_rok_1, lm_rok_20, lm_rok_21, lm_rok_0, lm_args, lm_ent, List.nil_append, List.cons_append, List.replicate, Nat.reduceSub, if_false, if_true, reduceCtorEq, Nat.reduceEqDiff, Bool.or_true, Bool.true_or, Bool.or_false, Bool.false_or, Bool.and_true, Bool.true_and, BEq.rfl, beq_self_eq_true, kb_m94, kb_m92, kb_m63, kb_m46, kb_m45, kb_m42, kb_m41, kb_m33, kb_m10, kb_m9, kb_m4, kb_m3, kb_m2, kb_6, kb_7, kb_8, kb_9, kb_10, kb_11, kb_12, kb_13, kb_14, kb_15, kb_16, kb_17, kb_18, kb_19, kb_20, kb_21, kb_22, kb_23, kb_24, kb_26, kb_32, kb_33, kb_34, kb_38, kb_40, kb_41, kb_43, kb_44, kb_45, kb_46, kb_48, kb_57, kb_58, kb_59, kb_60, kb_61, kb_62, kb_64, kb_80, kb_81, kb_91, kb_92, kb_93, kb_97, kb_100, kb_104, kb_122, kb_126, ki_m8, ki_m2, ki_m1, ki_0, ki_1, ki_2, ki_3, ki_4, ki_5, ks_160, ks_168, ks_240, ks_242, ks_255, ks_264, ks_300, ks_320, ks_500, ks_600, ks_625, ks_626, ks_1200, ks_1256, ks_2000, ks_2504, ks_3040, ks_4000, ks_6000, ks_12000, kl_0, kl_1, ml_87, rt_87, cb_87_27, cb_87_29, sh_70 hS, sh_76 hS, rf_70_5 hR, c_84 hS, hn, h1, h2, i10, false_implies, not_false_eq_true, true_implies, h3, h4, not_true_eq_false, h5, h6, h7, h8, h9, h10, nI_1, or_self, lm_rc_v, lm_up_row, lm_row_row, lm_row_s, and_self]
/-- Solver.push, a part is wanting -/
theorem c_87b (hS : lp_shape S) (hR : lp_refs R) {x t : Int32} : lc (e + 2) 87 [.ref 70, .int t, .int (-9), .int x] (S, I, L, R) Q = Q (some (.int t)) (S, I, L, R) := by
  have h1 : (0 ≤ (-9 : Int32) ∧ (-9 : Int32) < I 70 6) = False := eq_false (fun q => absurd q.1 (by decide))
  rw [lc_succ, cb_87]
  simp only [lk_v, lk_n, lm_isI_i, lm_isL_l, lm_isR_r, lm_vi_i, lwx_aload_0, lwx_aload_1, lwx_aload_2, lwx_aload_3, lwx_iload_0, lwx_iload_1, lwx_iload_2, lwx_iload_3, lwx_invokevirtual_2, lw_if_eq, lw_iconst, lw_iadd, lw_getI, lw_getL, lw_getR, lw_getZ, lw_alen, lw_icmp_le, lw_iret, lw_iastore, List.getD_cons_zero, List.getD_cons_succ, lm_set1, lm_set2, lm_cut, List.getElem?_cons_zero, List.getElem?_cons_succ, List.set_cons_zero, List.set_cons_succ, List.length_cons, List.length_nil, List.map_cons, List.map_nil, List.sum_cons, List.sum_nil, Value.category, Nat.reduceAdd, Nat.reduceDiv, Nat.reduceMod, Nat.reduceLT, Nat.reduceLeDiff, Nat.reduceMul, Int.toNat_natCast, Int.reduceToNat, true_and, and_true, lm_rok_1, lm_rok_20, lm_rok_21, lm_rok_0, lm_args, lm_ent, List.nil_append, List.cons_append, List.replicate, Nat.reduceSub, if_false, if_true, reduceCtorEq, Nat.reduceEqDiff, Bool.or_true, Bool.true_or, Bool.or_false, Bool.false_or, Bool.and_true, Bool.true_and, BEq.rfl, beq_self_eq_true, kb_m94, kb_m92, kb_m63, kb_m46, kb_m45, kb_m42, kb_m41, kb_m33, kb_m10, kb_m9, kb_m4, kb_m3, kb_m2, kb_6, kb_7, kb_8, kb_9, kb_10, kb_11, kb_12, kb_13, kb_14, kb_15, kb_16, kb_17, kb_18, kb_19, kb_20, kb_21, kb_22, kb_23, kb_24, kb_26, kb_32, kb_33, kb_34, kb_38, kb_40, kb_41, kb_43, kb_44, kb_45, kb_46, kb_48, kb_57, kb_58, kb_59, kb_60, kb_61, kb_62, kb_64, kb_80, kb_81, kb_91, kb_92, kb_93, kb_97, kb_100, kb_104, kb_122, kb_126, ki_m8, ki_m2, ki_m1, ki_0, ki_1, ki_2, ki_3, ki_4, ki_5, ks_160, ks_168, ks_240, ks_242, ks_255, ks_264, ks_300, ks_320, ks_500, ks_600, ks_625, ks_626, ks_1200, ks_1256, ks_2000, ks_2504, ks_3040, ks_4000, ks_6000, ks_12000, kl_0, kl_1, ml_87, rt_87, cb_87_27, cb_87_29, sh_70 hS, sh_76 hS, rf_70_5 hR, c_84 hS, h1, i10, false_implies, not_false_eq_true, true_implies, not_true_eq_false, lm_rc_v, and_self]
end SOLVER
