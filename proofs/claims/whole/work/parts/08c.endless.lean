/-! ===== the reference's isEndless ===== -/
/-- c is a part of a -/
def chd (r So Le Ri : Nat → Nat) (a c : Nat) : Prop := (4 ≤ So a ∧ r (Le a) = c) ∨ (5 ≤ So a ∧ r (Ri a) = c)
def zmk (mk : Nat → Nat) (n : Nat) : Nat := rc (fun j => if mk j = 0 then j else j + 1) n
theorem zmk_set {mk : Nat → Nat} {n t x : Nat} (ht : t < n) (h0 : mk t = 0) (hx : x ≠ 0) : zmk (fun j => if j = t then x else mk j) n + 1 = zmk mk n := by
  unfold zmk
  rw [← rc_join (P := fun j => if mk j = 0 then j else j + 1) (a := t) (b := t + 1) (by simp [h0]) (by omega) ht]
  congr 1
  refine rc_congr (fun j hj => ?_)
  by_cases q : j = t
  · simp [q, hx]
  · simp [q]
theorem zmk_same {mk : Nat → Nat} {n t x : Nat} (h0 : mk t ≠ 0) (hx : x ≠ 0) : zmk (fun j => if j = t then x else mk j) n = zmk mk n := by
  unfold zmk
  refine rc_congr (fun j hj => ?_)
  by_cases q : j = t
  · simp [q, hx, h0]
  · simp [q]
/-- the walk: marks, the pile (top first), what is under way; of t the parts pd are still to come -/
def dfc (n : Nat) (r So Le Ri : Nat → Nat) (lt : Nat → Nat → Prop) (mk : Nat → Nat) (T : List Nat) (t : Nat) (pd : Nat → Prop) : Prop :=
  (∀ x ∈ T, x < n ∧ r x = x) ∧ (∃ rk : Nat → Nat, ∀ a c, a < n → mk a = 2 → chd r So Le Ri a c → mk c = 2 ∧ rk c < rk a) ∧
  ∀ a, a < n → mk a = 1 → ∃ A B, T = A ++ a :: B ∧ a ∉ A ∧ (∀ x ∈ A, lt x a) ∧ (a ≠ t → t ∈ A) ∧ ∀ c, chd r So Le Ri a c → mk c = 2 ∨ c ∈ A ∨ (a = t ∧ pd c)
def dfs (n : Nat) (r So Le Ri : Nat → Nat) (lt : Nat → Nat → Prop) (mk : Nat → Nat) (T : List Nat) : Prop :=
  (∀ x ∈ T, x < n ∧ r x = x) ∧ (∃ rk : Nat → Nat, ∀ a c, a < n → mk a = 2 → chd r So Le Ri a c → mk c = 2 ∧ rk c < rk a) ∧
  ∀ a, a < n → mk a = 1 → ∃ A B, T = A ++ a :: B ∧ a ∉ A ∧ (∀ x ∈ A, lt x a) ∧ ∀ c, chd r So Le Ri a c → mk c = 2 ∨ c ∈ A
section DFS
variable {n t : Nat} {r So Le Ri mk : Nat → Nat} {lt : Nat → Nat → Prop} {T : List Nat} {pd pd' : Nat → Prop}
theorem dfs_mark (h : dfs n r So Le Ri lt mk (t :: T)) (h0 : mk t = 0) : dfc n r So Le Ri lt (fun j => if j = t then 1 else mk j) (t :: T) t (chd r So Le Ri t) := by
  obtain ⟨h1, ⟨rk, h2⟩, h3⟩ := h
  refine ⟨h1, ⟨rk, fun a c ha hm hc => ?_⟩, fun a ha hm => ?_⟩
  · by_cases q : a = t
    · simp [q] at hm
    · simp only [if_neg q] at hm
      have h4 := h2 a c ha hm hc
      have : c ≠ t := fun z => by rw [z, h0] at h4; omega
      simp only [if_neg this]
      exact h4
  · by_cases q : a = t
    · subst q
      exact ⟨[], T, rfl, by simp, fun x hx => (by cases hx), fun z => absurd rfl z, fun c hc => Or.inr (Or.inr ⟨rfl, hc⟩)⟩
    · simp only [if_neg q] at hm
      obtain ⟨A, B, e1, e2, e3, e4⟩ := h3 a ha hm
      refine ⟨A, B, e1, e2, e3, fun _ => ?_, fun c hc => ?_⟩
      · match A, e1 with
        | [], e1 => simp only [List.nil_append, List.cons.injEq] at e1; exact absurd e1.1.symm q
        | x :: A, e1 => simp only [List.cons_append, List.cons.injEq] at e1; rw [e1.1]; exact List.mem_cons_self
      · rcases e4 c hc with z | z
        · have : c ≠ t := fun y => by rw [y, h0] at z; omega
          exact Or.inl (by simp only [if_neg this]; exact z)
        · exact Or.inr (Or.inl z)
theorem dfc_part (h : dfc n r So Le Ri lt mk T t pd) {o : Nat} (ho : o < n) (hor : r o = o) (hm : mk o ≠ 1) (hlt : lt o t) (htrans : ∀ {x y z}, lt x y → lt y z → lt x z) (hpd : ∀ c, pd c → c = o ∨ pd' c) (h2 : mk o = 0 ∨ mk o = 2) : dfc n r So Le Ri lt mk (if mk o = 0 then o :: T else T) t pd' := by
  obtain ⟨h1, h3, h4⟩ := h
  refine ⟨fun x hx => ?_, h3, fun a ha hma => ?_⟩
  · split at hx
    · rcases List.mem_cons.mp hx with rfl | hx
      · exact ⟨ho, hor⟩
      · exact h1 x hx
    · exact h1 x hx
  · obtain ⟨A, B, e1, e2, e3, e5, e4⟩ := h4 a ha hma
    by_cases q : mk o = 0
    · rw [if_pos q]
      refine ⟨o :: A, B, by rw [e1]; rfl, fun z => ?_, fun x hx => ?_, fun z => List.mem_cons_of_mem _ (e5 z), fun c hc => ?_⟩
      · rcases List.mem_cons.mp z with rfl | z
        · omega
        · exact e2 z
      · rcases List.mem_cons.mp hx with rfl | hx
        · by_cases z : a = t
          · rw [z]; exact hlt
          · exact htrans hlt (e3 t (e5 z))
        · exact e3 x hx
      · rcases e4 c hc with z | z | ⟨z1, z2⟩
        · exact Or.inl z
        · exact Or.inr (Or.inl (List.mem_cons_of_mem _ z))
        · rcases hpd c z2 with rfl | z3
          · exact Or.inr (Or.inl List.mem_cons_self)
          · exact Or.inr (Or.inr ⟨z1, z3⟩)
    · rw [if_neg q]
      refine ⟨A, B, e1, e2, e3, e5, fun c hc => ?_⟩
      rcases e4 c hc with z | z | ⟨z1, z2⟩
      · exact Or.inl z
      · exact Or.inr (Or.inl z)
      · rcases hpd c z2 with rfl | z3
        · exact Or.inl (by omega)
        · exact Or.inr (Or.inr ⟨z1, z3⟩)
theorem dfc_ring (h : dfc n r So Le Ri lt mk T t pd) {o : Nat} (ho : o < n) (hm : mk o = 1) (hlt : lt o t) (htrans : ∀ {x y z}, lt x y → lt y z → lt x z) : lt t t := by
  by_cases q : o = t
  · rw [q] at hlt; exact hlt
  · obtain ⟨A, B, e1, e2, e3, e5, e4⟩ := h.2.2 o ho hm
    exact htrans (e3 t (e5 q)) hlt
theorem dfc_done (h : dfc n r So Le Ri lt mk T t pd) (hpd : ∀ c, ¬ pd c) : dfs n r So Le Ri lt mk T := by
  obtain ⟨h1, h3, h4⟩ := h
  refine ⟨h1, h3, fun a ha hma => ?_⟩
  obtain ⟨A, B, e1, e2, e3, e5, e4⟩ := h4 a ha hma
  exact ⟨A, B, e1, e2, e3, fun c hc => by
    rcases e4 c hc with z | z | ⟨z1, z2⟩
    · exact Or.inl z
    · exact Or.inr z
    · exact absurd z2 (hpd c)⟩
theorem dfs_pop (h : dfs n r So Le Ri lt mk (t :: T)) (h0 : mk t = 1 ∨ mk t = 2) : dfs n r So Le Ri lt (fun j => if j = t then 2 else mk j) T := by
  obtain ⟨h1, ⟨rk, h2⟩, h3⟩ := h
  have ht := (h1 t List.mem_cons_self).1
  refine ⟨fun x hx => h1 x (List.mem_cons_of_mem _ hx), ?_, fun a ha hm => ?_⟩
  · rcases h0 with h0 | h0
    · obtain ⟨A, B, e1, e2, e3, e4⟩ := h3 t ht h0
      have hA : A = [] := by
        match A, e1, e2 with
        | [], _, _ => rfl
        | x :: A, e1, e2 => simp only [List.cons_append, List.cons.injEq] at e1; rw [e1.1] at e2; exact absurd List.mem_cons_self e2
      subst hA
      refine ⟨fun j => if j = t then 1 + rk (r (Le t)) + rk (r (Ri t)) else rk j, fun a c ha hm hc => ?_⟩
      by_cases q : a = t
      · subst q
        have hc2 : mk c = 2 := by
          rcases e4 c hc with z | z
          · exact z
          · cases z
        have hct : c ≠ a := fun z => by rw [z] at hc2; omega
        simp only [if_neg hct, if_true]
        refine ⟨hc2, ?_⟩
        rcases hc with ⟨-, z⟩ | ⟨-, z⟩ <;> rw [z] <;> omega
      · simp only [if_neg q] at hm
        have h4 := h2 a c ha hm hc
        have hct : c ≠ t := fun z => by rw [z] at h4; omega
        simp only [if_neg hct, if_neg q]
        exact h4
    · refine ⟨rk, fun a c ha hm hc => ?_⟩
      have hm2 : mk a = 2 := by
        by_cases q : a = t
        · rw [q]; exact h0
        · simp only [if_neg q] at hm; exact hm
      have h4 := h2 a c ha hm2 hc
      refine ⟨?_, h4.2⟩
      by_cases q : c = t
      · simp [q]
      · simp only [if_neg q]; exact h4.1
  · by_cases q : a = t
    · simp [q] at hm
    · simp only [if_neg q] at hm
      obtain ⟨A, B, e1, e2, e3, e4⟩ := h3 a ha hm
      match A, e1, e2, e3, e4 with
      | [], e1, _, _, _ => simp only [List.nil_append, List.cons.injEq] at e1; exact absurd e1.1.symm q
      | x :: A, e1, e2, e3, e4 =>
        simp only [List.cons_append, List.cons.injEq] at e1
        refine ⟨A, B, e1.2, fun z => e2 (List.mem_cons_of_mem _ z), fun y hy => e3 y (List.mem_cons_of_mem _ hy), fun c hc => ?_⟩
        by_cases q2 : c = t
        · exact Or.inl (by simp [q2])
        · simp only [if_neg q2]
          rcases e4 c hc with z | z
          · exact Or.inl z
          · rcases List.mem_cons.mp z with z | z
            · exact absurd (z.trans e1.1.symm) q2
            · exact Or.inr z
theorem dfs_acy (h : dfs n r So Le Ri lt mk []) (hall : ∀ a, a < n → r a = a → mk a = 2) : acy n r So Le Ri := by
  obtain ⟨-, ⟨rk, h2⟩, -⟩ := h
  exact ⟨rk, fun c hc hcr => ⟨fun z => (h2 c _ hc (hall c hc hcr) (Or.inl ⟨z, rfl⟩)).2, fun z => (h2 c _ hc (hall c hc hcr) (Or.inr ⟨z, rfl⟩)).2⟩⟩
end DFS
section MODEL
variable {e n u : Nat} {S : lm_S} {I : lm_I} {L : lm_L} {R : lm_R} {Q : Option Value → lm_M → Prop} {P So Le Ri dp : Nat → Nat}
theorem mr_fr {I' : lm_I} (g : mr I n P So Le Ri) (h : ∀ o, o ≠ 151 → o ≠ 152 → I' o = I o) : mr I' n P So Le Ri := by
  obtain ⟨h75, hn1, h150, h147, h148, h149⟩ := g
  exact ⟨by rw [h 96 (by decide) (by decide)]; exact h75, hn1, by rw [h 150 (by decide) (by decide)]; exact h150, by rw [h 147 (by decide) (by decide)]; exact h147, by rw [h 148 (by decide) (by decide)]; exact h148, by rw [h 149 (by decide) (by decide)]; exact h149⟩
/-- isEndless: one part -/
theorem q_186 (hS : lp_shape S) (hR : lp_refs R) (g : mr I n P So Le Ri) (hf : fo P n dp u) (hu : u ≤ 6000) {mk : Nat → Nat} {T : List Nat} {p t q : Nat} {k fr pa : Int32} {v7 : Value} (hp : p < n) (hmk : ∀ j, j < n → I 152 j = nI (mk j)) (hmk2 : ∀ j, j < n → mk j ≤ 2) (hst : stk (I 151) T) (hTl : T.length < 12000) (hq : q ≤ 2)
    (h1 : mk (rt P p) = 1 → Q (some (.int (nI 1))) (S, I, L, R))
    (h2 : ∀ I', mk (rt P p) ≠ 1 → (∀ o, o ≠ 151 → I' o = I o) → stk (I' 151) (if mk (rt P p) = 0 then rt P p :: T else T) → lw (e + 1) 186 (lm_J 186 128) [.ref 96, .int k, .int fr, .int (nI (if mk (rt P p) = 0 then rt P p :: T else T).length), .int (nI t), .int pa, .int (nI (q + 1)), .int (nI (rt P p))] [] (S, I', L, R) Q) :
    lw (e + 1) 186 (lm_J 186 158) [.ref 96, .int k, .int fr, .int (nI T.length), .int (nI t), .int pa, .int (nI q), v7] [.int (nI p), .ref 96] (S, I, L, R) Q := by
  have hn := g.2.1
  have hr : rt P p < n := rt_lt hf (by omega) hp
  have hm := hmk _ hr
  have hm2 := hmk2 _ hr
  have hend : ∀ {Q'}, lc (e + 1) 184 [.ref 96, .int (nI p)] (S, I, L, R) Q' = Q' (some (.int (nI (rt P p)))) (S, I, L, R) := fun {Q'} => c_184 hS hR g hf hu hp
  generalize rt P p = o at *
  rw [cb_186_158]
  by_cases z1 : mk o = 1
  · simp (disch := omega) only [lk_v, lk_n, lm_isI_i, lm_isL_l, lm_isR_r, lm_vi_i, lw_iconst, lwx_istore_0, lwx_istore_1, lwx_istore_2, lwx_istore_3, lwx_iload_0, lwx_iload_1, lwx_iload_2, lwx_iload_3, lwx_aload_0, lwx_aload_1, lwx_aload_2, lwx_aload_3, lw_getI, lw_getL, lw_getR, lw_getZ, lw_icmp_ge, lw_iastore, lwx_iinc, lw_goto, lwx_invokevirtual_2, lw_iaload, lw_if_ne, lw_if_le, lw_isub, lw_istore, lwx_iload, lw_icmp_le, lw_icmp_ne, lw_iret, List.getD_cons_zero, List.getD_cons_succ, lm_set1, lm_set2, lm_cut, List.getElem?_cons_zero, List.getElem?_cons_succ, List.set_cons_zero, List.set_cons_succ, List.length_cons, List.length_nil, List.map_cons, List.map_nil, List.sum_cons, List.sum_nil, Value.category, Nat.reduceAdd, Nat.reduceDiv, Nat.reduceMod, Nat.reduceLT, Nat.reduceLeDiff, Nat.reduceMul, Int.toNat_natCast, Int.reduceToNat, true_and, and_true, lm_rok_1, lm_rok_20, lm_rok_21, lm_rok_0, lm_args, lm_ent, List.nil_append, List.cons_append, List.replicate, Nat.reduceSub, if_false, if_true, reduceCtorEq, Nat.reduceEqDiff, Bool.or_true, Bool.true_or, Bool.or_false, Bool.false_or, Bool.and_true, Bool.true_and, BEq.rfl, beq_self_eq_true, kb_m94, kb_m92, kb_m63, kb_m46, kb_m45, kb_m42, kb_m41, kb_m33, kb_m10, kb_m9, kb_m4, kb_m3, kb_m2, zkb_6, zkb_7, zkb_8, zkb_9, zkb_10, zkb_11, zkb_12, zkb_13, zkb_14, zkb_15, zkb_16, zkb_17, zkb_18, zkb_19, zkb_20, zkb_21, zkb_22, zkb_23, zkb_24, zkb_26, zkb_32, zkb_33, zkb_34, zkb_38, zkb_40, zkb_41, zkb_43, zkb_44, zkb_45, zkb_46, zkb_48, zkb_57, zkb_58, zkb_59, zkb_60, zkb_61, zkb_62, zkb_64, zkb_80, zkb_81, zkb_91, zkb_92, zkb_93, zkb_97, zkb_100, zkb_104, zkb_122, zkb_126, ki_m8, ki_m2, ki_m1, zki_0, zki_1, zki_2, zki_3, zki_4, zki_5, zks_160, zks_168, zks_240, zks_242, zks_255, zks_264, zks_300, zks_320, zks_500, zks_600, zks_625, zks_626, zks_1200, zks_1256, zks_2000, zks_2504, zks_3040, zks_4000, zks_6000, zks_12000, kl_0, kl_1, z_lt, z_le, z_eq, z_eq0, z_eq1, z_lt0, z_le0, z_0lt, z_0le, z_add, z_sub, z_add1, z_addn, z_addm, z_mul, z_cl, z_n9, z_n9s, z_n90, z_ne9, z_ne9s, z_lt_t, z_lt_f, z_le_t, z_le_f, z_eq_t, z_eq_f, z_pus, z_pun, z_row, or_self, or_false, false_or, true_or, or_true, and_self, and_false, false_and, not_true_eq_false, not_false_eq_true, false_implies, true_implies, implies_true, ne_eq, lm_row_s, lm_row_row, lm_up_row, rc_s, Classical.not_not, Nat.add_sub_cancel, i10, z_on, ml_186, rt_186, cb_186_23, cb_186_107, cb_186_122, cb_186_123, cb_186_151, cb_186_158, cb_186_176, cb_186_197, cb_186_203, cb_186_206, cb_186_217, cb_186_220, cb_186_226, rc_mod hS, sh_96 hS, sh_151 hS, sh_152 hS, rf_96_81 hR, rf_96_83 hR, rf_96_96 hR, hend, hm, z1]
    exact h1 z1
  · by_cases z0 : mk o = 0
    · simp (disch := omega) only [lk_v, lk_n, lm_isI_i, lm_isL_l, lm_isR_r, lm_vi_i, lw_iconst, lwx_istore_0, lwx_istore_1, lwx_istore_2, lwx_istore_3, lwx_iload_0, lwx_iload_1, lwx_iload_2, lwx_iload_3, lwx_aload_0, lwx_aload_1, lwx_aload_2, lwx_aload_3, lw_getI, lw_getL, lw_getR, lw_getZ, lw_icmp_ge, lw_iastore, lwx_iinc, lw_goto, lwx_invokevirtual_2, lw_iaload, lw_if_ne, lw_if_le, lw_isub, lw_istore, lwx_iload, lw_icmp_le, lw_icmp_ne, lw_iret, List.getD_cons_zero, List.getD_cons_succ, lm_set1, lm_set2, lm_cut, List.getElem?_cons_zero, List.getElem?_cons_succ, List.set_cons_zero, List.set_cons_succ, List.length_cons, List.length_nil, List.map_cons, List.map_nil, List.sum_cons, List.sum_nil, Value.category, Nat.reduceAdd, Nat.reduceDiv, Nat.reduceMod, Nat.reduceLT, Nat.reduceLeDiff, Nat.reduceMul, Int.toNat_natCast, Int.reduceToNat, true_and, and_true, lm_rok_1, lm_rok_20, lm_rok_21, lm_rok_0, lm_args, lm_ent, List.nil_append, List.cons_append, List.replicate, Nat.reduceSub, if_false, if_true, reduceCtorEq, Nat.reduceEqDiff, Bool.or_true, Bool.true_or, Bool.or_false, Bool.false_or, Bool.and_true, Bool.true_and, BEq.rfl, beq_self_eq_true, kb_m94, kb_m92, kb_m63, kb_m46, kb_m45, kb_m42, kb_m41, kb_m33, kb_m10, kb_m9, kb_m4, kb_m3, kb_m2, zkb_6, zkb_7, zkb_8, zkb_9, zkb_10, zkb_11, zkb_12, zkb_13, zkb_14, zkb_15, zkb_16, zkb_17, zkb_18, zkb_19, zkb_20, zkb_21, zkb_22, zkb_23, zkb_24, zkb_26, zkb_32, zkb_33, zkb_34, zkb_38, zkb_40, zkb_41, zkb_43, zkb_44, zkb_45, zkb_46, zkb_48, zkb_57, zkb_58, zkb_59, zkb_60, zkb_61, zkb_62, zkb_64, zkb_80, zkb_81, zkb_91, zkb_92, zkb_93, zkb_97, zkb_100, zkb_104, zkb_122, zkb_126, ki_m8, ki_m2, ki_m1, zki_0, zki_1, zki_2, zki_3, zki_4, zki_5, zks_160, zks_168, zks_240, zks_242, zks_255, zks_264, zks_300, zks_320, zks_500, zks_600, zks_625, zks_626, zks_1200, zks_1256, zks_2000, zks_2504, zks_3040, zks_4000, zks_6000, zks_12000, kl_0, kl_1, z_lt, z_le, z_eq, z_eq0, z_eq1, z_lt0, z_le0, z_0lt, z_0le, z_add, z_sub, z_add1, z_addn, z_addm, z_mul, z_cl, z_n9, z_n9s, z_n90, z_ne9, z_ne9s, z_lt_t, z_lt_f, z_le_t, z_le_f, z_eq_t, z_eq_f, z_pus, z_pun, z_row, or_self, or_false, false_or, true_or, or_true, and_self, and_false, false_and, not_true_eq_false, not_false_eq_true, false_implies, true_implies, implies_true, ne_eq, lm_row_s, lm_row_row, lm_up_row, rc_s, Classical.not_not, Nat.add_sub_cancel, i10, z_on, ml_186, rt_186, cb_186_23, cb_186_107, cb_186_122, cb_186_123, cb_186_151, cb_186_158, cb_186_176, cb_186_197, cb_186_203, cb_186_206, cb_186_217, cb_186_220, cb_186_226, rc_mod hS, sh_96 hS, sh_151 hS, sh_152 hS, rf_96_81 hR, rf_96_83 hR, rf_96_96 hR, hend, hm, z0]
      have h3 := h2 (lm_row I 151 (upd (I 151) T.length (nI o))) z1 (fun o ho => lm_row_n ho)
      rw [if_pos z0, lm_row_s] at h3
      exact h3 ⟨pk_us, stk_keep (fun j hj => pk_un (by omega)) hst⟩
    · simp (disch := omega) only [lk_v, lk_n, lm_isI_i, lm_isL_l, lm_isR_r, lm_vi_i, lw_iconst, lwx_istore_0, lwx_istore_1, lwx_istore_2, lwx_istore_3, lwx_iload_0, lwx_iload_1, lwx_iload_2, lwx_iload_3, lwx_aload_0, lwx_aload_1, lwx_aload_2, lwx_aload_3, lw_getI, lw_getL, lw_getR, lw_getZ, lw_icmp_ge, lw_iastore, lwx_iinc, lw_goto, lwx_invokevirtual_2, lw_iaload, lw_if_ne, lw_if_le, lw_isub, lw_istore, lwx_iload, lw_icmp_le, lw_icmp_ne, lw_iret, List.getD_cons_zero, List.getD_cons_succ, lm_set1, lm_set2, lm_cut, List.getElem?_cons_zero, List.getElem?_cons_succ, List.set_cons_zero, List.set_cons_succ, List.length_cons, List.length_nil, List.map_cons, List.map_nil, List.sum_cons, List.sum_nil, Value.category, Nat.reduceAdd, Nat.reduceDiv, Nat.reduceMod, Nat.reduceLT, Nat.reduceLeDiff, Nat.reduceMul, Int.toNat_natCast, Int.reduceToNat, true_and, and_true, lm_rok_1, lm_rok_20, lm_rok_21, lm_rok_0, lm_args, lm_ent, List.nil_append, List.cons_append, List.replicate, Nat.reduceSub, if_false, if_true, reduceCtorEq, Nat.reduceEqDiff, Bool.or_true, Bool.true_or, Bool.or_false, Bool.false_or, Bool.and_true, Bool.true_and, BEq.rfl, beq_self_eq_true, kb_m94, kb_m92, kb_m63, kb_m46, kb_m45, kb_m42, kb_m41, kb_m33, kb_m10, kb_m9, kb_m4, kb_m3, kb_m2, zkb_6, zkb_7, zkb_8, zkb_9, zkb_10, zkb_11, zkb_12, zkb_13, zkb_14, zkb_15, zkb_16, zkb_17, zkb_18, zkb_19, zkb_20, zkb_21, zkb_22, zkb_23, zkb_24, zkb_26, zkb_32, zkb_33, zkb_34, zkb_38, zkb_40, zkb_41, zkb_43, zkb_44, zkb_45, zkb_46, zkb_48, zkb_57, zkb_58, zkb_59, zkb_60, zkb_61, zkb_62, zkb_64, zkb_80, zkb_81, zkb_91, zkb_92, zkb_93, zkb_97, zkb_100, zkb_104, zkb_122, zkb_126, ki_m8, ki_m2, ki_m1, zki_0, zki_1, zki_2, zki_3, zki_4, zki_5, zks_160, zks_168, zks_240, zks_242, zks_255, zks_264, zks_300, zks_320, zks_500, zks_600, zks_625, zks_626, zks_1200, zks_1256, zks_2000, zks_2504, zks_3040, zks_4000, zks_6000, zks_12000, kl_0, kl_1, z_lt, z_le, z_eq, z_eq0, z_eq1, z_lt0, z_le0, z_0lt, z_0le, z_add, z_sub, z_add1, z_addn, z_addm, z_mul, z_cl, z_n9, z_n9s, z_n90, z_ne9, z_ne9s, z_lt_t, z_lt_f, z_le_t, z_le_f, z_eq_t, z_eq_f, z_pus, z_pun, z_row, or_self, or_false, false_or, true_or, or_true, and_self, and_false, false_and, not_true_eq_false, not_false_eq_true, false_implies, true_implies, implies_true, ne_eq, lm_row_s, lm_row_row, lm_up_row, rc_s, Classical.not_not, Nat.add_sub_cancel, i10, z_on, ml_186, rt_186, cb_186_23, cb_186_107, cb_186_122, cb_186_123, cb_186_151, cb_186_158, cb_186_176, cb_186_197, cb_186_203, cb_186_206, cb_186_217, cb_186_220, cb_186_226, rc_mod hS, sh_96 hS, sh_151 hS, sh_152 hS, rf_96_81 hR, rf_96_83 hR, rf_96_96 hR, hend, hm]
      have h3 := h2 I z1 (fun _ _ => rfl)
      rw [if_neg z0] at h3
      exact h3 hst
/-- isEndless: the walk -/
theorem l_186 (hS : lp_shape S) (hR : lp_refs R) (I0 : lm_I) (g0 : mr I0 n P So Le Ri) (hf : fo P n dp u) (hu : u ≤ 6000) (hn : n ≤ 5999) (hg : gok n So Le Ri) {k : Nat} {fr : Int32}
    (hQ0 : ∀ I', (∀ o, o ≠ 151 → o ≠ 152 → I' o = I0 o) → (∀ val, ¬ Sol n P So Le Ri val) → Q (some (.int (nI 1))) (S, I', L, R)) :
    ∀ (m : Nat) (T : List Nat) (mk : Nat → Nat) (I : lm_I) (v4 v5 v6 v7 : Value), 3 * zmk mk n + T.length ≤ m → T.length + 2 * zmk mk n ≤ 2 * n + 1 → (∀ o, o ≠ 151 → o ≠ 152 → I o = I0 o) → (∀ j, j < n → I 152 j = nI (mk j)) → (∀ j, j < n → mk j ≤ 2) → stk (I 151) T → dfs n (rt P) So Le Ri (fun x a => ∀ val, Sol n P So Le Ri val → SizeOf.sizeOf (val x) < SizeOf.sizeOf (val a)) mk T →
    (∀ (I' : lm_I) (mk' : Nat → Nat) (v4 v5 v6 v7 : Value), (∀ o, o ≠ 151 → o ≠ 152 → I' o = I0 o) → (∀ j, j < n → I' 152 j = nI (mk' j)) → (∀ j, j < n → mk' j ≤ 2) → dfs n (rt P) So Le Ri (fun x a => ∀ val, Sol n P So Le Ri val → SizeOf.sizeOf (val x) < SizeOf.sizeOf (val a)) mk' [] → (∀ j, mk j = 2 → mk' j = 2) → (∀ x ∈ T, mk' x = 2) → lw (e + 1) 186 (lm_J 186 220) [.ref 96, .int (nI k), .int fr, .int (nI 0), v4, v5, v6, v7] [] (S, I', L, R) Q) →
    lw (e + 1) 186 (lm_J 186 60) [.ref 96, .int (nI k), .int fr, .int (nI T.length), v4, v5, v6, v7] [] (S, I, L, R) Q := by
  intro m
  induction m with
  | zero =>
    intro T mk I v4 v5 v6 v7 hm hTl hfr hmk hmk2 hst hd hQ1
    match T, hm, hd, hQ1 with
    | [], hm, hd, hQ1 =>
      rw [cb_186_60]
      simp (disch := omega) only [lk_v, lk_n, lm_isI_i, lm_isL_l, lm_isR_r, lm_vi_i, lw_iconst, lwx_istore_0, lwx_istore_1, lwx_istore_2, lwx_istore_3, lwx_iload_0, lwx_iload_1, lwx_iload_2, lwx_iload_3, lwx_aload_0, lwx_aload_1, lwx_aload_2, lwx_aload_3, lw_getI, lw_getL, lw_getR, lw_getZ, lw_icmp_ge, lw_iastore, lwx_iinc, lw_goto, lwx_invokevirtual_2, lw_iaload, lw_if_ne, lw_if_le, lw_isub, lw_istore, lwx_iload, lw_icmp_le, lw_icmp_ne, lw_iret, List.getD_cons_zero, List.getD_cons_succ, lm_set1, lm_set2, lm_cut, List.getElem?_cons_zero, List.getElem?_cons_succ, List.set_cons_zero, List.set_cons_succ, List.length_cons, List.length_nil, List.map_cons, List.map_nil, List.sum_cons, List.sum_nil, Value.category, Nat.reduceAdd, Nat.reduceDiv, Nat.reduceMod, Nat.reduceLT, Nat.reduceLeDiff, Nat.reduceMul, Int.toNat_natCast, Int.reduceToNat, true_and, and_true, lm_rok_1, lm_rok_20, lm_rok_21, lm_rok_0, lm_args, lm_ent, List.nil_append, List.cons_append, List.replicate, Nat.reduceSub, if_false, if_true, reduceCtorEq, Nat.reduceEqDiff, Bool.or_true, Bool.true_or, Bool.or_false, Bool.false_or, Bool.and_true, Bool.true_and, BEq.rfl, beq_self_eq_true, kb_m94, kb_m92, kb_m63, kb_m46, kb_m45, kb_m42, kb_m41, kb_m33, kb_m10, kb_m9, kb_m4, kb_m3, kb_m2, zkb_6, zkb_7, zkb_8, zkb_9, zkb_10, zkb_11, zkb_12, zkb_13, zkb_14, zkb_15, zkb_16, zkb_17, zkb_18, zkb_19, zkb_20, zkb_21, zkb_22, zkb_23, zkb_24, zkb_26, zkb_32, zkb_33, zkb_34, zkb_38, zkb_40, zkb_41, zkb_43, zkb_44, zkb_45, zkb_46, zkb_48, zkb_57, zkb_58, zkb_59, zkb_60, zkb_61, zkb_62, zkb_64, zkb_80, zkb_81, zkb_91, zkb_92, zkb_93, zkb_97, zkb_100, zkb_104, zkb_122, zkb_126, ki_m8, ki_m2, ki_m1, zki_0, zki_1, zki_2, zki_3, zki_4, zki_5, zks_160, zks_168, zks_240, zks_242, zks_255, zks_264, zks_300, zks_320, zks_500, zks_600, zks_625, zks_626, zks_1200, zks_1256, zks_2000, zks_2504, zks_3040, zks_4000, zks_6000, zks_12000, kl_0, kl_1, z_lt, z_le, z_eq, z_eq0, z_eq1, z_lt0, z_le0, z_0lt, z_0le, z_add, z_sub, z_add1, z_addn, z_addm, z_mul, z_cl, z_n9, z_n9s, z_n90, z_ne9, z_ne9s, z_lt_t, z_lt_f, z_le_t, z_le_f, z_eq_t, z_eq_f, z_pus, z_pun, z_row, or_self, or_false, false_or, true_or, or_true, and_self, and_false, false_and, not_true_eq_false, not_false_eq_true, false_implies, true_implies, implies_true, ne_eq, lm_row_s, lm_row_row, lm_up_row, rc_s, Classical.not_not, Nat.add_sub_cancel, i10, z_on, ml_186, rt_186, cb_186_23, cb_186_107, cb_186_122, cb_186_123, cb_186_151, cb_186_158, cb_186_176, cb_186_197, cb_186_203, cb_186_206, cb_186_217, cb_186_226]
      exact hQ1 I mk v4 v5 v6 v7 hfr hmk hmk2 hd (fun _ h => h) (fun x hx => by cases hx)
    | t :: T, hm, hd, hQ1 => simp only [List.length_cons] at hm; omega
  | succ m ih =>
    intro T mk I v4 v5 v6 v7 hm hTl hfr hmk hmk2 hst hd hQ1
    match T, hm, hTl, hst, hd, hQ1 with
    | [], hm, hTl, hst, hd, hQ1 =>
      rw [cb_186_60]
      simp (disch := omega) only [lk_v, lk_n, lm_isI_i, lm_isL_l, lm_isR_r, lm_vi_i, lw_iconst, lwx_istore_0, lwx_istore_1, lwx_istore_2, lwx_istore_3, lwx_iload_0, lwx_iload_1, lwx_iload_2, lwx_iload_3, lwx_aload_0, lwx_aload_1, lwx_aload_2, lwx_aload_3, lw_getI, lw_getL, lw_getR, lw_getZ, lw_icmp_ge, lw_iastore, lwx_iinc, lw_goto, lwx_invokevirtual_2, lw_iaload, lw_if_ne, lw_if_le, lw_isub, lw_istore, lwx_iload, lw_icmp_le, lw_icmp_ne, lw_iret, List.getD_cons_zero, List.getD_cons_succ, lm_set1, lm_set2, lm_cut, List.getElem?_cons_zero, List.getElem?_cons_succ, List.set_cons_zero, List.set_cons_succ, List.length_cons, List.length_nil, List.map_cons, List.map_nil, List.sum_cons, List.sum_nil, Value.category, Nat.reduceAdd, Nat.reduceDiv, Nat.reduceMod, Nat.reduceLT, Nat.reduceLeDiff, Nat.reduceMul, Int.toNat_natCast, Int.reduceToNat, true_and, and_true, lm_rok_1, lm_rok_20, lm_rok_21, lm_rok_0, lm_args, lm_ent, List.nil_append, List.cons_append, List.replicate, Nat.reduceSub, if_false, if_true, reduceCtorEq, Nat.reduceEqDiff, Bool.or_true, Bool.true_or, Bool.or_false, Bool.false_or, Bool.and_true, Bool.true_and, BEq.rfl, beq_self_eq_true, kb_m94, kb_m92, kb_m63, kb_m46, kb_m45, kb_m42, kb_m41, kb_m33, kb_m10, kb_m9, kb_m4, kb_m3, kb_m2, zkb_6, zkb_7, zkb_8, zkb_9, zkb_10, zkb_11, zkb_12, zkb_13, zkb_14, zkb_15, zkb_16, zkb_17, zkb_18, zkb_19, zkb_20, zkb_21, zkb_22, zkb_23, zkb_24, zkb_26, zkb_32, zkb_33, zkb_34, zkb_38, zkb_40, zkb_41, zkb_43, zkb_44, zkb_45, zkb_46, zkb_48, zkb_57, zkb_58, zkb_59, zkb_60, zkb_61, zkb_62, zkb_64, zkb_80, zkb_81, zkb_91, zkb_92, zkb_93, zkb_97, zkb_100, zkb_104, zkb_122, zkb_126, ki_m8, ki_m2, ki_m1, zki_0, zki_1, zki_2, zki_3, zki_4, zki_5, zks_160, zks_168, zks_240, zks_242, zks_255, zks_264, zks_300, zks_320, zks_500, zks_600, zks_625, zks_626, zks_1200, zks_1256, zks_2000, zks_2504, zks_3040, zks_4000, zks_6000, zks_12000, kl_0, kl_1, z_lt, z_le, z_eq, z_eq0, z_eq1, z_lt0, z_le0, z_0lt, z_0le, z_add, z_sub, z_add1, z_addn, z_addm, z_mul, z_cl, z_n9, z_n9s, z_n90, z_ne9, z_ne9s, z_lt_t, z_lt_f, z_le_t, z_le_f, z_eq_t, z_eq_f, z_pus, z_pun, z_row, or_self, or_false, false_or, true_or, or_true, and_self, and_false, false_and, not_true_eq_false, not_false_eq_true, false_implies, true_implies, implies_true, ne_eq, lm_row_s, lm_row_row, lm_up_row, rc_s, Classical.not_not, Nat.add_sub_cancel, i10, z_on, ml_186, rt_186, cb_186_23, cb_186_107, cb_186_122, cb_186_123, cb_186_151, cb_186_158, cb_186_176, cb_186_197, cb_186_203, cb_186_206, cb_186_217, cb_186_226]
      exact hQ1 I mk v4 v5 v6 v7 hfr hmk hmk2 hd (fun _ h => h) (fun x hx => by cases hx)
    | t :: T, hm, hTl, hst, hd, hQ1 =>
      have g := mr_fr g0 hfr
      obtain ⟨ht, htr⟩ := hd.1 t List.mem_cons_self
      have hst1 := hst.1
      simp only [List.length_cons] at hm hTl
      have hmt := hmk t ht
      have hmt2 := hmk2 t ht
      have h147 := g.2.2.2.1 t ht
      have h148 := g.2.2.2.2.1 t ht
      have h149 := g.2.2.2.2.2 t ht
      have hgt := hg t ht
      rw [cb_186_60]
      by_cases h0 : mk t = 0
      · -- mark it
        have hz := zmk_set (n := n) (x := 1) ht h0 (by decide)
        have hc := dfs_mark hd h0
        have hmk' : ∀ j, j < n → lm_row I 152 (upd (I 152) t (nI 1)) 152 j = nI ((fun j => if j = t then 1 else mk j) j) := fun j hj => by
          rw [lm_row_s]
          show (if j = t then nI 1 else I 152 j) = nI (if j = t then 1 else mk j)
          by_cases q : j = t
          · rw [if_pos q, if_pos q]
          · rw [if_neg q, if_neg q]; exact hmk j hj
        have hmk2' : ∀ j, j < n → (fun j => if j = t then 1 else mk j) j ≤ 2 := fun j hj => by
          show (if j = t then 1 else mk j) ≤ 2
          have := hmk2 j hj
          split <;> omega
        have hm1 : (fun j => if j = t then 1 else mk j) t = 1 := if_pos rfl
        have hmono : ∀ j, mk j = 2 → (fun j => if j = t then 1 else mk j) j = 2 := fun j hj => by
          show (if j = t then 1 else mk j) = 2
          rw [if_neg (fun z => by rw [z] at hj; omega)]; exact hj
        generalize (fun j => if j = t then 1 else mk j) = mk1 at *
        generalize hI1 : lm_row I 152 (upd (I 152) t (nI 1)) = I1 at *
        have hfr1 : ∀ o, o ≠ 152 → I1 o = I o := fun o ho => by rw [← hI1, lm_row_n ho]
        have hst' : stk (I1 151) (t :: T) := by rw [hfr1 151 (by decide)]; exact hst
        have g1 : mr I1 n P So Le Ri := mr_fr g (fun o _ h2 => hfr1 o h2)
        have fin : ∀ (T' : List Nat) (I' : lm_I) (v4 v5 v6 v7 : Value), T'.length ≤ T.length + 3 → (∀ o, o ≠ 151 → I' o = I1 o) → stk (I' 151) T' → dfs n (rt P) So Le Ri (fun x a => ∀ val, Sol n P So Le Ri val → SizeOf.sizeOf (val x) < SizeOf.sizeOf (val a)) mk1 T' → (∀ x ∈ t :: T, x ∈ T') → lw (e + 1) 186 (lm_J 186 60) [.ref 96, .int (nI k), .int fr, .int (nI T'.length), v4, v5, v6, v7] [] (S, I', L, R) Q := fun T' I' v4 v5 v6 v7 b1 b2 b3 b4 b5 => ih T' mk1 I' v4 v5 v6 v7 (by omega) (by omega) (fun o q1 q2 => by rw [b2 o q1, hfr1 o q2]; exact hfr o q1 q2) (fun j hj => by rw [b2 152 (by decide)]; exact hmk' j hj) hmk2' b3 b4 (fun I' mk' w4 w5 w6 w7 a1 a2 a3 a4 a5 a6 => hQ1 I' mk' w4 w5 w6 w7 a1 a2 a3 a4 (fun j hj => a5 j (hmono j hj)) (fun x hx => a6 x (b5 x hx)))
        have h147' : I1 147 t = nI (So t) := by rw [hfr1 147 (by decide)]; exact h147
        have hlen : 0 < (t :: T).length := by simp only [List.length_cons]; omega
        have hlen2 : (t :: T).length + 2 ≤ 12000 := by simp only [List.length_cons]; omega
        have hle1 : T.length + 1 = (t :: T).length := by simp only [List.length_cons]
        by_cases h4 : 4 ≤ So t
        · have e148 : pI (So t) 4 (Le t) = nI (Le t) := if_pos h4
          have hL := hgt.2.1 h4
          have h148' : I1 148 t = nI (Le t) := by rw [hfr1 148 (by decide), h148, e148]
          have hlt4 : ∀ val, Sol n P So Le Ri val → SizeOf.sizeOf (val (rt P (Le t))) < SizeOf.sizeOf (val t) := fun val hv => by
            have h1 : val (rt P (Le t)) = val (Le t) := Sol_rt hf hv 10000 _ hL
            rw [h1, (hv t ht).2 (by omega)]
            exact (con_lt (by omega)).1 h4
          have hr4 : rt P (Le t) < n := rt_lt hf (by omega) hL
          have hr4r : rt P (rt P (Le t)) = rt P (Le t) := rt_self (rt_root hf (by omega) hL)
          by_cases h5 : 5 ≤ So t
          · have e149 : pI (So t) 5 (Ri t) = nI (Ri t) := if_pos h5
            have hRi := hgt.2.2 h5
            have hlt5 : ∀ val, Sol n P So Le Ri val → SizeOf.sizeOf (val (rt P (Ri t))) < SizeOf.sizeOf (val t) := fun val hv => by
              have h1 : val (rt P (Ri t)) = val (Ri t) := Sol_rt hf hv 10000 _ hRi
              rw [h1, (hv t ht).2 (by omega)]
              exact (con_lt (by omega)).2 h5
            have hr5 : rt P (Ri t) < n := rt_lt hf (by omega) hRi
            have hr5r : rt P (rt P (Ri t)) = rt P (Ri t) := rt_self (rt_root hf (by omega) hRi)
            simp (disch := omega) only [lk_v, lk_n, lm_isI_i, lm_isL_l, lm_isR_r, lm_vi_i, lw_iconst, lwx_istore_0, lwx_istore_1, lwx_istore_2, lwx_istore_3, lwx_iload_0, lwx_iload_1, lwx_iload_2, lwx_iload_3, lwx_aload_0, lwx_aload_1, lwx_aload_2, lwx_aload_3, lw_getI, lw_getL, lw_getR, lw_getZ, lw_icmp_ge, lw_iastore, lwx_iinc, lw_goto, lwx_invokevirtual_2, lw_iaload, lw_if_ne, lw_if_le, lw_isub, lw_istore, lwx_iload, lw_icmp_le, lw_icmp_ne, lw_iret, List.getD_cons_zero, List.getD_cons_succ, lm_set1, lm_set2, lm_cut, List.getElem?_cons_zero, List.getElem?_cons_succ, List.set_cons_zero, List.set_cons_succ, List.length_cons, List.length_nil, List.map_cons, List.map_nil, List.sum_cons, List.sum_nil, Value.category, Nat.reduceAdd, Nat.reduceDiv, Nat.reduceMod, Nat.reduceLT, Nat.reduceLeDiff, Nat.reduceMul, Int.toNat_natCast, Int.reduceToNat, true_and, and_true, lm_rok_1, lm_rok_20, lm_rok_21, lm_rok_0, lm_args, lm_ent, List.nil_append, List.cons_append, List.replicate, Nat.reduceSub, if_false, if_true, reduceCtorEq, Nat.reduceEqDiff, Bool.or_true, Bool.true_or, Bool.or_false, Bool.false_or, Bool.and_true, Bool.true_and, BEq.rfl, beq_self_eq_true, kb_m94, kb_m92, kb_m63, kb_m46, kb_m45, kb_m42, kb_m41, kb_m33, kb_m10, kb_m9, kb_m4, kb_m3, kb_m2, zkb_6, zkb_7, zkb_8, zkb_9, zkb_10, zkb_11, zkb_12, zkb_13, zkb_14, zkb_15, zkb_16, zkb_17, zkb_18, zkb_19, zkb_20, zkb_21, zkb_22, zkb_23, zkb_24, zkb_26, zkb_32, zkb_33, zkb_34, zkb_38, zkb_40, zkb_41, zkb_43, zkb_44, zkb_45, zkb_46, zkb_48, zkb_57, zkb_58, zkb_59, zkb_60, zkb_61, zkb_62, zkb_64, zkb_80, zkb_81, zkb_91, zkb_92, zkb_93, zkb_97, zkb_100, zkb_104, zkb_122, zkb_126, ki_m8, ki_m2, ki_m1, zki_0, zki_1, zki_2, zki_3, zki_4, zki_5, zks_160, zks_168, zks_240, zks_242, zks_255, zks_264, zks_300, zks_320, zks_500, zks_600, zks_625, zks_626, zks_1200, zks_1256, zks_2000, zks_2504, zks_3040, zks_4000, zks_6000, zks_12000, kl_0, kl_1, z_lt, z_le, z_eq, z_eq0, z_eq1, z_lt0, z_le0, z_0lt, z_0le, z_add, z_sub, z_add1, z_addn, z_addm, z_mul, z_cl, z_n9, z_n9s, z_n90, z_ne9, z_ne9s, z_lt_t, z_lt_f, z_le_t, z_le_f, z_eq_t, z_eq_f, z_pus, z_pun, z_row, or_self, or_false, false_or, true_or, or_true, and_self, and_false, false_and, not_true_eq_false, not_false_eq_true, false_implies, true_implies, implies_true, ne_eq, lm_row_s, lm_row_row, lm_up_row, rc_s, Classical.not_not, Nat.add_sub_cancel, i10, z_on, ml_186, rt_186, cb_186_23, cb_186_107, cb_186_122, cb_186_123, cb_186_128, cb_186_151, cb_186_176, cb_186_197, cb_186_203, cb_186_206, cb_186_217, cb_186_220, cb_186_226, rc_mod hS, sh_96 hS, sh_147 hS, sh_148 hS, sh_151 hS, sh_152 hS, rf_96_76 hR, rf_96_77 hR, rf_96_78 hR, rf_96_81 hR, rf_96_83 hR, rf_96_96 hR, hst1, hmt, h0, h147', hI1, h148']
            refine q_186 (T := t :: T) (q := 0) hS hR g1 hf hu hL hmk' hmk2' hst' (by omega) (by decide) (fun hring => ?_) (fun I2 hno fr2 hst2 => ?_)
            · refine hQ0 I1 (fun o q1 q2 => by rw [hfr1 o q2]; exact hfr o q1 q2) (fun val hv => ?_)
              have := dfc_ring hc hr4 hring hlt4 (fun h1 h2 val hv => Nat.lt_trans (h1 val hv) (h2 val hv)) val hv
              omega
            · have hc2 := dfc_part (pd' := fun c => c = rt P (Ri t)) hc hr4 hr4r hno hlt4 (fun h1 h2 val hv => Nat.lt_trans (h1 val hv) (h2 val hv)) (fun c hc => by
                rcases hc with ⟨-, z⟩ | ⟨-, z⟩
                · exact Or.inl z.symm
                · exact Or.inr z.symm) (by have := hmk2' _ hr4; omega)
              have g2 : mr I2 n P So Le Ri := mr_fr g1 (fun o q1 _ => fr2 o q1)
              have hmk3 : ∀ j, j < n → I2 152 j = nI (mk1 j) := fun j hj => by rw [fr2 152 (by decide)]; exact hmk' j hj
              have h149' : I2 149 t = nI (Ri t) := by rw [fr2 149 (by decide), hfr1 149 (by decide), h149, e149]
              generalize rt P (Le t) = o4 at *
              have hlen3 : (if mk1 o4 = 0 then o4 :: t :: T else t :: T).length ≤ T.length + 2 := by split <;> simp only [List.length_cons] <;> omega
              have hsub3 : ∀ x ∈ t :: T, x ∈ (if mk1 o4 = 0 then o4 :: t :: T else t :: T) := fun x hx => by
                split
                · exact List.mem_cons_of_mem _ hx
                · exact hx
              generalize (if mk1 o4 = 0 then o4 :: t :: T else t :: T) = T3 at *
              rw [cb_186_128]
              simp (disch := omega) only [lk_v, lk_n, lm_isI_i, lm_isL_l, lm_isR_r, lm_vi_i, lw_iconst, lwx_istore_0, lwx_istore_1, lwx_istore_2, lwx_istore_3, lwx_iload_0, lwx_iload_1, lwx_iload_2, lwx_iload_3, lwx_aload_0, lwx_aload_1, lwx_aload_2, lwx_aload_3, lw_getI, lw_getL, lw_getR, lw_getZ, lw_icmp_ge, lw_iastore, lwx_iinc, lw_goto, lwx_invokevirtual_2, lw_iaload, lw_if_ne, lw_if_le, lw_isub, lw_istore, lwx_iload, lw_icmp_le, lw_icmp_ne, lw_iret, List.getD_cons_zero, List.getD_cons_succ, lm_set1, lm_set2, lm_cut, List.getElem?_cons_zero, List.getElem?_cons_succ, List.set_cons_zero, List.set_cons_succ, List.length_cons, List.length_nil, List.map_cons, List.map_nil, List.sum_cons, List.sum_nil, Value.category, Nat.reduceAdd, Nat.reduceDiv, Nat.reduceMod, Nat.reduceLT, Nat.reduceLeDiff, Nat.reduceMul, Int.toNat_natCast, Int.reduceToNat, true_and, and_true, lm_rok_1, lm_rok_20, lm_rok_21, lm_rok_0, lm_args, lm_ent, List.nil_append, List.cons_append, List.replicate, Nat.reduceSub, if_false, if_true, reduceCtorEq, Nat.reduceEqDiff, Bool.or_true, Bool.true_or, Bool.or_false, Bool.false_or, Bool.and_true, Bool.true_and, BEq.rfl, beq_self_eq_true, kb_m94, kb_m92, kb_m63, kb_m46, kb_m45, kb_m42, kb_m41, kb_m33, kb_m10, kb_m9, kb_m4, kb_m3, kb_m2, zkb_6, zkb_7, zkb_8, zkb_9, zkb_10, zkb_11, zkb_12, zkb_13, zkb_14, zkb_15, zkb_16, zkb_17, zkb_18, zkb_19, zkb_20, zkb_21, zkb_22, zkb_23, zkb_24, zkb_26, zkb_32, zkb_33, zkb_34, zkb_38, zkb_40, zkb_41, zkb_43, zkb_44, zkb_45, zkb_46, zkb_48, zkb_57, zkb_58, zkb_59, zkb_60, zkb_61, zkb_62, zkb_64, zkb_80, zkb_81, zkb_91, zkb_92, zkb_93, zkb_97, zkb_100, zkb_104, zkb_122, zkb_126, ki_m8, ki_m2, ki_m1, zki_0, zki_1, zki_2, zki_3, zki_4, zki_5, zks_160, zks_168, zks_240, zks_242, zks_255, zks_264, zks_300, zks_320, zks_500, zks_600, zks_625, zks_626, zks_1200, zks_1256, zks_2000, zks_2504, zks_3040, zks_4000, zks_6000, zks_12000, kl_0, kl_1, z_lt, z_le, z_eq, z_eq0, z_eq1, z_lt0, z_le0, z_0lt, z_0le, z_add, z_sub, z_add1, z_addn, z_addm, z_mul, z_cl, z_n9, z_n9s, z_n90, z_ne9, z_ne9s, z_lt_t, z_lt_f, z_le_t, z_le_f, z_eq_t, z_eq_f, z_pus, z_pun, z_row, or_self, or_false, false_or, true_or, or_true, and_self, and_false, false_and, not_true_eq_false, not_false_eq_true, false_implies, true_implies, implies_true, ne_eq, lm_row_s, lm_row_row, lm_up_row, rc_s, Classical.not_not, Nat.add_sub_cancel, i10, z_on, ml_186, rt_186, cb_186_23, cb_186_107, cb_186_122, cb_186_123, cb_186_151, cb_186_176, cb_186_197, cb_186_203, cb_186_206, cb_186_217, cb_186_220, cb_186_226, rc_mod hS, sh_96 hS, sh_149 hS, rf_96_76 hR, rf_96_77 hR, rf_96_78 hR, rf_96_81 hR, rf_96_83 hR, rf_96_96 hR, h149']
              refine q_186 (q := 1) hS hR g2 hf hu hRi hmk3 hmk2' hst2 (by omega) (by decide) (fun hring => ?_) (fun I4 hno5 fr4 hst4 => ?_)
              · refine hQ0 I2 (fun o q1 q2 => by rw [fr2 o q1, hfr1 o q2]; exact hfr o q1 q2) (fun val hv => ?_)
                have := dfc_ring hc2 hr5 hring hlt5 (fun h1 h2 val hv => Nat.lt_trans (h1 val hv) (h2 val hv)) val hv
                omega
              · have hc4 := dfc_done (dfc_part (pd' := fun _ => False) hc2 hr5 hr5r hno5 hlt5 (fun h1 h2 val hv => Nat.lt_trans (h1 val hv) (h2 val hv)) (fun c hc => Or.inl hc) (by have := hmk2' _ hr5; omega)) (fun _ h => h)
                generalize rt P (Ri t) = o5 at *
                have hlen5 : (if mk1 o5 = 0 then o5 :: T3 else T3).length ≤ T.length + 3 := by
                  by_cases z : mk1 o5 = 0
                  · rw [if_pos z]; simp only [List.length_cons]; omega
                  · rw [if_neg z]; omega
                have hsub5 : ∀ x ∈ T3, x ∈ (if mk1 o5 = 0 then o5 :: T3 else T3) := fun x hx => by
                  split
                  · exact List.mem_cons_of_mem _ hx
                  · exact hx
                generalize (if mk1 o5 = 0 then o5 :: T3 else T3) = T5 at *
                rw [cb_186_128]
                simp (disch := omega) only [lk_v, lk_n, lm_isI_i, lm_isL_l, lm_isR_r, lm_vi_i, lw_iconst, lwx_istore_0, lwx_istore_1, lwx_istore_2, lwx_istore_3, lwx_iload_0, lwx_iload_1, lwx_iload_2, lwx_iload_3, lwx_aload_0, lwx_aload_1, lwx_aload_2, lwx_aload_3, lw_getI, lw_getL, lw_getR, lw_getZ, lw_icmp_ge, lw_iastore, lwx_iinc, lw_goto, lwx_invokevirtual_2, lw_iaload, lw_if_ne, lw_if_le, lw_isub, lw_istore, lwx_iload, lw_icmp_le, lw_icmp_ne, lw_iret, List.getD_cons_zero, List.getD_cons_succ, lm_set1, lm_set2, lm_cut, List.getElem?_cons_zero, List.getElem?_cons_succ, List.set_cons_zero, List.set_cons_succ, List.length_cons, List.length_nil, List.map_cons, List.map_nil, List.sum_cons, List.sum_nil, Value.category, Nat.reduceAdd, Nat.reduceDiv, Nat.reduceMod, Nat.reduceLT, Nat.reduceLeDiff, Nat.reduceMul, Int.toNat_natCast, Int.reduceToNat, true_and, and_true, lm_rok_1, lm_rok_20, lm_rok_21, lm_rok_0, lm_args, lm_ent, List.nil_append, List.cons_append, List.replicate, Nat.reduceSub, if_false, if_true, reduceCtorEq, Nat.reduceEqDiff, Bool.or_true, Bool.true_or, Bool.or_false, Bool.false_or, Bool.and_true, Bool.true_and, BEq.rfl, beq_self_eq_true, kb_m94, kb_m92, kb_m63, kb_m46, kb_m45, kb_m42, kb_m41, kb_m33, kb_m10, kb_m9, kb_m4, kb_m3, kb_m2, zkb_6, zkb_7, zkb_8, zkb_9, zkb_10, zkb_11, zkb_12, zkb_13, zkb_14, zkb_15, zkb_16, zkb_17, zkb_18, zkb_19, zkb_20, zkb_21, zkb_22, zkb_23, zkb_24, zkb_26, zkb_32, zkb_33, zkb_34, zkb_38, zkb_40, zkb_41, zkb_43, zkb_44, zkb_45, zkb_46, zkb_48, zkb_57, zkb_58, zkb_59, zkb_60, zkb_61, zkb_62, zkb_64, zkb_80, zkb_81, zkb_91, zkb_92, zkb_93, zkb_97, zkb_100, zkb_104, zkb_122, zkb_126, ki_m8, ki_m2, ki_m1, zki_0, zki_1, zki_2, zki_3, zki_4, zki_5, zks_160, zks_168, zks_240, zks_242, zks_255, zks_264, zks_300, zks_320, zks_500, zks_600, zks_625, zks_626, zks_1200, zks_1256, zks_2000, zks_2504, zks_3040, zks_4000, zks_6000, zks_12000, kl_0, kl_1, z_lt, z_le, z_eq, z_eq0, z_eq1, z_lt0, z_le0, z_0lt, z_0le, z_add, z_sub, z_add1, z_addn, z_addm, z_mul, z_cl, z_n9, z_n9s, z_n90, z_ne9, z_ne9s, z_lt_t, z_lt_f, z_le_t, z_le_f, z_eq_t, z_eq_f, z_pus, z_pun, z_row, or_self, or_false, false_or, true_or, or_true, and_self, and_false, false_and, not_true_eq_false, not_false_eq_true, false_implies, true_implies, implies_true, ne_eq, lm_row_s, lm_row_row, lm_up_row, rc_s, Classical.not_not, Nat.add_sub_cancel, i10, z_on, ml_186, rt_186, cb_186_23, cb_186_107, cb_186_122, cb_186_123, cb_186_151, cb_186_158, cb_186_176, cb_186_197, cb_186_203, cb_186_206, cb_186_217, cb_186_220, cb_186_226]
                exact fin T5 I4 _ _ _ _ hlen5 (fun o q => by rw [fr4 o q, fr2 o q]) hst4 hc4 (fun x hx => hsub5 x (hsub3 x hx))
          · have h4e : So t = 4 := by omega
            simp (disch := omega) only [lk_v, lk_n, lm_isI_i, lm_isL_l, lm_isR_r, lm_vi_i, lw_iconst, lwx_istore_0, lwx_istore_1, lwx_istore_2, lwx_istore_3, lwx_iload_0, lwx_iload_1, lwx_iload_2, lwx_iload_3, lwx_aload_0, lwx_aload_1, lwx_aload_2, lwx_aload_3, lw_getI, lw_getL, lw_getR, lw_getZ, lw_icmp_ge, lw_iastore, lwx_iinc, lw_goto, lwx_invokevirtual_2, lw_iaload, lw_if_ne, lw_if_le, lw_isub, lw_istore, lwx_iload, lw_icmp_le, lw_icmp_ne, lw_iret, List.getD_cons_zero, List.getD_cons_succ, lm_set1, lm_set2, lm_cut, List.getElem?_cons_zero, List.getElem?_cons_succ, List.set_cons_zero, List.set_cons_succ, List.length_cons, List.length_nil, List.map_cons, List.map_nil, List.sum_cons, List.sum_nil, Value.category, Nat.reduceAdd, Nat.reduceDiv, Nat.reduceMod, Nat.reduceLT, Nat.reduceLeDiff, Nat.reduceMul, Int.toNat_natCast, Int.reduceToNat, true_and, and_true, lm_rok_1, lm_rok_20, lm_rok_21, lm_rok_0, lm_args, lm_ent, List.nil_append, List.cons_append, List.replicate, Nat.reduceSub, if_false, if_true, reduceCtorEq, Nat.reduceEqDiff, Bool.or_true, Bool.true_or, Bool.or_false, Bool.false_or, Bool.and_true, Bool.true_and, BEq.rfl, beq_self_eq_true, kb_m94, kb_m92, kb_m63, kb_m46, kb_m45, kb_m42, kb_m41, kb_m33, kb_m10, kb_m9, kb_m4, kb_m3, kb_m2, zkb_6, zkb_7, zkb_8, zkb_9, zkb_10, zkb_11, zkb_12, zkb_13, zkb_14, zkb_15, zkb_16, zkb_17, zkb_18, zkb_19, zkb_20, zkb_21, zkb_22, zkb_23, zkb_24, zkb_26, zkb_32, zkb_33, zkb_34, zkb_38, zkb_40, zkb_41, zkb_43, zkb_44, zkb_45, zkb_46, zkb_48, zkb_57, zkb_58, zkb_59, zkb_60, zkb_61, zkb_62, zkb_64, zkb_80, zkb_81, zkb_91, zkb_92, zkb_93, zkb_97, zkb_100, zkb_104, zkb_122, zkb_126, ki_m8, ki_m2, ki_m1, zki_0, zki_1, zki_2, zki_3, zki_4, zki_5, zks_160, zks_168, zks_240, zks_242, zks_255, zks_264, zks_300, zks_320, zks_500, zks_600, zks_625, zks_626, zks_1200, zks_1256, zks_2000, zks_2504, zks_3040, zks_4000, zks_6000, zks_12000, kl_0, kl_1, z_lt, z_le, z_eq, z_eq0, z_eq1, z_lt0, z_le0, z_0lt, z_0le, z_add, z_sub, z_add1, z_addn, z_addm, z_mul, z_cl, z_n9, z_n9s, z_n90, z_ne9, z_ne9s, z_lt_t, z_lt_f, z_le_t, z_le_f, z_eq_t, z_eq_f, z_pus, z_pun, z_row, or_self, or_false, false_or, true_or, or_true, and_self, and_false, false_and, not_true_eq_false, not_false_eq_true, false_implies, true_implies, implies_true, ne_eq, lm_row_s, lm_row_row, lm_up_row, rc_s, Classical.not_not, Nat.add_sub_cancel, i10, z_on, ml_186, rt_186, cb_186_23, cb_186_107, cb_186_122, cb_186_123, cb_186_128, cb_186_151, cb_186_176, cb_186_197, cb_186_203, cb_186_206, cb_186_217, cb_186_220, cb_186_226, rc_mod hS, sh_96 hS, sh_147 hS, sh_148 hS, sh_151 hS, sh_152 hS, rf_96_76 hR, rf_96_77 hR, rf_96_78 hR, rf_96_81 hR, rf_96_83 hR, rf_96_96 hR, hst1, hmt, h0, h147', hI1, h148', h4e]
            refine q_186 (T := t :: T) (q := 0) hS hR g1 hf hu hL hmk' hmk2' hst' (by omega) (by decide) (fun hring => ?_) (fun I2 hno fr2 hst2 => ?_)
            · refine hQ0 I1 (fun o q1 q2 => by rw [hfr1 o q2]; exact hfr o q1 q2) (fun val hv => ?_)
              have := dfc_ring hc hr4 hring hlt4 (fun h1 h2 val hv => Nat.lt_trans (h1 val hv) (h2 val hv)) val hv
              omega
            · have hc2 := dfc_done (dfc_part (pd' := fun _ => False) hc hr4 hr4r hno hlt4 (fun h1 h2 val hv => Nat.lt_trans (h1 val hv) (h2 val hv)) (fun c hc => by
                rcases hc with ⟨-, z⟩ | ⟨z, -⟩
                · exact Or.inl z.symm
                · omega) (by have := hmk2' _ hr4; omega)) (fun _ h => h)
              generalize rt P (Le t) = o4 at *
              have hlen3 : (if mk1 o4 = 0 then o4 :: t :: T else t :: T).length ≤ T.length + 3 := by split <;> simp only [List.length_cons] <;> omega
              have hsub3 : ∀ x ∈ t :: T, x ∈ (if mk1 o4 = 0 then o4 :: t :: T else t :: T) := fun x hx => by
                split
                · exact List.mem_cons_of_mem _ hx
                · exact hx
              generalize (if mk1 o4 = 0 then o4 :: t :: T else t :: T) = T3 at *
              rw [cb_186_128]
              simp (disch := omega) only [lk_v, lk_n, lm_isI_i, lm_isL_l, lm_isR_r, lm_vi_i, lw_iconst, lwx_istore_0, lwx_istore_1, lwx_istore_2, lwx_istore_3, lwx_iload_0, lwx_iload_1, lwx_iload_2, lwx_iload_3, lwx_aload_0, lwx_aload_1, lwx_aload_2, lwx_aload_3, lw_getI, lw_getL, lw_getR, lw_getZ, lw_icmp_ge, lw_iastore, lwx_iinc, lw_goto, lwx_invokevirtual_2, lw_iaload, lw_if_ne, lw_if_le, lw_isub, lw_istore, lwx_iload, lw_icmp_le, lw_icmp_ne, lw_iret, List.getD_cons_zero, List.getD_cons_succ, lm_set1, lm_set2, lm_cut, List.getElem?_cons_zero, List.getElem?_cons_succ, List.set_cons_zero, List.set_cons_succ, List.length_cons, List.length_nil, List.map_cons, List.map_nil, List.sum_cons, List.sum_nil, Value.category, Nat.reduceAdd, Nat.reduceDiv, Nat.reduceMod, Nat.reduceLT, Nat.reduceLeDiff, Nat.reduceMul, Int.toNat_natCast, Int.reduceToNat, true_and, and_true, lm_rok_1, lm_rok_20, lm_rok_21, lm_rok_0, lm_args, lm_ent, List.nil_append, List.cons_append, List.replicate, Nat.reduceSub, if_false, if_true, reduceCtorEq, Nat.reduceEqDiff, Bool.or_true, Bool.true_or, Bool.or_false, Bool.false_or, Bool.and_true, Bool.true_and, BEq.rfl, beq_self_eq_true, kb_m94, kb_m92, kb_m63, kb_m46, kb_m45, kb_m42, kb_m41, kb_m33, kb_m10, kb_m9, kb_m4, kb_m3, kb_m2, zkb_6, zkb_7, zkb_8, zkb_9, zkb_10, zkb_11, zkb_12, zkb_13, zkb_14, zkb_15, zkb_16, zkb_17, zkb_18, zkb_19, zkb_20, zkb_21, zkb_22, zkb_23, zkb_24, zkb_26, zkb_32, zkb_33, zkb_34, zkb_38, zkb_40, zkb_41, zkb_43, zkb_44, zkb_45, zkb_46, zkb_48, zkb_57, zkb_58, zkb_59, zkb_60, zkb_61, zkb_62, zkb_64, zkb_80, zkb_81, zkb_91, zkb_92, zkb_93, zkb_97, zkb_100, zkb_104, zkb_122, zkb_126, ki_m8, ki_m2, ki_m1, zki_0, zki_1, zki_2, zki_3, zki_4, zki_5, zks_160, zks_168, zks_240, zks_242, zks_255, zks_264, zks_300, zks_320, zks_500, zks_600, zks_625, zks_626, zks_1200, zks_1256, zks_2000, zks_2504, zks_3040, zks_4000, zks_6000, zks_12000, kl_0, kl_1, z_lt, z_le, z_eq, z_eq0, z_eq1, z_lt0, z_le0, z_0lt, z_0le, z_add, z_sub, z_add1, z_addn, z_addm, z_mul, z_cl, z_n9, z_n9s, z_n90, z_ne9, z_ne9s, z_lt_t, z_lt_f, z_le_t, z_le_f, z_eq_t, z_eq_f, z_pus, z_pun, z_row, or_self, or_false, false_or, true_or, or_true, and_self, and_false, false_and, not_true_eq_false, not_false_eq_true, false_implies, true_implies, implies_true, ne_eq, lm_row_s, lm_row_row, lm_up_row, rc_s, Classical.not_not, Nat.add_sub_cancel, i10, z_on, ml_186, rt_186, cb_186_23, cb_186_107, cb_186_122, cb_186_123, cb_186_151, cb_186_158, cb_186_176, cb_186_197, cb_186_203, cb_186_206, cb_186_217, cb_186_220, cb_186_226]
              exact fin T3 I2 _ _ _ _ hlen3 (fun o q => by rw [fr2 o q]) hst2 hc2 hsub3
        · simp (disch := omega) only [lk_v, lk_n, lm_isI_i, lm_isL_l, lm_isR_r, lm_vi_i, lw_iconst, lwx_istore_0, lwx_istore_1, lwx_istore_2, lwx_istore_3, lwx_iload_0, lwx_iload_1, lwx_iload_2, lwx_iload_3, lwx_aload_0, lwx_aload_1, lwx_aload_2, lwx_aload_3, lw_getI, lw_getL, lw_getR, lw_getZ, lw_icmp_ge, lw_iastore, lwx_iinc, lw_goto, lwx_invokevirtual_2, lw_iaload, lw_if_ne, lw_if_le, lw_isub, lw_istore, lwx_iload, lw_icmp_le, lw_icmp_ne, lw_iret, List.getD_cons_zero, List.getD_cons_succ, lm_set1, lm_set2, lm_cut, List.getElem?_cons_zero, List.getElem?_cons_succ, List.set_cons_zero, List.set_cons_succ, List.length_cons, List.length_nil, List.map_cons, List.map_nil, List.sum_cons, List.sum_nil, Value.category, Nat.reduceAdd, Nat.reduceDiv, Nat.reduceMod, Nat.reduceLT, Nat.reduceLeDiff, Nat.reduceMul, Int.toNat_natCast, Int.reduceToNat, true_and, and_true, lm_rok_1, lm_rok_20, lm_rok_21, lm_rok_0, lm_args, lm_ent, List.nil_append, List.cons_append, List.replicate, Nat.reduceSub, if_false, if_true, reduceCtorEq, Nat.reduceEqDiff, Bool.or_true, Bool.true_or, Bool.or_false, Bool.false_or, Bool.and_true, Bool.true_and, BEq.rfl, beq_self_eq_true, kb_m94, kb_m92, kb_m63, kb_m46, kb_m45, kb_m42, kb_m41, kb_m33, kb_m10, kb_m9, kb_m4, kb_m3, kb_m2, zkb_6, zkb_7, zkb_8, zkb_9, zkb_10, zkb_11, zkb_12, zkb_13, zkb_14, zkb_15, zkb_16, zkb_17, zkb_18, zkb_19, zkb_20, zkb_21, zkb_22, zkb_23, zkb_24, zkb_26, zkb_32, zkb_33, zkb_34, zkb_38, zkb_40, zkb_41, zkb_43, zkb_44, zkb_45, zkb_46, zkb_48, zkb_57, zkb_58, zkb_59, zkb_60, zkb_61, zkb_62, zkb_64, zkb_80, zkb_81, zkb_91, zkb_92, zkb_93, zkb_97, zkb_100, zkb_104, zkb_122, zkb_126, ki_m8, ki_m2, ki_m1, zki_0, zki_1, zki_2, zki_3, zki_4, zki_5, zks_160, zks_168, zks_240, zks_242, zks_255, zks_264, zks_300, zks_320, zks_500, zks_600, zks_625, zks_626, zks_1200, zks_1256, zks_2000, zks_2504, zks_3040, zks_4000, zks_6000, zks_12000, kl_0, kl_1, z_lt, z_le, z_eq, z_eq0, z_eq1, z_lt0, z_le0, z_0lt, z_0le, z_add, z_sub, z_add1, z_addn, z_addm, z_mul, z_cl, z_n9, z_n9s, z_n90, z_ne9, z_ne9s, z_lt_t, z_lt_f, z_le_t, z_le_f, z_eq_t, z_eq_f, z_pus, z_pun, z_row, or_self, or_false, false_or, true_or, or_true, and_self, and_false, false_and, not_true_eq_false, not_false_eq_true, false_implies, true_implies, implies_true, ne_eq, lm_row_s, lm_row_row, lm_up_row, rc_s, Classical.not_not, Nat.add_sub_cancel, i10, z_on, ml_186, rt_186, cb_186_23, cb_186_107, cb_186_122, cb_186_123, cb_186_128, cb_186_151, cb_186_176, cb_186_197, cb_186_203, cb_186_206, cb_186_217, cb_186_220, cb_186_226, rc_mod hS, sh_96 hS, sh_147 hS, sh_148 hS, sh_151 hS, sh_152 hS, rf_96_76 hR, rf_96_77 hR, rf_96_78 hR, rf_96_81 hR, rf_96_83 hR, rf_96_96 hR, hst1, hmt, h0, h147', hI1]
          exact fin (t :: T) I1 _ _ _ _ (by omega) (fun _ _ => rfl) hst' (dfc_done hc (fun c hc => by
            rcases hc with ⟨z, -⟩ | ⟨z, -⟩ <;> omega)) (fun _ h => h)
      · have hz := zmk_same (n := n) (mk := mk) (t := t) (x := 2) h0 (by decide)
        simp (disch := omega) only [lk_v, lk_n, lm_isI_i, lm_isL_l, lm_isR_r, lm_vi_i, lw_iconst, lwx_istore_0, lwx_istore_1, lwx_istore_2, lwx_istore_3, lwx_iload_0, lwx_iload_1, lwx_iload_2, lwx_iload_3, lwx_aload_0, lwx_aload_1, lwx_aload_2, lwx_aload_3, lw_getI, lw_getL, lw_getR, lw_getZ, lw_icmp_ge, lw_iastore, lwx_iinc, lw_goto, lwx_invokevirtual_2, lw_iaload, lw_if_ne, lw_if_le, lw_isub, lw_istore, lwx_iload, lw_icmp_le, lw_icmp_ne, lw_iret, List.getD_cons_zero, List.getD_cons_succ, lm_set1, lm_set2, lm_cut, List.getElem?_cons_zero, List.getElem?_cons_succ, List.set_cons_zero, List.set_cons_succ, List.length_cons, List.length_nil, List.map_cons, List.map_nil, List.sum_cons, List.sum_nil, Value.category, Nat.reduceAdd, Nat.reduceDiv, Nat.reduceMod, Nat.reduceLT, Nat.reduceLeDiff, Nat.reduceMul, Int.toNat_natCast, Int.reduceToNat, true_and, and_true, lm_rok_1, lm_rok_20, lm_rok_21, lm_rok_0, lm_args, lm_ent, List.nil_append, List.cons_append, List.replicate, Nat.reduceSub, if_false, if_true, reduceCtorEq, Nat.reduceEqDiff, Bool.or_true, Bool.true_or, Bool.or_false, Bool.false_or, Bool.and_true, Bool.true_and, BEq.rfl, beq_self_eq_true, kb_m94, kb_m92, kb_m63, kb_m46, kb_m45, kb_m42, kb_m41, kb_m33, kb_m10, kb_m9, kb_m4, kb_m3, kb_m2, zkb_6, zkb_7, zkb_8, zkb_9, zkb_10, zkb_11, zkb_12, zkb_13, zkb_14, zkb_15, zkb_16, zkb_17, zkb_18, zkb_19, zkb_20, zkb_21, zkb_22, zkb_23, zkb_24, zkb_26, zkb_32, zkb_33, zkb_34, zkb_38, zkb_40, zkb_41, zkb_43, zkb_44, zkb_45, zkb_46, zkb_48, zkb_57, zkb_58, zkb_59, zkb_60, zkb_61, zkb_62, zkb_64, zkb_80, zkb_81, zkb_91, zkb_92, zkb_93, zkb_97, zkb_100, zkb_104, zkb_122, zkb_126, ki_m8, ki_m2, ki_m1, zki_0, zki_1, zki_2, zki_3, zki_4, zki_5, zks_160, zks_168, zks_240, zks_242, zks_255, zks_264, zks_300, zks_320, zks_500, zks_600, zks_625, zks_626, zks_1200, zks_1256, zks_2000, zks_2504, zks_3040, zks_4000, zks_6000, zks_12000, kl_0, kl_1, z_lt, z_le, z_eq, z_eq0, z_eq1, z_lt0, z_le0, z_0lt, z_0le, z_add, z_sub, z_add1, z_addn, z_addm, z_mul, z_cl, z_n9, z_n9s, z_n90, z_ne9, z_ne9s, z_lt_t, z_lt_f, z_le_t, z_le_f, z_eq_t, z_eq_f, z_pus, z_pun, z_row, or_self, or_false, false_or, true_or, or_true, and_self, and_false, false_and, not_true_eq_false, not_false_eq_true, false_implies, true_implies, implies_true, ne_eq, lm_row_s, lm_row_row, lm_up_row, rc_s, Classical.not_not, Nat.add_sub_cancel, i10, z_on, ml_186, rt_186, cb_186_23, cb_186_107, cb_186_122, cb_186_123, cb_186_151, cb_186_158, cb_186_176, cb_186_197, cb_186_203, cb_186_206, cb_186_217, cb_186_226, rc_mod hS, sh_96 hS, sh_147 hS, sh_151 hS, sh_152 hS, rf_96_81 hR, rf_96_83 hR, rf_96_96 hR, hst1, hmt]
        refine ih T (fun j => if j = t then 2 else mk j) _ _ _ _ _ (by omega) (by omega) (fun o h1 h2 => by rw [lm_row_n h2]; exact hfr o h1 h2) (fun j hj => ?_) (fun j hj => ?_) (by rw [lm_row_n (by decide)]; exact hst.2) (dfs_pop hd (by omega)) (fun I' mk' w4 w5 w6 w7 a1 a2 a3 a4 a5 a6 => hQ1 I' mk' w4 w5 w6 w7 a1 a2 a3 a4 (fun j hj => a5 j ?_) (fun x hx => ?_))
        · rw [lm_row_s]
          show (if j = t then nI 2 else I 152 j) = nI (if j = t then 2 else mk j)
          by_cases q : j = t
          · rw [if_pos q, if_pos q]
          · rw [if_neg q, if_neg q]; exact hmk j hj
        · show (if j = t then 2 else mk j) ≤ 2
          have := hmk2 j hj
          split <;> omega
        · show (if j = t then 2 else mk j) = 2
          by_cases q : j = t
          · rw [if_pos q]
          · rw [if_neg q]; exact hj
        · rcases List.mem_cons.mp hx with rfl | hx
          · exact a5 x (if_pos rfl)
          · exact a6 x hx
/-- isEndless: over all links -/
theorem l_186o (hS : lp_shape S) (hR : lp_refs R) (I0 : lm_I) (g0 : mr I0 n P So Le Ri) (hf : fo P n dp u) (hu : u ≤ 6000) (hn : n ≤ 5999) (hg : gok n So Le Ri)
    (hQ0 : ∀ I', (∀ o, o ≠ 151 → o ≠ 152 → I' o = I0 o) → (∀ val, ¬ Sol n P So Le Ri val) → Q (some (.int (nI 1))) (S, I', L, R))
    (hQ1 : ∀ I', (∀ o, o ≠ 151 → o ≠ 152 → I' o = I0 o) → acy n (rt P) So Le Ri → Q (some (.int (nI 0))) (S, I', L, R)) :
    ∀ (m k : Nat) (mk : Nat → Nat) (I : lm_I) (v2 v3 v4 v5 v6 v7 : Value), k + m = n → (∀ o, o ≠ 151 → o ≠ 152 → I o = I0 o) → (∀ j, j < n → I 152 j = nI (mk j)) → (∀ j, j < n → mk j ≤ 2) → dfs n (rt P) So Le Ri (fun x a => ∀ val, Sol n P So Le Ri val → SizeOf.sizeOf (val x) < SizeOf.sizeOf (val a)) mk [] → (∀ j, j < k → mk (rt P j) = 2) →
    lw (e + 1) 186 (lm_J 186 25) [.ref 96, .int (nI k), v2, v3, v4, v5, v6, v7] [] (S, I, L, R) Q := by
  intro m
  induction m with
  | zero =>
    intro k mk I v2 v3 v4 v5 v6 v7 hm hfr hmk hmk2 hd hk
    have h75 := (mr_fr g0 hfr).1
    have e1 : k = n := by omega
    subst e1
    rw [cb_186_25]
    simp (disch := omega) only [lk_v, lk_n, lm_isI_i, lm_isL_l, lm_isR_r, lm_vi_i, lw_iconst, lwx_istore_0, lwx_istore_1, lwx_istore_2, lwx_istore_3, lwx_iload_0, lwx_iload_1, lwx_iload_2, lwx_iload_3, lwx_aload_0, lwx_aload_1, lwx_aload_2, lwx_aload_3, lw_getI, lw_getL, lw_getR, lw_getZ, lw_icmp_ge, lw_iastore, lwx_iinc, lw_goto, lwx_invokevirtual_2, lw_iaload, lw_if_ne, lw_if_le, lw_isub, lw_istore, lwx_iload, lw_icmp_le, lw_icmp_ne, lw_iret, List.getD_cons_zero, List.getD_cons_succ, lm_set1, lm_set2, lm_cut, List.getElem?_cons_zero, List.getElem?_cons_succ, List.set_cons_zero, List.set_cons_succ, List.length_cons, List.length_nil, List.map_cons, List.map_nil, List.sum_cons, List.sum_nil, Value.category, Nat.reduceAdd, Nat.reduceDiv, Nat.reduceMod, Nat.reduceLT, Nat.reduceLeDiff, Nat.reduceMul, Int.toNat_natCast, Int.reduceToNat, true_and, and_true, lm_rok_1, lm_rok_20, lm_rok_21, lm_rok_0, lm_args, lm_ent, List.nil_append, List.cons_append, List.replicate, Nat.reduceSub, if_false, if_true, reduceCtorEq, Nat.reduceEqDiff, Bool.or_true, Bool.true_or, Bool.or_false, Bool.false_or, Bool.and_true, Bool.true_and, BEq.rfl, beq_self_eq_true, kb_m94, kb_m92, kb_m63, kb_m46, kb_m45, kb_m42, kb_m41, kb_m33, kb_m10, kb_m9, kb_m4, kb_m3, kb_m2, zkb_6, zkb_7, zkb_8, zkb_9, zkb_10, zkb_11, zkb_12, zkb_13, zkb_14, zkb_15, zkb_16, zkb_17, zkb_18, zkb_19, zkb_20, zkb_21, zkb_22, zkb_23, zkb_24, zkb_26, zkb_32, zkb_33, zkb_34, zkb_38, zkb_40, zkb_41, zkb_43, zkb_44, zkb_45, zkb_46, zkb_48, zkb_57, zkb_58, zkb_59, zkb_60, zkb_61, zkb_62, zkb_64, zkb_80, zkb_81, zkb_91, zkb_92, zkb_93, zkb_97, zkb_100, zkb_104, zkb_122, zkb_126, ki_m8, ki_m2, ki_m1, zki_0, zki_1, zki_2, zki_3, zki_4, zki_5, zks_160, zks_168, zks_240, zks_242, zks_255, zks_264, zks_300, zks_320, zks_500, zks_600, zks_625, zks_626, zks_1200, zks_1256, zks_2000, zks_2504, zks_3040, zks_4000, zks_6000, zks_12000, kl_0, kl_1, z_lt, z_le, z_eq, z_eq0, z_eq1, z_lt0, z_le0, z_0lt, z_0le, z_add, z_sub, z_add1, z_addn, z_addm, z_mul, z_cl, z_n9, z_n9s, z_n90, z_ne9, z_ne9s, z_lt_t, z_lt_f, z_le_t, z_le_f, z_eq_t, z_eq_f, z_pus, z_pun, z_row, or_self, or_false, false_or, true_or, or_true, and_self, and_false, false_and, not_true_eq_false, not_false_eq_true, false_implies, true_implies, implies_true, ne_eq, lm_row_s, lm_row_row, lm_up_row, rc_s, Classical.not_not, Nat.add_sub_cancel, i10, z_on, ml_186, rt_186, cb_186_23, cb_186_107, cb_186_122, cb_186_123, cb_186_151, cb_186_158, cb_186_176, cb_186_197, cb_186_203, cb_186_206, cb_186_217, cb_186_220, cb_186_226, rc_mod hS, sh_96 hS, rf_96_96 hR, h75]
    exact hQ1 I hfr (dfs_acy hd (fun a ha har => by rw [← har]; exact hk a ha))
  | succ m ih =>
    intro k mk I v2 v3 v4 v5 v6 v7 hm hfr hmk hmk2 hd hk
    have hkn : k < n := by omega
    have g := mr_fr g0 hfr
    have h75 := g.1
    have hend : ∀ {Q'}, lc (e + 1) 184 [.ref 96, .int (nI k)] (S, I, L, R) Q' = Q' (some (.int (nI (rt P k)))) (S, I, L, R) := fun {Q'} => c_184 hS hR g hf hu hkn
    have hr : rt P k < n := rt_lt hf (by omega) hkn
    have hrr : rt P (rt P k) = rt P k := rt_self (rt_root hf (by omega) hkn)
    have hm1 := hmk _ hr
    have hm2 := hmk2 _ hr
    have hno : mk (rt P k) ≠ 1 := fun z => by
      obtain ⟨A, B, e1, -⟩ := hd.2.2 _ hr z
      exact absurd e1 (by simp)
    rw [cb_186_25]
    by_cases h0 : mk (rt P k) = 0
    · simp (disch := omega) only [lk_v, lk_n, lm_isI_i, lm_isL_l, lm_isR_r, lm_vi_i, lw_iconst, lwx_istore_0, lwx_istore_1, lwx_istore_2, lwx_istore_3, lwx_iload_0, lwx_iload_1, lwx_iload_2, lwx_iload_3, lwx_aload_0, lwx_aload_1, lwx_aload_2, lwx_aload_3, lw_getI, lw_getL, lw_getR, lw_getZ, lw_icmp_ge, lw_iastore, lwx_iinc, lw_goto, lwx_invokevirtual_2, lw_iaload, lw_if_ne, lw_if_le, lw_isub, lw_istore, lwx_iload, lw_icmp_le, lw_icmp_ne, lw_iret, List.getD_cons_zero, List.getD_cons_succ, lm_set1, lm_set2, lm_cut, List.getElem?_cons_zero, List.getElem?_cons_succ, List.set_cons_zero, List.set_cons_succ, List.length_cons, List.length_nil, List.map_cons, List.map_nil, List.sum_cons, List.sum_nil, Value.category, Nat.reduceAdd, Nat.reduceDiv, Nat.reduceMod, Nat.reduceLT, Nat.reduceLeDiff, Nat.reduceMul, Int.toNat_natCast, Int.reduceToNat, true_and, and_true, lm_rok_1, lm_rok_20, lm_rok_21, lm_rok_0, lm_args, lm_ent, List.nil_append, List.cons_append, List.replicate, Nat.reduceSub, if_false, if_true, reduceCtorEq, Nat.reduceEqDiff, Bool.or_true, Bool.true_or, Bool.or_false, Bool.false_or, Bool.and_true, Bool.true_and, BEq.rfl, beq_self_eq_true, kb_m94, kb_m92, kb_m63, kb_m46, kb_m45, kb_m42, kb_m41, kb_m33, kb_m10, kb_m9, kb_m4, kb_m3, kb_m2, zkb_6, zkb_7, zkb_8, zkb_9, zkb_10, zkb_11, zkb_12, zkb_13, zkb_14, zkb_15, zkb_16, zkb_17, zkb_18, zkb_19, zkb_20, zkb_21, zkb_22, zkb_23, zkb_24, zkb_26, zkb_32, zkb_33, zkb_34, zkb_38, zkb_40, zkb_41, zkb_43, zkb_44, zkb_45, zkb_46, zkb_48, zkb_57, zkb_58, zkb_59, zkb_60, zkb_61, zkb_62, zkb_64, zkb_80, zkb_81, zkb_91, zkb_92, zkb_93, zkb_97, zkb_100, zkb_104, zkb_122, zkb_126, ki_m8, ki_m2, ki_m1, zki_0, zki_1, zki_2, zki_3, zki_4, zki_5, zks_160, zks_168, zks_240, zks_242, zks_255, zks_264, zks_300, zks_320, zks_500, zks_600, zks_625, zks_626, zks_1200, zks_1256, zks_2000, zks_2504, zks_3040, zks_4000, zks_6000, zks_12000, kl_0, kl_1, z_lt, z_le, z_eq, z_eq0, z_eq1, z_lt0, z_le0, z_0lt, z_0le, z_add, z_sub, z_add1, z_addn, z_addm, z_mul, z_cl, z_n9, z_n9s, z_n90, z_ne9, z_ne9s, z_lt_t, z_lt_f, z_le_t, z_le_f, z_eq_t, z_eq_f, z_pus, z_pun, z_row, or_self, or_false, false_or, true_or, or_true, and_self, and_false, false_and, not_true_eq_false, not_false_eq_true, false_implies, true_implies, implies_true, ne_eq, lm_row_s, lm_row_row, lm_up_row, rc_s, Classical.not_not, Nat.add_sub_cancel, i10, z_on, ml_186, rt_186, cb_186_23, cb_186_107, cb_186_122, cb_186_123, cb_186_151, cb_186_158, cb_186_176, cb_186_197, cb_186_203, cb_186_206, cb_186_217, cb_186_220, cb_186_226, rc_mod hS, sh_96 hS, sh_151 hS, sh_152 hS, rf_96_81 hR, rf_96_83 hR, rf_96_96 hR, h75, hend, hm1, h0]
      refine l_186 (fr := nI (rt P k)) (k := k) hS hR I0 g0 hf hu hn hg hQ0 (3 * zmk mk n + 1) [rt P k] mk _ v4 v5 v6 v7 (Nat.le_refl _) ?_ (fun o q1 q2 => by rw [lm_row_n q1]; exact hfr o q1 q2) (fun j hj => by rw [lm_row_n (by decide)]; exact hmk j hj) hmk2 ⟨?_, trivial⟩ ⟨fun x hx => ?_, hd.2.1, fun a ha hma => ?_⟩ (fun I' mk' w4 w5 w6 w7 a1 a2 a3 a4 a5 a6 => ?_)
      · have := rc_le (P := fun j => if mk j = 0 then j else j + 1) n
        unfold zmk
        simp only [List.length_cons, List.length_nil]
        omega
      · rw [lm_row_s]; exact pk_us
      · rw [List.mem_singleton.mp hx]; exact ⟨hr, hrr⟩
      · obtain ⟨A, B, e1, -⟩ := hd.2.2 a ha hma
        exact absurd e1 (by simp)
      · rw [cb_186_220]
        simp (disch := omega) only [lk_v, lk_n, lm_isI_i, lm_isL_l, lm_isR_r, lm_vi_i, lw_iconst, lwx_istore_0, lwx_istore_1, lwx_istore_2, lwx_istore_3, lwx_iload_0, lwx_iload_1, lwx_iload_2, lwx_iload_3, lwx_aload_0, lwx_aload_1, lwx_aload_2, lwx_aload_3, lw_getI, lw_getL, lw_getR, lw_getZ, lw_icmp_ge, lw_iastore, lwx_iinc, lw_goto, lwx_invokevirtual_2, lw_iaload, lw_if_ne, lw_if_le, lw_isub, lw_istore, lwx_iload, lw_icmp_le, lw_icmp_ne, lw_iret, List.getD_cons_zero, List.getD_cons_succ, lm_set1, lm_set2, lm_cut, List.getElem?_cons_zero, List.getElem?_cons_succ, List.set_cons_zero, List.set_cons_succ, List.length_cons, List.length_nil, List.map_cons, List.map_nil, List.sum_cons, List.sum_nil, Value.category, Nat.reduceAdd, Nat.reduceDiv, Nat.reduceMod, Nat.reduceLT, Nat.reduceLeDiff, Nat.reduceMul, Int.toNat_natCast, Int.reduceToNat, true_and, and_true, lm_rok_1, lm_rok_20, lm_rok_21, lm_rok_0, lm_args, lm_ent, List.nil_append, List.cons_append, List.replicate, Nat.reduceSub, if_false, if_true, reduceCtorEq, Nat.reduceEqDiff, Bool.or_true, Bool.true_or, Bool.or_false, Bool.false_or, Bool.and_true, Bool.true_and, BEq.rfl, beq_self_eq_true, kb_m94, kb_m92, kb_m63, kb_m46, kb_m45, kb_m42, kb_m41, kb_m33, kb_m10, kb_m9, kb_m4, kb_m3, kb_m2, zkb_6, zkb_7, zkb_8, zkb_9, zkb_10, zkb_11, zkb_12, zkb_13, zkb_14, zkb_15, zkb_16, zkb_17, zkb_18, zkb_19, zkb_20, zkb_21, zkb_22, zkb_23, zkb_24, zkb_26, zkb_32, zkb_33, zkb_34, zkb_38, zkb_40, zkb_41, zkb_43, zkb_44, zkb_45, zkb_46, zkb_48, zkb_57, zkb_58, zkb_59, zkb_60, zkb_61, zkb_62, zkb_64, zkb_80, zkb_81, zkb_91, zkb_92, zkb_93, zkb_97, zkb_100, zkb_104, zkb_122, zkb_126, ki_m8, ki_m2, ki_m1, zki_0, zki_1, zki_2, zki_3, zki_4, zki_5, zks_160, zks_168, zks_240, zks_242, zks_255, zks_264, zks_300, zks_320, zks_500, zks_600, zks_625, zks_626, zks_1200, zks_1256, zks_2000, zks_2504, zks_3040, zks_4000, zks_6000, zks_12000, kl_0, kl_1, z_lt, z_le, z_eq, z_eq0, z_eq1, z_lt0, z_le0, z_0lt, z_0le, z_add, z_sub, z_add1, z_addn, z_addm, z_mul, z_cl, z_n9, z_n9s, z_n90, z_ne9, z_ne9s, z_lt_t, z_lt_f, z_le_t, z_le_f, z_eq_t, z_eq_f, z_pus, z_pun, z_row, or_self, or_false, false_or, true_or, or_true, and_self, and_false, false_and, not_true_eq_false, not_false_eq_true, false_implies, true_implies, implies_true, ne_eq, lm_row_s, lm_row_row, lm_up_row, rc_s, Classical.not_not, Nat.add_sub_cancel, i10, z_on, ml_186, rt_186, cb_186_23, cb_186_107, cb_186_122, cb_186_123, cb_186_151, cb_186_158, cb_186_176, cb_186_197, cb_186_203, cb_186_206, cb_186_217, cb_186_220, cb_186_226]
        refine ih (k + 1) mk' I' _ _ _ _ _ _ (by omega) a1 a2 a3 a4 (fun j hj => ?_)
        by_cases q : j = k
        · rw [q]; exact a6 _ List.mem_cons_self
        · exact a5 _ (hk j (by omega))
    · simp (disch := omega) only [lk_v, lk_n, lm_isI_i, lm_isL_l, lm_isR_r, lm_vi_i, lw_iconst, lwx_istore_0, lwx_istore_1, lwx_istore_2, lwx_istore_3, lwx_iload_0, lwx_iload_1, lwx_iload_2, lwx_iload_3, lwx_aload_0, lwx_aload_1, lwx_aload_2, lwx_aload_3, lw_getI, lw_getL, lw_getR, lw_getZ, lw_icmp_ge, lw_iastore, lwx_iinc, lw_goto, lwx_invokevirtual_2, lw_iaload, lw_if_ne, lw_if_le, lw_isub, lw_istore, lwx_iload, lw_icmp_le, lw_icmp_ne, lw_iret, List.getD_cons_zero, List.getD_cons_succ, lm_set1, lm_set2, lm_cut, List.getElem?_cons_zero, List.getElem?_cons_succ, List.set_cons_zero, List.set_cons_succ, List.length_cons, List.length_nil, List.map_cons, List.map_nil, List.sum_cons, List.sum_nil, Value.category, Nat.reduceAdd, Nat.reduceDiv, Nat.reduceMod, Nat.reduceLT, Nat.reduceLeDiff, Nat.reduceMul, Int.toNat_natCast, Int.reduceToNat, true_and, and_true, lm_rok_1, lm_rok_20, lm_rok_21, lm_rok_0, lm_args, lm_ent, List.nil_append, List.cons_append, List.replicate, Nat.reduceSub, if_false, if_true, reduceCtorEq, Nat.reduceEqDiff, Bool.or_true, Bool.true_or, Bool.or_false, Bool.false_or, Bool.and_true, Bool.true_and, BEq.rfl, beq_self_eq_true, kb_m94, kb_m92, kb_m63, kb_m46, kb_m45, kb_m42, kb_m41, kb_m33, kb_m10, kb_m9, kb_m4, kb_m3, kb_m2, zkb_6, zkb_7, zkb_8, zkb_9, zkb_10, zkb_11, zkb_12, zkb_13, zkb_14, zkb_15, zkb_16, zkb_17, zkb_18, zkb_19, zkb_20, zkb_21, zkb_22, zkb_23, zkb_24, zkb_26, zkb_32, zkb_33, zkb_34, zkb_38, zkb_40, zkb_41, zkb_43, zkb_44, zkb_45, zkb_46, zkb_48, zkb_57, zkb_58, zkb_59, zkb_60, zkb_61, zkb_62, zkb_64, zkb_80, zkb_81, zkb_91, zkb_92, zkb_93, zkb_97, zkb_100, zkb_104, zkb_122, zkb_126, ki_m8, ki_m2, ki_m1, zki_0, zki_1, zki_2, zki_3, zki_4, zki_5, zks_160, zks_168, zks_240, zks_242, zks_255, zks_264, zks_300, zks_320, zks_500, zks_600, zks_625, zks_626, zks_1200, zks_1256, zks_2000, zks_2504, zks_3040, zks_4000, zks_6000, zks_12000, kl_0, kl_1, z_lt, z_le, z_eq, z_eq0, z_eq1, z_lt0, z_le0, z_0lt, z_0le, z_add, z_sub, z_add1, z_addn, z_addm, z_mul, z_cl, z_n9, z_n9s, z_n90, z_ne9, z_ne9s, z_lt_t, z_lt_f, z_le_t, z_le_f, z_eq_t, z_eq_f, z_pus, z_pun, z_row, or_self, or_false, false_or, true_or, or_true, and_self, and_false, false_and, not_true_eq_false, not_false_eq_true, false_implies, true_implies, implies_true, ne_eq, lm_row_s, lm_row_row, lm_up_row, rc_s, Classical.not_not, Nat.add_sub_cancel, i10, z_on, ml_186, rt_186, cb_186_23, cb_186_107, cb_186_122, cb_186_123, cb_186_151, cb_186_158, cb_186_176, cb_186_197, cb_186_203, cb_186_206, cb_186_217, cb_186_220, cb_186_226, rc_mod hS, sh_96 hS, sh_151 hS, sh_152 hS, rf_96_81 hR, rf_96_83 hR, rf_96_96 hR, h75, hend, hm1]
      refine ih (k + 1) mk I _ _ _ _ _ _ (by omega) hfr hmk hmk2 hd (fun j hj => ?_)
      by_cases q : j = k
      · rw [q]; omega
      · exact hk j (by omega)
/-- isEndless: no marks at first -/
theorem l_186z (hS : lp_shape S) (hR : lp_refs R) (hn : n ≤ 6000) {v2 v3 v4 v5 v6 v7 : Value} : ∀ (m k : Nat) (I : lm_I), k + m = n → I 96 75 = nI n → (∀ j, j < k → I 152 j = nI 0) →
    (∀ I' : lm_I, (∀ o, o ≠ 152 → I' o = I o) → (∀ j, j < n → I' 152 j = nI 0) → lw e 186 (lm_J 186 25) [.ref 96, .int (nI 0), v2, v3, v4, v5, v6, v7] [] (S, I', L, R) Q) →
    lw e 186 (lm_J 186 2) [.ref 96, .int (nI k), v2, v3, v4, v5, v6, v7] [] (S, I, L, R) Q := by
  intro m
  induction m with
  | zero =>
    intro k I hm h75 hz hQ
    have e1 : k = n := by omega
    subst e1
    rw [cb_186_2]
    simp (disch := omega) only [lk_v, lk_n, lm_isI_i, lm_isL_l, lm_isR_r, lm_vi_i, lw_iconst, lwx_istore_0, lwx_istore_1, lwx_istore_2, lwx_istore_3, lwx_iload_0, lwx_iload_1, lwx_iload_2, lwx_iload_3, lwx_aload_0, lwx_aload_1, lwx_aload_2, lwx_aload_3, lw_getI, lw_getL, lw_getR, lw_getZ, lw_icmp_ge, lw_iastore, lwx_iinc, lw_goto, lwx_invokevirtual_2, lw_iaload, lw_if_ne, lw_if_le, lw_isub, lw_istore, lwx_iload, lw_icmp_le, lw_icmp_ne, lw_iret, List.getD_cons_zero, List.getD_cons_succ, lm_set1, lm_set2, lm_cut, List.getElem?_cons_zero, List.getElem?_cons_succ, List.set_cons_zero, List.set_cons_succ, List.length_cons, List.length_nil, List.map_cons, List.map_nil, List.sum_cons, List.sum_nil, Value.category, Nat.reduceAdd, Nat.reduceDiv, Nat.reduceMod, Nat.reduceLT, Nat.reduceLeDiff, Nat.reduceMul, Int.toNat_natCast, Int.reduceToNat, true_and, and_true, lm_rok_1, lm_rok_20, lm_rok_21, lm_rok_0, lm_args, lm_ent, List.nil_append, List.cons_append, List.replicate, Nat.reduceSub, if_false, if_true, reduceCtorEq, Nat.reduceEqDiff, Bool.or_true, Bool.true_or, Bool.or_false, Bool.false_or, Bool.and_true, Bool.true_and, BEq.rfl, beq_self_eq_true, kb_m94, kb_m92, kb_m63, kb_m46, kb_m45, kb_m42, kb_m41, kb_m33, kb_m10, kb_m9, kb_m4, kb_m3, kb_m2, zkb_6, zkb_7, zkb_8, zkb_9, zkb_10, zkb_11, zkb_12, zkb_13, zkb_14, zkb_15, zkb_16, zkb_17, zkb_18, zkb_19, zkb_20, zkb_21, zkb_22, zkb_23, zkb_24, zkb_26, zkb_32, zkb_33, zkb_34, zkb_38, zkb_40, zkb_41, zkb_43, zkb_44, zkb_45, zkb_46, zkb_48, zkb_57, zkb_58, zkb_59, zkb_60, zkb_61, zkb_62, zkb_64, zkb_80, zkb_81, zkb_91, zkb_92, zkb_93, zkb_97, zkb_100, zkb_104, zkb_122, zkb_126, ki_m8, ki_m2, ki_m1, zki_0, zki_1, zki_2, zki_3, zki_4, zki_5, zks_160, zks_168, zks_240, zks_242, zks_255, zks_264, zks_300, zks_320, zks_500, zks_600, zks_625, zks_626, zks_1200, zks_1256, zks_2000, zks_2504, zks_3040, zks_4000, zks_6000, zks_12000, kl_0, kl_1, z_lt, z_le, z_eq, z_eq0, z_eq1, z_lt0, z_le0, z_0lt, z_0le, z_add, z_sub, z_add1, z_addn, z_addm, z_mul, z_cl, z_n9, z_n9s, z_n90, z_ne9, z_ne9s, z_lt_t, z_lt_f, z_le_t, z_le_f, z_eq_t, z_eq_f, z_pus, z_pun, z_row, or_self, or_false, false_or, true_or, or_true, and_self, and_false, false_and, not_true_eq_false, not_false_eq_true, false_implies, true_implies, implies_true, ne_eq, lm_row_s, lm_row_row, lm_up_row, rc_s, Classical.not_not, Nat.add_sub_cancel, i10, z_on, ml_186, rt_186, cb_186_23, cb_186_107, cb_186_122, cb_186_123, cb_186_151, cb_186_158, cb_186_176, cb_186_197, cb_186_203, cb_186_206, cb_186_217, cb_186_220, cb_186_226, rc_mod hS, sh_96 hS, rf_96_96 hR, h75]
    exact hQ I (fun _ _ => rfl) hz
  | succ m ih =>
    intro k I hm h75 hz hQ
    rw [cb_186_2]
    simp (disch := omega) only [lk_v, lk_n, lm_isI_i, lm_isL_l, lm_isR_r, lm_vi_i, lw_iconst, lwx_istore_0, lwx_istore_1, lwx_istore_2, lwx_istore_3, lwx_iload_0, lwx_iload_1, lwx_iload_2, lwx_iload_3, lwx_aload_0, lwx_aload_1, lwx_aload_2, lwx_aload_3, lw_getI, lw_getL, lw_getR, lw_getZ, lw_icmp_ge, lw_iastore, lwx_iinc, lw_goto, lwx_invokevirtual_2, lw_iaload, lw_if_ne, lw_if_le, lw_isub, lw_istore, lwx_iload, lw_icmp_le, lw_icmp_ne, lw_iret, List.getD_cons_zero, List.getD_cons_succ, lm_set1, lm_set2, lm_cut, List.getElem?_cons_zero, List.getElem?_cons_succ, List.set_cons_zero, List.set_cons_succ, List.length_cons, List.length_nil, List.map_cons, List.map_nil, List.sum_cons, List.sum_nil, Value.category, Nat.reduceAdd, Nat.reduceDiv, Nat.reduceMod, Nat.reduceLT, Nat.reduceLeDiff, Nat.reduceMul, Int.toNat_natCast, Int.reduceToNat, true_and, and_true, lm_rok_1, lm_rok_20, lm_rok_21, lm_rok_0, lm_args, lm_ent, List.nil_append, List.cons_append, List.replicate, Nat.reduceSub, if_false, if_true, reduceCtorEq, Nat.reduceEqDiff, Bool.or_true, Bool.true_or, Bool.or_false, Bool.false_or, Bool.and_true, Bool.true_and, BEq.rfl, beq_self_eq_true, kb_m94, kb_m92, kb_m63, kb_m46, kb_m45, kb_m42, kb_m41, kb_m33, kb_m10, kb_m9, kb_m4, kb_m3, kb_m2, zkb_6, zkb_7, zkb_8, zkb_9, zkb_10, zkb_11, zkb_12, zkb_13, zkb_14, zkb_15, zkb_16, zkb_17, zkb_18, zkb_19, zkb_20, zkb_21, zkb_22, zkb_23, zkb_24, zkb_26, zkb_32, zkb_33, zkb_34, zkb_38, zkb_40, zkb_41, zkb_43, zkb_44, zkb_45, zkb_46, zkb_48, zkb_57, zkb_58, zkb_59, zkb_60, zkb_61, zkb_62, zkb_64, zkb_80, zkb_81, zkb_91, zkb_92, zkb_93, zkb_97, zkb_100, zkb_104, zkb_122, zkb_126, ki_m8, ki_m2, ki_m1, zki_0, zki_1, zki_2, zki_3, zki_4, zki_5, zks_160, zks_168, zks_240, zks_242, zks_255, zks_264, zks_300, zks_320, zks_500, zks_600, zks_625, zks_626, zks_1200, zks_1256, zks_2000, zks_2504, zks_3040, zks_4000, zks_6000, zks_12000, kl_0, kl_1, z_lt, z_le, z_eq, z_eq0, z_eq1, z_lt0, z_le0, z_0lt, z_0le, z_add, z_sub, z_add1, z_addn, z_addm, z_mul, z_cl, z_n9, z_n9s, z_n90, z_ne9, z_ne9s, z_lt_t, z_lt_f, z_le_t, z_le_f, z_eq_t, z_eq_f, z_pus, z_pun, z_row, or_self, or_false, false_or, true_or, or_true, and_self, and_false, false_and, not_true_eq_false, not_false_eq_true, false_implies, true_implies, implies_true, ne_eq, lm_row_s, lm_row_row, lm_up_row, rc_s, Classical.not_not, Nat.add_sub_cancel, i10, z_on, ml_186, rt_186, cb_186_23, cb_186_107, cb_186_122, cb_186_123, cb_186_151, cb_186_158, cb_186_176, cb_186_197, cb_186_203, cb_186_206, cb_186_217, cb_186_220, cb_186_226, rc_mod hS, sh_96 hS, sh_152 hS, rf_96_83 hR, rf_96_96 hR, h75]
    refine ih (k + 1) _ (by omega) (by rw [lm_row_n (by decide)]; exact h75) (fun j hj => ?_) (fun I' a b => hQ I' (fun o ho => by rw [a o ho, lm_row_n ho]) b)
    rw [lm_row_s]
    by_cases q : j = k
    · rw [q, pk_us]
    · rw [pk_un q]; exact hz j (by omega)
/-- isEndless -/
theorem c_186 (hS : lp_shape S) (hR : lp_refs R) (g : mg I n P So Le Ri dp u) (hn : n ≤ 5999)
    (hQ0 : ∀ I', (∀ o, o ≠ 151 → o ≠ 152 → I' o = I o) → (∀ val, ¬ Sol n P So Le Ri val) → Q (some (.int (nI 1))) (S, I', L, R))
    (hQ1 : ∀ I', (∀ o, o ≠ 151 → o ≠ 152 → I' o = I o) → acy n (rt P) So Le Ri → Q (some (.int (nI 0))) (S, I', L, R)) :
    lc (e + 2) 186 [.ref 96] (S, I, L, R) Q := by
  have hu := mg_u g
  rw [lc_succ, cb_186]
  simp (disch := omega) only [lk_v, lk_n, lm_isI_i, lm_isL_l, lm_isR_r, lm_vi_i, lw_iconst, lwx_istore_0, lwx_istore_1, lwx_istore_2, lwx_istore_3, lwx_iload_0, lwx_iload_1, lwx_iload_2, lwx_iload_3, lwx_aload_0, lwx_aload_1, lwx_aload_2, lwx_aload_3, lw_getI, lw_getL, lw_getR, lw_getZ, lw_icmp_ge, lw_iastore, lwx_iinc, lw_goto, lwx_invokevirtual_2, lw_iaload, lw_if_ne, lw_if_le, lw_isub, lw_istore, lwx_iload, lw_icmp_le, lw_icmp_ne, lw_iret, List.getD_cons_zero, List.getD_cons_succ, lm_set1, lm_set2, lm_cut, List.getElem?_cons_zero, List.getElem?_cons_succ, List.set_cons_zero, List.set_cons_succ, List.length_cons, List.length_nil, List.map_cons, List.map_nil, List.sum_cons, List.sum_nil, Value.category, Nat.reduceAdd, Nat.reduceDiv, Nat.reduceMod, Nat.reduceLT, Nat.reduceLeDiff, Nat.reduceMul, Int.toNat_natCast, Int.reduceToNat, true_and, and_true, lm_rok_1, lm_rok_20, lm_rok_21, lm_rok_0, lm_args, lm_ent, List.nil_append, List.cons_append, List.replicate, Nat.reduceSub, if_false, if_true, reduceCtorEq, Nat.reduceEqDiff, Bool.or_true, Bool.true_or, Bool.or_false, Bool.false_or, Bool.and_true, Bool.true_and, BEq.rfl, beq_self_eq_true, kb_m94, kb_m92, kb_m63, kb_m46, kb_m45, kb_m42, kb_m41, kb_m33, kb_m10, kb_m9, kb_m4, kb_m3, kb_m2, zkb_6, zkb_7, zkb_8, zkb_9, zkb_10, zkb_11, zkb_12, zkb_13, zkb_14, zkb_15, zkb_16, zkb_17, zkb_18, zkb_19, zkb_20, zkb_21, zkb_22, zkb_23, zkb_24, zkb_26, zkb_32, zkb_33, zkb_34, zkb_38, zkb_40, zkb_41, zkb_43, zkb_44, zkb_45, zkb_46, zkb_48, zkb_57, zkb_58, zkb_59, zkb_60, zkb_61, zkb_62, zkb_64, zkb_80, zkb_81, zkb_91, zkb_92, zkb_93, zkb_97, zkb_100, zkb_104, zkb_122, zkb_126, ki_m8, ki_m2, ki_m1, zki_0, zki_1, zki_2, zki_3, zki_4, zki_5, zks_160, zks_168, zks_240, zks_242, zks_255, zks_264, zks_300, zks_320, zks_500, zks_600, zks_625, zks_626, zks_1200, zks_1256, zks_2000, zks_2504, zks_3040, zks_4000, zks_6000, zks_12000, kl_0, kl_1, z_lt, z_le, z_eq, z_eq0, z_eq1, z_lt0, z_le0, z_0lt, z_0le, z_add, z_sub, z_add1, z_addn, z_addm, z_mul, z_cl, z_n9, z_n9s, z_n90, z_ne9, z_ne9s, z_lt_t, z_lt_f, z_le_t, z_le_f, z_eq_t, z_eq_f, z_pus, z_pun, z_row, or_self, or_false, false_or, true_or, or_true, and_self, and_false, false_and, not_true_eq_false, not_false_eq_true, false_implies, true_implies, implies_true, ne_eq, lm_row_s, lm_row_row, lm_up_row, rc_s, Classical.not_not, Nat.add_sub_cancel, i10, z_on, ml_186, rt_186, cb_186_23, cb_186_107, cb_186_122, cb_186_123, cb_186_151, cb_186_158, cb_186_176, cb_186_197, cb_186_203, cb_186_206, cb_186_217, cb_186_220, cb_186_226]
  refine l_186z (n := n) (Q := fun v M' => lm_rok 2 v = true ∧ Q v M') hS hR (by omega) n 0 I (by omega) g.1.1 (fun j hj => absurd hj (Nat.not_lt_zero _)) (fun I' a b => ?_)
  refine l_186o (Q := fun v M' => lm_rok 2 v = true ∧ Q v M') hS hR I g.1 g.2.2.1 hu.2 hn g.2.1 (fun I2 h1 h2 => ⟨rfl, hQ0 I2 h1 h2⟩) (fun I2 h1 h2 => ⟨rfl, hQ1 I2 h1 h2⟩) n 0 (fun _ => 0) I' _ _ _ _ _ _ (by omega) (fun o _ q => a o q) b (fun _ _ => by omega) ⟨fun x hx => (by cases hx), ⟨fun _ => 0, fun a c _ h => absurd (show (0 : Nat) = 2 from h) (by decide)⟩, fun a _ h => absurd (show (0 : Nat) = 1 from h) (by decide)⟩ (fun j hj => absurd hj (Nat.not_lt_zero _))
end MODEL
