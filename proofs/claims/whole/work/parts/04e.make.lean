/-! ===== the simulation: making cells; each instruction ===== -/
section LMSIM2
variable {p : Program} {l : Launch} {e : Env} {R : Room} {s : State} {m : MethodId} {args : Array Value} {below : List Frame} {meth : Method} {c : Code} {Q : State → Prop} {D : va_G} {cA : Nat → ClassId} {A : Nat → Prop} {ρ0 : Nat → Nat} {M0 : lm_M} {nL cn : Nat} {ini : Bool} {cc : ByteArray}
variable {J : Nat → lm_C} {i raw : Instr} {cd c' : lm_C} {pc pc' n : Nat} {ls ls' st st' : List Value} {M M' : lm_M}
theorem lm_w_native : Cond.native arraycopyName ∈ lw_tbl := List.mem_of_getElem? (i := 1088) (by decide +kernel)
theorem lm_w_static : Cond.static arraycopyName ∈ lw_tbl := List.mem_of_getElem? (i := 1087) (by decide +kernel)
theorem lm_w_system : Cond.initialized "java/lang/System" ∈ lw_tbl := List.mem_of_getElem? (i := 189) (by decide +kernel)
theorem lm_w_obj1 : Cond.instanceMethod Lib.objectInit ∈ lw_tbl := List.mem_of_getElem? (i := 196) (by decide +kernel)
theorem lm_w_obj2 : Cond.code Lib.objectInit ⟨#[0xb1]⟩ 1 none ∈ lw_tbl := List.mem_of_getElem? (i := 197) (by rfl)
theorem lm_w_int : Cond.arrayClass .int ∈ lw_tbl := List.mem_of_getElem? (i := 234) (by decide +kernel)
theorem lm_w_long : Cond.arrayClass .long ∈ lw_tbl := List.mem_of_getElem? (i := 235) (by decide +kernel)
theorem lm_w_bool : Cond.arrayClass .boolean ∈ lw_tbl := List.mem_of_getElem? (i := 236) (by decide +kernel)
theorem lm_w_byte : Cond.arrayClass .byte ∈ lw_tbl := List.mem_of_getElem? (i := 408) (by decide +kernel)
theorem lm_kinds : (List.range 11).all (fun k => (List.range (lm_cN k)).all (fun j => lm_kd (lm_cy k j) != 9)) = true := by decide +kernel
theorem lm_kind_of {k j : Nat} (h : k < 11) (hj : j < lm_cN k) : lm_kd (lm_cy k j) = 0 ∨ lm_kd (lm_cy k j) = 1 ∨ lm_kd (lm_cy k j) = 2 ∨ lm_kd (lm_cy k j) = 3 := by
  have h1 := List.all_eq_true.mp (List.all_eq_true.mp lm_kinds k (List.mem_range.mpr h)) j (List.mem_range.mpr hj)
  cases hty : lm_cy k j <;> simp_all [lm_kd]
/-- a new cell -/
theorem lm_wk_new (h : lm_wk M) (hb : M.1.1 + 1 ≤ lm_B) {t n2 x : Nat} (ht : t < 11 ∨ (21 ≤ t ∧ t ≤ 24)) : lm_wk ((M.1.1 + 1, x, lm_us M.1.2.2 M.1.1 (t, n2)), lm_z M.2.1 M.1.1 0, lm_z M.2.2.1 M.1.1 0, lm_z M.2.2.2 M.1.1 .null) := by
  obtain ⟨h1, h2, h3, h4, h5, h6, h7⟩ := h
  refine ⟨hb, fun o ho => ?_, fun o ho1 ho2 => ?_, fun o ho => ?_, fun o ho ht2 => ?_, fun o k => ?_, fun j hj => ?_⟩
  · have ho : o < M.1.1 + 1 := ho
    show (lm_us M.1.2.2 M.1.1 (t, n2) o).1 < 11 ∨ (21 ≤ (lm_us M.1.2.2 M.1.1 (t, n2) o).1 ∧ (lm_us M.1.2.2 M.1.1 (t, n2) o).1 ≤ 24)
    by_cases eo : o = M.1.1
    · rw [show lm_us M.1.2.2 M.1.1 (t, n2) o = (t, n2) from if_pos eo]
      exact ht
    · rw [show lm_us M.1.2.2 M.1.1 (t, n2) o = M.1.2.2 o from if_neg eo]
      exact h2 o (by omega)
  · have ho1 : M.1.1 + 1 ≤ o := ho1
    show (lm_us M.1.2.2 M.1.1 (t, n2) o).1 = 99
    unfold lm_us
    rw [if_neg (by omega)]
    exact h3 o (by omega) ho2
  · show 30 ≤ (lm_us M.1.2.2 M.1.1 (t, n2) o).1
    unfold lm_us
    rw [if_neg (by omega)]
    exact h4 o ho
  · have ht2 : (lm_us M.1.2.2 M.1.1 (t, n2) o).1 = 30 := ht2
    show _ ∧ (lm_us M.1.2.2 M.1.1 (t, n2) o).2 = 8
    unfold lm_us at ht2 ⊢
    rw [if_neg (by omega)] at ht2 ⊢
    exact h5 o ho ht2
  · show lm_okv (M.1.1 + 1) (lm_z M.2.2.2 M.1.1 .null o k)
    unfold lm_z
    split
    · trivial
    · exact lm_okv_mono (Nat.le_succ _) (h6 o k)
  · show lm_z M.2.1 M.1.1 0 (lm_B + 10) j = _
    rw [lm_z_ne (by omega)]
    exact h7 j hj
theorem lm_rel_new {n0 : Nat} {ρ : Nat → Nat} {H H1 : Heap} {locs : List Loc} {cs : Array Slot} {q t n2 x : Nat} {E : va_E} (h : lm_rel s D cA A ρ0 n0 nL ρ H locs cs ls M) (hb : M.1.1 + 1 ≤ lm_B) (ht : t < 11 ∨ (21 ≤ t ∧ t ≤ 24))
    (hE : ∀ ρ' : Nat → Nat, lm_cell cA ρ' ((M.1.1 + 1, x, lm_us M.1.2.2 M.1.1 (t, n2)), lm_z M.2.1 M.1.1 0, lm_z M.2.2.1 M.1.1 0, lm_z M.2.2.2 M.1.1 .null) M.1.1 = E) (hP : va_P D lm_cl (lm_ws cA ρ M ++ [(q, E)]) H1) (hD : va_D A (lm_ws cA ρ M ++ [(q, E)])) (hS : va_S A s.heap H1 locs) (hst : lm_oks M.1.1 st) :
    ∃ ρ' : Nat → Nat, lm_rel s D cA A ρ0 n0 nL ρ' H1 locs cs ls ((M.1.1 + 1, x, lm_us M.1.2.2 M.1.1 (t, n2)), lm_z M.2.1 M.1.1 0, lm_z M.2.2.1 M.1.1 0, lm_z M.2.2.2 M.1.1 .null) ∧ (Value.ref q :: st.map (lm_tv ρ)) = (Value.ref M.1.1 :: st).map (lm_tv ρ') ∧ lm_oks (M.1.1 + 1) (Value.ref M.1.1 :: st) := by
  obtain ⟨h1, h2, h3, h4, h5, h6, h7, h8⟩ := h
  have hext : ∀ i, (i < M.1.1 ∨ lm_B ≤ i) → (fun i => if i = M.1.1 then q else ρ i) i = ρ i := fun i hi => if_neg (by omega)
  have hws : lm_ws cA ρ M ++ [(q, E)] = lm_ws cA (fun i => if i = M.1.1 then q else ρ i) ((M.1.1 + 1, x, lm_us M.1.2.2 M.1.1 (t, n2)), lm_z M.2.1 M.1.1 0, lm_z M.2.2.1 M.1.1 0, lm_z M.2.2.2 M.1.1 .null) := by
    rw [← lm_ws_push (ρ := ρ) (M := M) (cA := cA) (ρ' := fun i => if i = M.1.1 then q else ρ i) (M' := ((M.1.1 + 1, x, lm_us M.1.2.2 M.1.1 (t, n2)), lm_z M.2.1 M.1.1 0, lm_z M.2.2.1 M.1.1 0, lm_z M.2.2.2 M.1.1 .null)) rfl, hE, if_pos rfl]
    intro o ho
    refine ⟨hext o (Or.inl ho), lm_cell_congr (if_neg (by omega)) (lm_z_ne (by omega)) (lm_z_ne (by omega)) fun k => ?_⟩
    show lm_tv _ (lm_z M.2.2.2 M.1.1 .null o k) = _
    rw [lm_z_ne (by omega)]
    exact lm_tv_ext hext (h5.2.2.2.2.2.1 o k)
  refine ⟨fun i => if i = M.1.1 then q else ρ i, ⟨hws ▸ hP, hws ▸ hD, hS, ⟨h4.1, h4.2.1, h4.2.2.1, fun i v hv hn => ?_⟩, lm_wk_new h5 hb ht, lm_oks_mono (Nat.le_succ _) h6, fun i hi => ?_, Nat.le_succ_of_le h8⟩, ?_, ?_⟩
  · rw [lm_tv_ext hext (h6 v (List.mem_of_getElem? hv))]
    exact h4.2.2.2 i v hv hn
  · rw [hext i (by omega)]
    exact h7 i hi
  · rw [List.map_cons, lm_tvs_ext hext hst]
    show _ = Value.ref (if M.1.1 = M.1.1 then q else _) :: _
    rw [if_pos rfl]
  · exact lm_oks_cons.mpr ⟨Or.inl (Nat.lt_succ_self _), lm_oks_mono (Nat.le_succ _) hst⟩
theorem lm_g_new {ci : Nat} (hC : lm_ctx p s m args meth c D cA A ρ0 cn ini cc nL) (hci : ci < 11) {en : Nat × Nat × Nat × Nat × Nat} (he : en ∈ lm_tC) (e1 : en.2.1 = ci) (e2 : en.1 / 10000 = cn) (hdec : decode cc pc = .ok (.new (en.1 % 10000), 3)) (hb : M.1.1 + 1 ≤ lm_B) (h0 : M0.1.1 ≤ M.1.1) (h00 : M0.1.2.1 ≤ M.1.2.1)
    (hr1 : M.1.1 + 1 - M0.1.1 ≤ R.cells) (hr2 : M.1.2.1 + lm_cN ci - M0.1.2.1 ≤ R.slots) (k : lm_G p l e R s m args below meth c Q D cA A ρ0 M0 nL (pc + 3) (ls) (.ref M.1.1 :: st) ((((M.1.1 + 1, M.1.2.1 + lm_cN ci, lm_us M.1.2.2 M.1.1 (ci, 0)), lm_z M.2.1 M.1.1 0, lm_z M.2.2.1 M.1.1 0, lm_z M.2.2.2 M.1.1 .null) : lm_M))) : lm_G p l e R s m args below meth c Q D cA A ρ0 M0 nL (pc) (ls) (st) (M) := by
  intro ρ H locs cs h hs
  obtain ⟨hx, hbb, hml, hown, hts, hK, hA, hin, hX, hlk⟩ := hC
  subst e1
  have hw := List.all_eq_true.mp lm_tC_ok en he
  simp only [Bool.and_eq_true, decide_eq_true_eq] at hw
  obtain ⟨⟨⟨w1, w2⟩, w3⟩, w4⟩ := hw
  have w1 := List.mem_of_getElem? w1
  have w2 := List.mem_of_getElem? w2
  have w3 := List.mem_of_getElem? w3
  refine va_new (ci := en.2.1) (fs := (List.range (lm_cN en.2.1)).map (fun j => defaultValue (lm_cy en.2.1 j))) hx hbb hts (lm_cl_in hci) (lm_cy en.2.1) (lm_cl_ty hci) hown (by rw [← e2]; exact hts _ (lm_tbm w1 rfl)) (hts _ (lm_tbm w2 rfl)) (hts _ (lm_tbm w3 rfl)) hK h.1 h.2.1 h.2.2.1 hA (lm_cl_at hci) (fun j hj => ?_) (by omega) (by omega) hdec (fun q H1 hP hD hS => ?_)
  · simp [vp_V, hj]
  · obtain ⟨ρ', h1, h2, h3⟩ := lm_rel_new (t := en.2.1) (n2 := 0) (x := M.1.2.1 + lm_cN en.2.1) h hb (Or.inl hci) (E := .inr (en.2.1, (List.range (lm_cN en.2.1)).map (fun j => defaultValue (lm_cy en.2.1 j)))) (fun ρ' => by
      have e9 : lm_us M.1.2.2 M.1.1 (en.2.1, 0) M.1.1 = (en.2.1, 0) := if_pos rfl
      rw [lm_cell_obj (by show (lm_us M.1.2.2 M.1.1 (en.2.1, 0) M.1.1).1 < 11; rw [e9]; exact hci)]
      show Sum.inr ((lm_us M.1.2.2 M.1.1 (en.2.1, 0) M.1.1).1, (List.range (lm_cN (lm_us M.1.2.2 M.1.1 (en.2.1, 0) M.1.1).1)).map (lm_fv ρ' _ (lm_us M.1.2.2 M.1.1 (en.2.1, 0) M.1.1).1 M.1.1)) = _
      rw [e9]
      congr 2
      refine List.map_congr_left fun j hj => ?_
      have hj := List.mem_range.mp hj
      rcases lm_kind_of hci hj with q | q | q | q
      · rw [lm_fv_0 q, lm_kd0 q]; show Value.int (lm_z M.2.1 M.1.1 0 M.1.1 j) = _; rw [lm_z_same]; rfl
      · rw [lm_fv_1 q, lm_kd1 q]; show Value.long (lm_z M.2.2.1 M.1.1 0 M.1.1 j) = _; rw [lm_z_same]; rfl
      · rw [lm_fv_2 q]; show lm_tv ρ' (lm_z M.2.2.2 M.1.1 .null M.1.1 j) = _; rw [lm_z_same]; cases hty : lm_cy en.2.1 j <;> simp_all [lm_kd, defaultValue, lm_tv]
      · rw [lm_fv_3 q, lm_kd3 q]; show Value.int (lm_z M.2.1 M.1.1 0 M.1.1 j) = _; rw [lm_z_same]; rfl) hP hD hS hs
    rw [h2, show M.1.1 - M0.1.1 + 1 = M.1.1 + 1 - M0.1.1 by omega, show M.1.2.1 - M0.1.2.1 + lm_cN en.2.1 = M.1.2.1 + lm_cN en.2.1 - M0.1.2.1 by omega]
    exact k ρ' H1 locs cs h1 h3
theorem lm_g_newa {t : ArrayType} {n : Int32} {r : List Value} (hC : lm_ctx p s m args meth c D cA A ρ0 cn ini cc nL) (hdec : decode cc pc = .ok (.newarray t, 2)) (hn : ¬ n < 0) (ht : lm_ty t ≠ 99) (hn2 : n.toNatClampNeg ≤ 65536) (hb : M.1.1 + 1 ≤ lm_B) (h0 : M0.1.1 ≤ M.1.1) (h00 : M0.1.2.1 ≤ M.1.2.1)
    (hr1 : M.1.1 + 1 - M0.1.1 ≤ R.cells) (hr2 : M.1.2.1 + n.toNatClampNeg - M0.1.2.1 ≤ R.slots) (k : lm_G p l e R s m args below meth c Q D cA A ρ0 M0 nL (pc + 2) (ls) (.ref M.1.1 :: r) ((((M.1.1 + 1, M.1.2.1 + n.toNatClampNeg, lm_us M.1.2.2 M.1.1 (lm_ty t, n.toNatClampNeg)), lm_z M.2.1 M.1.1 0, lm_z M.2.2.1 M.1.1 0, lm_z M.2.2.2 M.1.1 .null) : lm_M))) : lm_G p l e R s m args below meth c Q D cA A ρ0 M0 nL (pc) (ls) (.int n :: r) (M) := by
  intro ρ H locs cs h hs
  obtain ⟨hx, hbb, hml, hown, hts, hK, hA, hin, hX, hlk⟩ := hC
  have hs' := (lm_oks_cons.mp hs).2
  have e9 : ∀ u : Nat × Nat, lm_us M.1.2.2 M.1.1 u M.1.1 = u := fun u => if_pos rfl
  cases t with
  | int =>
    refine va_newa (atype := .int) (ty := .int) (N' := n.toNatClampNeg) (a0 := (n.toNatClampNeg, .inl (fun _ => 0))) hx hbb (hts _ (lm_tbm lm_w_int rfl)) rfl hK h.1 h.2.1 h.2.2.1 hA (fun _ => rfl) hn rfl (by simp [componentBytes]; omega) (by omega) (by omega) hdec (fun q cA' H1 hK1 hP hD hS => ?_)
    have ecA : cA' = cA 21 := by
      have g1 := (hK1.2 4 (cA', .int) rfl).2
      have g2 := (hK.2 0 (cA 21, .int) rfl).2
      exact Option.some.inj (g1.symm.trans g2)
    subst ecA
    obtain ⟨ρ', h1, h2, h3⟩ := lm_rel_new (t := 21) (n2 := n.toNatClampNeg) (x := M.1.2.1 + n.toNatClampNeg) h hb (Or.inr (by decide)) (E := .inl (cA 21, n.toNatClampNeg, .inl (fun _ => 0))) (fun ρ' => by
        rw [lm_cell_arr (t := 21) (by show (lm_us M.1.2.2 M.1.1 (21, n.toNatClampNeg) M.1.1).1 = 21; rw [e9]) (by decide) (by decide)]
        show Sum.inl (cA 21, (lm_us M.1.2.2 M.1.1 (21, n.toNatClampNeg) M.1.1).2, Sum.inl (lm_z M.2.1 M.1.1 0 M.1.1)) = _
        rw [e9, lm_z_same]) hP hD hS hs'
    rw [h2, show M.1.1 - M0.1.1 + 1 = M.1.1 + 1 - M0.1.1 by omega, show M.1.2.1 - M0.1.2.1 + n.toNatClampNeg = M.1.2.1 + n.toNatClampNeg - M0.1.2.1 by omega]
    exact k ρ' H1 locs cs h1 h3
  | long =>
    refine va_newa (atype := .long) (ty := .long) (N' := n.toNatClampNeg) (a0 := (n.toNatClampNeg, .inr (.inl (fun _ => 0)))) hx hbb (hts _ (lm_tbm lm_w_long rfl)) rfl hK h.1 h.2.1 h.2.2.1 hA (fun _ => rfl) hn rfl (by simp [componentBytes]; omega) (by omega) (by omega) hdec (fun q cA' H1 hK1 hP hD hS => ?_)
    have ecA : cA' = cA 22 := by
      have g1 := (hK1.2 4 (cA', .long) rfl).2
      have g2 := (hK.2 1 (cA 22, .long) rfl).2
      exact Option.some.inj (g1.symm.trans g2)
    subst ecA
    obtain ⟨ρ', h1, h2, h3⟩ := lm_rel_new (t := 22) (n2 := n.toNatClampNeg) (x := M.1.2.1 + n.toNatClampNeg) h hb (Or.inr (by decide)) (E := .inl (cA 22, n.toNatClampNeg, .inr (.inl (fun _ => 0)))) (fun ρ' => by
        rw [lm_cell_long (by show (lm_us M.1.2.2 M.1.1 (22, n.toNatClampNeg) M.1.1).1 = 22; rw [e9])]
        show Sum.inl (cA 22, (lm_us M.1.2.2 M.1.1 (22, n.toNatClampNeg) M.1.1).2, Sum.inr (Sum.inl (lm_z M.2.2.1 M.1.1 0 M.1.1))) = _
        rw [e9, lm_z_same]) hP hD hS hs'
    rw [h2, show M.1.1 - M0.1.1 + 1 = M.1.1 + 1 - M0.1.1 by omega, show M.1.2.1 - M0.1.2.1 + n.toNatClampNeg = M.1.2.1 + n.toNatClampNeg - M0.1.2.1 by omega]
    exact k ρ' H1 locs cs h1 h3
  | boolean =>
    refine va_newa (atype := .boolean) (ty := .boolean) (N' := n.toNatClampNeg) (a0 := (n.toNatClampNeg, .inl (fun _ => 0))) hx hbb (hts _ (lm_tbm lm_w_bool rfl)) rfl hK h.1 h.2.1 h.2.2.1 hA (fun _ => rfl) hn rfl (by simp [componentBytes]; omega) (by omega) (by omega) hdec (fun q cA' H1 hK1 hP hD hS => ?_)
    have ecA : cA' = cA 23 := by
      have g1 := (hK1.2 4 (cA', .boolean) rfl).2
      have g2 := (hK.2 2 (cA 23, .boolean) rfl).2
      exact Option.some.inj (g1.symm.trans g2)
    subst ecA
    obtain ⟨ρ', h1, h2, h3⟩ := lm_rel_new (t := 23) (n2 := n.toNatClampNeg) (x := M.1.2.1 + n.toNatClampNeg) h hb (Or.inr (by decide)) (E := .inl (cA 23, n.toNatClampNeg, .inl (fun _ => 0))) (fun ρ' => by
        rw [lm_cell_arr (t := 23) (by show (lm_us M.1.2.2 M.1.1 (23, n.toNatClampNeg) M.1.1).1 = 23; rw [e9]) (by decide) (by decide)]
        show Sum.inl (cA 23, (lm_us M.1.2.2 M.1.1 (23, n.toNatClampNeg) M.1.1).2, Sum.inl (lm_z M.2.1 M.1.1 0 M.1.1)) = _
        rw [e9, lm_z_same]) hP hD hS hs'
    rw [h2, show M.1.1 - M0.1.1 + 1 = M.1.1 + 1 - M0.1.1 by omega, show M.1.2.1 - M0.1.2.1 + n.toNatClampNeg = M.1.2.1 + n.toNatClampNeg - M0.1.2.1 by omega]
    exact k ρ' H1 locs cs h1 h3
  | byte =>
    refine va_newa (atype := .byte) (ty := .byte) (N' := n.toNatClampNeg) (a0 := (n.toNatClampNeg, .inl (fun _ => 0))) hx hbb (hts _ (lm_tbm lm_w_byte rfl)) rfl hK h.1 h.2.1 h.2.2.1 hA (fun _ => rfl) hn rfl (by simp [componentBytes]; omega) (by omega) (by omega) hdec (fun q cA' H1 hK1 hP hD hS => ?_)
    have ecA : cA' = cA 24 := by
      have g1 := (hK1.2 4 (cA', .byte) rfl).2
      have g2 := (hK.2 3 (cA 24, .byte) rfl).2
      exact Option.some.inj (g1.symm.trans g2)
    subst ecA
    obtain ⟨ρ', h1, h2, h3⟩ := lm_rel_new (t := 24) (n2 := n.toNatClampNeg) (x := M.1.2.1 + n.toNatClampNeg) h hb (Or.inr (by decide)) (E := .inl (cA 24, n.toNatClampNeg, .inl (fun _ => 0))) (fun ρ' => by
        rw [lm_cell_arr (t := 24) (by show (lm_us M.1.2.2 M.1.1 (24, n.toNatClampNeg) M.1.1).1 = 24; rw [e9]) (by decide) (by decide)]
        show Sum.inl (cA 24, (lm_us M.1.2.2 M.1.1 (24, n.toNatClampNeg) M.1.1).2, Sum.inl (lm_z M.2.1 M.1.1 0 M.1.1)) = _
        rw [e9, lm_z_same]) hP hD hS hs'
    rw [h2, show M.1.1 - M0.1.1 + 1 = M.1.1 + 1 - M0.1.1 by omega, show M.1.2.1 - M0.1.2.1 + n.toNatClampNeg = M.1.2.1 + n.toNatClampNeg - M0.1.2.1 by omega]
    exact k ρ' H1 locs cs h1 h3
  | _ => exact absurd rfl ht
end LMSIM2
