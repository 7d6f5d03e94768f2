/-! ===== the simulation: each instruction ===== -/
section LMSIM
variable {p : Program} {l : Launch} {e : Env} {R : Room} {s : State} {m : MethodId} {args : Array Value} {below : List Frame} {meth : Method} {c : Code} {Q : State → Prop} {D : va_G} {cA : Nat → ClassId} {A : Nat → Prop} {ρ0 : Nat → Nat} {M0 : lm_M} {nL cn : Nat} {ini : Bool} {cc : ByteArray}
variable {J : Nat → lm_C} {i raw : Instr} {cd c' : lm_C} {pc pc' n : Nat} {ls ls' st st' : List Value} {M M' : lm_M}
theorem lm_g_st (k : lm_G p l e R s m args below meth c Q D cA A ρ0 M0 nL (pc') (ls) (st') (M)) (row : ∀ (ρ : Nat → Nat) (H : Heap) (locs : List Loc) (cs : Array Slot) (k1 k2 : Nat), lm_has ρ cs nL ls → W p l e R s m args below meth c H locs k1 k2 Q (F0 m pc' cs (st'.map (lm_tv ρ))) → W p l e R s m args below meth c H locs k1 k2 Q (F0 m pc cs (st.map (lm_tv ρ)))) (hok : lm_oks M.1.1 ls → lm_oks M.1.1 st → lm_oks M.1.1 st') : lm_G p l e R s m args below meth c Q D cA A ρ0 M0 nL (pc) (ls) (st) (M) :=
  fun ρ H locs cs h hs => row ρ H locs cs _ _ h.2.2.2.1 (k ρ H locs cs h (hok h.2.2.2.2.2.1 hs))
theorem lm_has_at {ρ : Nat → Nat} {cs : Array Slot} {k : Nat} {v : Value} (h : lm_has ρ cs nL ls) (hk : ls[k]? = some v) (hn : v ≠ .null) : cs[k]? = some (.val (lm_tv ρ v)) := h.2.2.2 k v hk hn
theorem lm_wk_I (h : lm_wk M) {o k : Nat} {x : Int32} (ho : o < M.1.1) : lm_wk (M.1, lm_up M.2.1 o k x, M.2.2) := by
  obtain ⟨h1, h2, h3, h4, h5, h6, h7⟩ := h
  refine ⟨h1, h2, h3, h4, h5, h6, fun j hj => ?_⟩
  show lm_up M.2.1 o k x (lm_B + 10) j = _
  rw [lm_up_ne (by omega)]
  exact h7 j hj
theorem lm_wk_L (h : lm_wk M) {L : lm_L} : lm_wk (M.1, M.2.1, L, M.2.2.2) := h
theorem lm_wk_R (h : lm_wk M) {o k : Nat} {v : Value} (hv : lm_okv M.1.1 v) : lm_wk (M.1, M.2.1, M.2.2.1, lm_up M.2.2.2 o k v) := by
  obtain ⟨h1, h2, h3, h4, h5, h6, h7⟩ := h
  refine ⟨h1, h2, h3, h4, h5, fun a b => ?_, h7⟩
  show lm_okv M.1.1 (lm_up M.2.2.2 o k v a b)
  unfold lm_up
  split
  · split
    · exact hv
    · exact h6 a b
  · exact h6 a b
theorem lm_rel_set {n0 : Nat} {ρ : Nat → Nat} {H H1 : Heap} {locs locs1 : List Loc} {cs : Array Slot} {o : Nat} (h : lm_rel s D cA A ρ0 n0 nL ρ H locs cs ls M) (h1 : M'.1 = M.1) (ho : o < M.1.1) (ho2 : ∀ o', o' ≠ o → o' < M.1.1 → lm_cell cA ρ M' o' = lm_cell cA ρ M o')
    (hP : va_P D lm_cl ((lm_ws cA ρ M).set o (ρ o, lm_cell cA ρ M' o)) H1) (hD : va_D A ((lm_ws cA ρ M).set o (ρ o, lm_cell cA ρ M' o))) (hS : va_S A s.heap H1 locs1) (hw : lm_wk M') : lm_rel s D cA A ρ0 n0 nL ρ H1 locs1 cs ls M' := by
  have e1 : M'.1.1 = M.1.1 := by rw [h1]
  rw [lm_ws_set e1 ho ho2] at hP hD
  obtain ⟨-, -, -, q4, -, q6, q7, q8⟩ := h
  exact ⟨hP, hD, hS, q4, hw, by rw [e1]; exact q6, q7, by rw [e1]; exact q8⟩
theorem lm_ws_obj {ρ : Nat → Nat} {o ci : Nat} (hw : lm_wk M) (ht : (M.1.2.2 o).1 = ci) (hci : ci < 11) : o < M.1.1 ∧ (lm_ws cA ρ M)[o]? = some (ρ o, .inr (ci, (List.range (lm_cN ci)).map (lm_fv ρ M ci o))) := by
  have ho := lm_wk_lt hw (o := o) (Or.inl (by omega))
  refine ⟨ho, ?_⟩
  rw [lm_ws_at ho, lm_cell_obj (by omega), ht]
theorem lm_ws_arr {ρ : Nat → Nat} {o t : Nat} (hw : lm_wk M) (ht : (M.1.2.2 o).1 = t) (h1 : 21 ≤ t ∧ t ≤ 24) (h2 : t ≠ 22) : o < M.1.1 ∧ (lm_ws cA ρ M)[o]? = some (ρ o, .inl (cA t, (M.1.2.2 o).2, .inl (M.2.1 o))) := by
  have ho := lm_wk_lt hw (o := o) (Or.inr (by omega))
  refine ⟨ho, ?_⟩
  rw [lm_ws_at ho, lm_cell_arr ht (by omega) h2]
theorem lm_ws_long {ρ : Nat → Nat} {o : Nat} (hw : lm_wk M) (ht : (M.1.2.2 o).1 = 22) : o < M.1.1 ∧ (lm_ws cA ρ M)[o]? = some (ρ o, .inl (cA 22, (M.1.2.2 o).2, .inr (.inl (M.2.2.1 o)))) := by
  have ho := lm_wk_lt hw (o := o) (Or.inr (by omega))
  refine ⟨ho, ?_⟩
  rw [lm_ws_at ho, lm_cell_long ht]
theorem lm_g_arr {o t j : Nat} {x : Int32} {r : List Value} (row : ∀ (ρ : Nat → Nat) (H : Heap) (locs : List Loc) (cs : Array Slot) (k1 k2 : Nat), lm_rel s D cA A ρ0 M0.1.1 nL ρ H locs cs ls M → (lm_ws cA ρ M)[o]? = some (ρ o, .inl (cA t, (M.1.2.2 o).2, .inl (M.2.1 o))) → (∀ (H1 : Heap) (locs1 : List Loc), va_P D lm_cl ((lm_ws cA ρ M).set o (ρ o, .inl (cA t, (M.1.2.2 o).2, .inl (upd (M.2.1 o) j x)))) H1 → va_D A ((lm_ws cA ρ M).set o (ρ o, .inl (cA t, (M.1.2.2 o).2, .inl (upd (M.2.1 o) j x)))) → va_S A s.heap H1 locs1 → W p l e R s m args below meth c H1 locs1 k1 k2 Q (F0 m pc' cs (r.map (lm_tv ρ)))) → W p l e R s m args below meth c H locs k1 k2 Q (F0 m pc cs (st.map (lm_tv ρ))))
    (ht : (M.1.2.2 o).1 = t) (h1 : 21 ≤ t ∧ t ≤ 24) (h2 : t ≠ 22) (hok : lm_oks M.1.1 st → lm_oks M.1.1 r) (k : lm_G p l e R s m args below meth c Q D cA A ρ0 M0 nL (pc') (ls) (r) ((M.1, lm_up M.2.1 o j x, M.2.2))) : lm_G p l e R s m args below meth c Q D cA A ρ0 M0 nL (pc) (ls) (st) (M) := by
  intro ρ H locs cs h hs
  obtain ⟨ho, ha⟩ := lm_ws_arr (cA := cA) (ρ := ρ) h.2.2.2.2.1 ht h1 h2
  have ec : lm_cell cA ρ (M.1, lm_up M.2.1 o j x, M.2.2) o = .inl (cA t, (M.1.2.2 o).2, .inl (upd (M.2.1 o) j x)) := by
    rw [lm_cell_arr (M := (M.1, lm_up M.2.1 o j x, M.2.2)) ht (by omega) h2]
    show Sum.inl (cA t, (M.1.2.2 o).2, Sum.inl (lm_up M.2.1 o j x o)) = _
    rw [lm_up_same]
    rfl
  refine row ρ H locs cs _ _ h ha fun H1 locs1 hP hD hS => ?_
  rw [← ec] at hP hD
  exact k ρ H1 locs1 cs (lm_rel_set (M' := (M.1, lm_up M.2.1 o j x, M.2.2)) h rfl ho (fun o' hne _ => lm_cell_congr rfl (lm_up_ne hne) rfl (fun _ => rfl)) hP hD hS (lm_wk_I h.2.2.2.2.1 ho)) (hok hs)
theorem lm_g_larr {o j : Nat} {x : Int64} {r : List Value} (row : ∀ (ρ : Nat → Nat) (H : Heap) (locs : List Loc) (cs : Array Slot) (k1 k2 : Nat), lm_rel s D cA A ρ0 M0.1.1 nL ρ H locs cs ls M → (lm_ws cA ρ M)[o]? = some (ρ o, .inl (cA 22, (M.1.2.2 o).2, .inr (.inl (M.2.2.1 o)))) → (∀ (H1 : Heap) (locs1 : List Loc), va_P D lm_cl ((lm_ws cA ρ M).set o (ρ o, .inl (cA 22, (M.1.2.2 o).2, .inr (.inl (vp_updL (M.2.2.1 o) j x))))) H1 → va_D A ((lm_ws cA ρ M).set o (ρ o, .inl (cA 22, (M.1.2.2 o).2, .inr (.inl (vp_updL (M.2.2.1 o) j x))))) → va_S A s.heap H1 locs1 → W p l e R s m args below meth c H1 locs1 k1 k2 Q (F0 m pc' cs (r.map (lm_tv ρ)))) → W p l e R s m args below meth c H locs k1 k2 Q (F0 m pc cs (st.map (lm_tv ρ))))
    (ht : (M.1.2.2 o).1 = 22) (hok : lm_oks M.1.1 st → lm_oks M.1.1 r) (k : lm_G p l e R s m args below meth c Q D cA A ρ0 M0 nL (pc') (ls) (r) ((M.1, M.2.1, lm_up M.2.2.1 o j x, M.2.2.2))) : lm_G p l e R s m args below meth c Q D cA A ρ0 M0 nL (pc) (ls) (st) (M) := by
  intro ρ H locs cs h hs
  obtain ⟨ho, ha⟩ := lm_ws_long (cA := cA) (ρ := ρ) h.2.2.2.2.1 ht
  have ec : lm_cell cA ρ (M.1, M.2.1, lm_up M.2.2.1 o j x, M.2.2.2) o = .inl (cA 22, (M.1.2.2 o).2, .inr (.inl (vp_updL (M.2.2.1 o) j x))) := by
    rw [lm_cell_long (M := (M.1, M.2.1, lm_up M.2.2.1 o j x, M.2.2.2)) ht]
    show Sum.inl (cA 22, (M.1.2.2 o).2, Sum.inr (Sum.inl (lm_up M.2.2.1 o j x o))) = _
    rw [lm_up_same]
    rfl
  refine row ρ H locs cs _ _ h ha fun H1 locs1 hP hD hS => ?_
  rw [← ec] at hP hD
  exact k ρ H1 locs1 cs (lm_rel_set (M' := (M.1, M.2.1, lm_up M.2.2.1 o j x, M.2.2.2)) h rfl ho (fun o' hne _ => lm_cell_congr rfl rfl (lm_up_ne hne) (fun _ => rfl)) hP hD hS (lm_wk_L h.2.2.2.2.1)) (hok hs)
theorem lm_fv_0 {ρ : Nat → Nat} {t o k : Nat} (h : lm_kd (lm_cy t k) = 0) : lm_fv ρ M t o k = .int (M.2.1 o k) := by unfold lm_fv; rw [h]; try rfl
theorem lm_fv_1 {ρ : Nat → Nat} {t o k : Nat} (h : lm_kd (lm_cy t k) = 1) : lm_fv ρ M t o k = .long (M.2.2.1 o k) := by unfold lm_fv; rw [h]; try rfl
theorem lm_fv_2 {ρ : Nat → Nat} {t o k : Nat} (h : lm_kd (lm_cy t k) = 2) : lm_fv ρ M t o k = lm_tv ρ (M.2.2.2 o k) := by unfold lm_fv; rw [h]; try rfl
theorem lm_fv_3 {ρ : Nat → Nat} {t o k : Nat} (h : lm_kd (lm_cy t k) = 3) : lm_fv ρ M t o k = .int (M.2.1 o k) := by unfold lm_fv; rw [h]; try rfl
theorem lm_kd0 {ty : FieldType} (h : lm_kd ty = 0) : ty = .int := by cases ty <;> simp_all [lm_kd]
theorem lm_kd1 {ty : FieldType} (h : lm_kd ty = 1) : ty = .long := by cases ty <;> simp_all [lm_kd]
theorem lm_kd3 {ty : FieldType} (h : lm_kd ty = 3) : ty = .boolean := by cases ty <;> simp_all [lm_kd]
theorem lm_kd2 {ty : FieldType} (h : lm_kd ty = 2) (a : Nat) : narrow ty (.ref a) = .ref a ∧ fits ty (.ref a) = true := by cases ty <;> simp_all [lm_kd, narrow, fits]
/-- what the field table says of an entry -/
theorem lm_tF_spec {e : Nat × Nat × Nat × Nat} (he : e ∈ lm_tF) : e.2.1 / 1024 < 11 ∧ e.2.1 / 8 % 128 < lm_cN (e.2.1 / 1024) ∧ lm_kd (lm_cy (e.2.1 / 1024) (e.2.1 / 8 % 128)) = e.2.1 % 8 ∧
    ((e.2.2.1 = 0 ∧ Cond.fieldLink (lm_oR (e.1 / 10000)) (e.1 % 10000) (lm_cT (e.2.1 / 1024) (e.2.1 / 8 % 128)).1 (lm_cT (e.2.1 / 1024) (e.2.1 / 8 % 128)).2.1 (lm_cT (e.2.1 / 1024) (e.2.1 / 8 % 128)).2.2.1 ∈ lw_tbl) ∨ (e.2.2.1 ≠ 0 ∧ Cond.fieldLinkNest (lm_oR (e.1 / 10000)) (e.1 % 10000) (lm_cT (e.2.1 / 1024) (e.2.1 / 8 % 128)).1 (lm_cT (e.2.1 / 1024) (e.2.1 / 8 % 128)).2.1 (lm_cT (e.2.1 / 1024) (e.2.1 / 8 % 128)).2.2.1 "ConflictPlaces" ∈ lw_tbl)) := by
  have h := List.all_eq_true.mp lm_tF_ok e he
  unfold lm_okF at h
  simp only [Bool.and_eq_true, decide_eq_true_eq, beq_iff_eq] at h
  obtain ⟨⟨⟨h1, h2⟩, h3⟩, h4⟩ := h
  refine ⟨h2, h3, h4, ?_⟩
  by_cases h0 : e.2.2.1 = 0
  · rw [if_pos h0] at h1
    exact Or.inl ⟨h0, List.mem_of_getElem? h1⟩
  · rw [if_neg h0] at h1
    exact Or.inr ⟨h0, List.mem_of_getElem? h1⟩
theorem lm_g_get {r o : Nat} {q : List Value} {v : Value} (hC : lm_ctx p s m args meth c D cA A ρ0 cn ini cc nL) {en : Nat × Nat × Nat × Nat} (he : en ∈ lm_tF) (e1 : en.2.1 = r) (e2 : en.1 / 10000 = cn) (hdec : decode cc pc = .ok (.getfield (en.1 % 10000), 3)) (ht : (M.1.2.2 o).1 = r / 1024)
    (hv : (r % 8 = 0 ∧ v = .int (M.2.1 o (r / 8 % 128))) ∨ (r % 8 = 1 ∧ v = .long (M.2.2.1 o (r / 8 % 128))) ∨ (r % 8 = 2 ∧ v = M.2.2.2 o (r / 8 % 128)) ∨ (r % 8 = 3 ∧ v = .int (M.2.1 o (r / 8 % 128)))) (k : lm_G p l e R s m args below meth c Q D cA A ρ0 M0 nL (pc + 3) (ls) (v :: q) (M)) : lm_G p l e R s m args below meth c Q D cA A ρ0 M0 nL (pc) (ls) (.ref o :: q) (M) := by
  intro ρ H locs cs h hs
  obtain ⟨hx, hb, hml, hown, hts, hK, hA, hin, hX, hlk⟩ := hC
  subst e1
  obtain ⟨f1, f2, f3, f4⟩ := lm_tF_spec he
  obtain ⟨ho, hat⟩ := lm_ws_obj (cA := cA) (ρ := ρ) h.2.2.2.2.1 ht f1
  have hvv : ((List.range (lm_cN (en.2.1 / 1024))).map (lm_fv ρ M (en.2.1 / 1024) o))[en.2.1 / 8 % 128]? = some (lm_tv ρ v) := by
    rw [List.getElem?_map, List.getElem?_range f2]
    refine congrArg some ?_
    rcases hv with ⟨q1, q2⟩ | ⟨q1, q2⟩ | ⟨q1, q2⟩ | ⟨q1, q2⟩
    · rw [q2, lm_fv_0 (by omega)]; rfl
    · rw [q2, lm_fv_1 (by omega)]; rfl
    · rw [q2, lm_fv_2 (by omega)]
    · rw [q2, lm_fv_3 (by omega)]; rfl
  have hok : lm_oks M.1.1 (v :: q) := by
    refine lm_oks_cons.mpr ⟨?_, (lm_oks_cons.mp hs).2⟩
    rcases hv with ⟨q1, q2⟩ | ⟨q1, q2⟩ | ⟨q1, q2⟩ | ⟨q1, q2⟩
    · rw [q2]; trivial
    · rw [q2]; trivial
    · rw [q2]; exact h.2.2.2.2.1.2.2.2.2.2.1 _ _
    · rw [q2]; trivial
  have kk := k ρ H locs cs h hok
  rcases f4 with ⟨-, hw⟩ | ⟨-, hw⟩
  · exact va_get hx hb hts (lm_cl_in f1) hown hK h.1 o hat (lm_cl_at f1) _ f2 (by rw [← e2]; exact hts _ (lm_tbm hw rfl)) (fun _ z => z) hvv hdec kk
  · exact va_getN hx hb hts (lm_cl_in f1) hown hK h.1 o hat (lm_cl_at f1) _ f2 (by rw [← e2]; exact hts _ (lm_tbm hw rfl)) (fun _ z => z) hvv hdec kk
theorem lm_fs_set {ρ : Nat → Nat} {o ci k : Nat} {v : Value} (hk : k < lm_cN ci) (h1 : lm_fv ρ M' ci o k = v) (h2 : ∀ j, j ≠ k → lm_fv ρ M' ci o j = lm_fv ρ M ci o j) : ((List.range (lm_cN ci)).map (lm_fv ρ M ci o)).set k v = (List.range (lm_cN ci)).map (lm_fv ρ M' ci o) := by
  apply List.ext_getElem?
  intro j
  rw [List.getElem?_set]
  by_cases e : k = j
  · subst e; simp [hk, h1]
  · rw [if_neg e]
    simp only [List.getElem?_map]
    by_cases hj : j < lm_cN ci
    · rw [List.getElem?_range hj]; simp [h2 j (fun q => e q.symm)]
    · simp [hj]
theorem lm_g_put {r o : Nat} {q : List Value} {v : Value} (hC : lm_ctx p s m args meth c D cA A ρ0 cn ini cc nL) {en : Nat × Nat × Nat × Nat} (he : en ∈ lm_tF) (e1 : en.2.1 = r) (e2 : en.1 / 10000 = cn) (hdec : decode cc pc = .ok (.putfield (en.1 % 10000), 3)) (ht : (M.1.2.2 o).1 = r / 1024)
    (hfin : (lm_cT (r / 1024) (r / 8 % 128)).2.2.2 = false ∨ (ini = true ∧ r / 1024 = cn ∧ en.2.2.1 = 0)) (hM1 : M'.1 = M.1) (hcell : ∀ (ρ : Nat → Nat) (o' : Nat), o' ≠ o → lm_cell cA ρ M' o' = lm_cell cA ρ M o') (hfv : ∀ ρ : Nat → Nat, lm_fv ρ M' (r / 1024) o (r / 8 % 128) = lm_tv ρ v ∧ ∀ j, j ≠ r / 8 % 128 → lm_fv ρ M' (r / 1024) o j = lm_fv ρ M (r / 1024) o j)
    (hn : ∀ ρ : Nat → Nat, narrow (lm_cy (r / 1024) (r / 8 % 128)) (lm_tv ρ v) = lm_tv ρ v ∧ fits (lm_cy (r / 1024) (r / 8 % 128)) (lm_tv ρ v) = true) (hwk : lm_wk M → o < M.1.1 → lm_oks M.1.1 (v :: .ref o :: q) → lm_wk M') (k : lm_G p l e R s m args below meth c Q D cA A ρ0 M0 nL (pc + 3) (ls) (q) (M')) : lm_G p l e R s m args below meth c Q D cA A ρ0 M0 nL (pc) (ls) (v :: .ref o :: q) (M) := by
  intro ρ H locs cs h hs
  obtain ⟨hx, hb, hml, hown, hts, hK, hA, hin, hX, hlk⟩ := hC
  subst e1
  obtain ⟨f1, f2, f3, f4⟩ := lm_tF_spec he
  obtain ⟨ho, hat⟩ := lm_ws_obj (cA := cA) (ρ := ρ) h.2.2.2.2.1 ht f1
  have hokq : lm_oks M'.1.1 q := by rw [hM1]; exact (lm_oks_cons.mp (lm_oks_cons.mp hs).2).2
  have ec : lm_cell cA ρ M' o = .inr (en.2.1 / 1024, ((List.range (lm_cN (en.2.1 / 1024))).map (lm_fv ρ M (en.2.1 / 1024) o)).set (en.2.1 / 8 % 128) (lm_tv ρ v)) := by
    have e9 : (M'.1.2.2 o).1 = en.2.1 / 1024 := by rw [hM1]; exact ht
    rw [lm_cell_obj (by omega), e9, lm_fs_set f2 (hfv ρ).1 (hfv ρ).2]
  have kk : ∀ (H1 : Heap) (locs1 : List Loc), va_P D lm_cl ((lm_ws cA ρ M).set o (ρ o, .inr (en.2.1 / 1024, ((List.range (lm_cN (en.2.1 / 1024))).map (lm_fv ρ M (en.2.1 / 1024) o)).set (en.2.1 / 8 % 128) (lm_tv ρ v)))) H1 → va_D A ((lm_ws cA ρ M).set o (ρ o, .inr (en.2.1 / 1024, ((List.range (lm_cN (en.2.1 / 1024))).map (lm_fv ρ M (en.2.1 / 1024) o)).set (en.2.1 / 8 % 128) (lm_tv ρ v)))) → va_S A s.heap H1 locs1 → W p l e R s m args below meth c H1 locs1 (M.1.1 - M0.1.1) (M.1.2.1 - M0.1.2.1) Q (F0 m (pc + 3) cs (q.map (lm_tv ρ))) := by
    intro H1 locs1 hP hD hS
    rw [← ec] at hP hD
    have := k ρ H1 locs1 cs (lm_rel_set h hM1 ho (fun o' hne _ => hcell ρ o' hne) hP hD hS (hwk h.2.2.2.2.1 ho hs)) hokq
    rw [hM1] at this
    exact this
  have hlen : en.2.1 / 8 % 128 < ((List.range (lm_cN (en.2.1 / 1024))).map (lm_fv ρ M (en.2.1 / 1024) o)).length := by simpa using f2
  rcases hfin with hf | ⟨g1, g2, g3⟩
  · rcases f4 with ⟨-, hw⟩ | ⟨-, hw⟩
    · exact va_put hx hb hts (lm_cl_in f1) (lm_cy (en.2.1 / 1024)) (lm_cl_ty f1) (lm_cl_nm f1) hown hK h.1 h.2.1 h.2.2.1 o hat (lm_cl_at f1) _ f2 (by rw [← e2]; exact hts _ (lm_tbm hw rfl)) (fun _ z => z) hf (lm_cl_ty f1 _ f2) (hn ρ).1 (hn ρ).2 hlen hdec kk
    · exact va_putN hx hb hts (lm_cl_in f1) (lm_cy (en.2.1 / 1024)) (lm_cl_ty f1) (lm_cl_nm f1) hown hK h.1 h.2.1 h.2.2.1 o hat (lm_cl_at f1) _ f2 (by rw [← e2]; exact hts _ (lm_tbm hw rfl)) (fun _ z => z) hf (lm_cl_ty f1 _ f2) (hn ρ).1 (hn ρ).2 hlen hdec kk
  · rcases f4 with ⟨-, hw⟩ | ⟨g4, -⟩
    · cases hfb : (lm_cT (en.2.1 / 1024) (en.2.1 / 8 % 128)).2.2.2 with
      | false => exact va_put hx hb hts (lm_cl_in f1) (lm_cy (en.2.1 / 1024)) (lm_cl_ty f1) (lm_cl_nm f1) hown hK h.1 h.2.1 h.2.2.1 o hat (lm_cl_at f1) _ f2 (by rw [← e2]; exact hts _ (lm_tbm hw rfl)) (fun _ z => z) hfb (lm_cl_ty f1 _ f2) (hn ρ).1 (hn ρ).2 hlen hdec kk
      | true => exact va_putF hx hb hts (lm_cl_in f1) (lm_cy (en.2.1 / 1024)) (lm_cl_ty f1) (lm_cl_nm f1) hown hK h.1 h.2.1 h.2.2.1 o hat (lm_cl_at f1) _ f2 (by rw [← e2]; exact hts _ (lm_tbm hw rfl)) (fun _ z => z) hfb (hin g1) (by rw [lm_cl_own f1 f2, ← g2, lm_oR_cR f1]) (lm_cl_ty f1 _ f2) (hn ρ).1 (hn ρ).2 hlen hdec kk
    · exact absurd g3 g4
end LMSIM
