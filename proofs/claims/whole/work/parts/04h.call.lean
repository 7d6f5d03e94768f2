/-! ===== the simulation: calls, whole methods ===== -/
def lm_good : List Cond := lw_tbl.filter goodWord
def lm_nest : List Cond := lw_tbl.filter (fun w => !goodWord w && lm_isN w)
def lm_wsM (mi : Nat) : List Cond := .code (lm_mi mi).1 (lm_mi mi).2.1 (lm_mi mi).2.2.1 (lm_mi mi).2.2.2.1 :: lm_good
def lm_rm (d mc ms : Nat) : Room := { frames := d + 8, cells := mc, slots := ms, locals := 60 * d + 480 }
def lm_Pc (D : va_G) (cA : Nat → ClassId) (ρ : Nat → Nat) (M : lm_M) (as : List Value) (hz : Nat) : Array Value → State → Prop := va_Pc (as.map (lm_tv ρ)) (fun U => U.heap.size = hz ∧ va_P D lm_cl (lm_ws cA ρ M) U.heap ∧ va_K D lm_cl (lm_tys cA) U ∧ va_D (fun _ => True) (lm_ws cA ρ M) ∧ (∀ w ∈ lm_nest, va_Nw w U) ∧ lm_X ρ (va_A (lm_ws cA ρ M) hz) U U.heap)
def lm_Qc (D : va_G) (cA : Nat → ClassId) (ρ : Nat → Nat) (M : lm_M) (hz : Nat) (v : Option Value) (M' : lm_M) : Array Value → State → Outcome → State → Prop := fun _ st oc t => (∃ ρ' : Nat → Nat, (∀ i, (i < M.1.1 ∨ lm_B ≤ i) → ρ' i = ρ i) ∧ oc = .returned v ∧ va_P D lm_cl (lm_ws cA ρ' M') t.heap ∧ va_D (va_A (lm_ws cA ρ M) hz) (lm_ws cA ρ' M') ∧ lm_wk M') ∧ va_F (va_A (lm_ws cA ρ M) hz) st t
/-- the light call stands for the method itself -/
def lm_met (l : Launch) (d mi : Nat) (as : List Value) (M : lm_M) (v : Option Value) (M' : lm_M) : Prop := ∀ (D : va_G) (cA : Nat → ClassId) (ρ : Nat → Nat) (hz : Nat), lm_wk M → M'.1.1 ≤ lm_B → lm_oks M.1.1 as → Met l (lm_mi mi).1 (lm_wsM mi) (lm_rm d (M'.1.1 - M.1.1) (M'.1.2.1 - M.1.2.1)) (lm_Pc D cA ρ M as hz) (lm_Qc D cA ρ M hz v M') (M'.1.1 - M.1.1) (M'.1.2.1 - M.1.2.1) (va_A (lm_ws cA ρ M) hz)
theorem lm_mis_len : lm_mis.length = 229 := by decide +kernel
theorem lm_mi_mem {mi : Nat} (h : mi < 229) : lm_mi mi ∈ lm_mis := by
  unfold lm_mi
  have h2 : mi < lm_mis.length := by rw [lm_mis_len]; exact h
  rw [List.getD_eq_getElem?_getD, List.getElem?_eq_getElem h2]
  exact List.getElem_mem h2
theorem lm_wsM_good {mi : Nat} (h : mi < 229) : GoodIn lm_tb (lm_wsM mi) := by
  intro w hw
  rcases List.mem_cons.mp hw with rfl | hw
  · exact ⟨lm_tbm (lm_cw _ (lm_mi_mem h)) rfl, Or.inl rfl⟩
  · obtain ⟨h1, h2⟩ := List.mem_filter.mp hw
    exact ⟨lm_tbm h1 (by unfold lm_use; rw [h2]; rfl), good_of_word h2⟩
theorem lm_hts {args : Array Value} {s : State} {mi : Nat} (h1 : ∀ w ∈ lm_wsM mi, w.before args s = true) (h2 : ∀ w ∈ lm_nest, va_Nw w s) : ∀ w ∈ lm_tb, w.before args s = true := by
  intro w hw
  obtain ⟨q1, q2⟩ := List.mem_filter.mp hw
  by_cases hg : goodWord w = true
  · exact h1 w (List.mem_cons_of_mem _ (List.mem_filter.mpr ⟨q1, hg⟩))
  · have hg2 : goodWord w = false := by simpa using hg
    have hn : lm_isN w = true := by unfold lm_use at q2; rw [hg2] at q2; exact q2
    have h3 := h2 w (List.mem_filter.mpr ⟨q1, by rw [hg2, hn]; rfl⟩)
    have ho : w.onTables = true := by
      cases w <;> first | rfl | cases hn
    exact va_Nw.use ho h3
theorem lm_nest_of {args : Array Value} {s U : State} (h : ∀ w ∈ lm_tb, w.before args s = true) (hW : s.WarmedH U.vm) : ∀ w ∈ lm_nest, va_Nw w U := by
  intro w hw
  obtain ⟨q1, q2⟩ := List.mem_filter.mp hw
  simp only [Bool.and_eq_true] at q2
  have h1 := h w (lm_tbm q1 (by unfold lm_use; rw [q2.2]; simp))
  have hn := q2.2
  cases w with
  | fieldLinkNest a i b n d h => exact va_Nw.warmF hW (va_Nw.of rfl h1)
  | methodLinkNest a i x h => exact va_Nw.warmM hW (va_Nw.of rfl h1)
  | _ => cases hn
theorem lm_blind {D : va_G} {cA : Nat → ClassId} {ρ : Nat → Nat} {M : lm_M} {as : List Value} {hz : Nat} : FrameBlind (lm_Pc D cA ρ M as hz) := by
  intro a U g mk ⟨h1, h2, h3, h4, h5, h6, h7⟩
  refine ⟨h1, h2, h3, va_K.moved (u := U) (U := U.calling g mk a) (Vm.Alike.refl U.vm) h4, h5, fun w hw => ?_, lm_X.same (u := U) (U := U.calling g mk a) rfl h7⟩
  have ho : w.onTables = true := by
    obtain ⟨q1, q2⟩ := List.mem_filter.mp hw
    simp only [Bool.and_eq_true] at q2
    have hn := q2.2
    cases w <;> first | rfl | cases hn
  exact va_Nw.same (u := U) (U := U.calling g mk a) ho rfl (h6 w hw)
section LMCALL
variable {p : Program} {l : Launch} {e : Env} {R : Room} {s : State} {m : MethodId} {args : Array Value} {below : List Frame} {meth : Method} {c : Code} {Q : State → Prop} {D : va_G} {cA : Nat → ClassId} {A : Nat → Prop} {ρ0 : Nat → Nat} {M0 : lm_M} {nL cn : Nat} {ini : Bool} {cc : ByteArray}
variable {J : Nat → lm_C} {i raw : Instr} {cd c' : lm_C} {pc pc' n : Nat} {ls ls' st st' : List Value} {M M' : lm_M}
theorem lm_run_fin {ρ : Nat → Nat} {H : Heap} {locs : List Loc} {cs : Array Slot} {M2 : lm_M} {v : Option Value} {stk : List Value} {aa : Array Value} (hA : ∀ q, s.heap.size ≤ q → A q) (h : lm_rel s D cA A ρ0 M0.1.1 nL ρ H locs cs ls M)
    (hrun : va_Run p l e R s m args below meth c H locs (M.1.1 - M0.1.1) (M.1.2.1 - M0.1.2.1) (M2.1.1 - M.1.1) (M2.1.2.1 - M.1.2.1) (F0 m pc cs stk) (st'.map (lm_tv ρ)) (lm_Qc D cA ρ M H.size v M2 aa) (va_A (lm_ws cA ρ M) H.size))
    (h0 : M0.1.1 ≤ M.1.1 ∧ M0.1.2.1 ≤ M.1.2.1) (h1 : M.1.1 ≤ M2.1.1 ∧ M.1.2.1 ≤ M2.1.2.1) (hok : lm_oks M.1.1 st') (hvr : ∀ x ∈ v.toList, ∀ ρ' : Nat → Nat, lm_tv ρ' x = x ∧ lm_okv M2.1.1 x) (k : lm_G p l e R s m args below meth c Q D cA A ρ0 M0 nL (pc + 3) (ls) (v.toList ++ st') (M2)) : W p l e R s m args below meth c H locs (M.1.1 - M0.1.1) (M.1.2.1 - M0.1.2.1) Q (F0 m pc cs stk) := by
  obtain ⟨hP, hD, hS, hl, hwk, hol, hrr, hnn⟩ := h
  have hfree : ∀ q, va_A (lm_ws cA ρ M) H.size q → A q := by
    intro q hq
    rcases hq with ⟨kk, ee, hq⟩ | hq
    · exact hD.2 kk _ hq
    · exact hA q (Nat.le_trans hS.1 hq)
  intro T hT X
  obtain ⟨v', st₀, t, T', L, e0, X', hL, e1, e2, ⟨⟨ρ', hr1, hv, hP', hD', hw'⟩, hz, hk⟩, st⟩ := hrun T hT X
  cases hv
  rw [e0] at hz hk
  have hext : ∀ i, (i < M.1.1 ∨ lm_B ≤ i) → ρ' i = ρ i := hr1
  have hstk : (v.toList ++ st').map (lm_tv ρ') = v.toList ++ st'.map (lm_tv ρ) := by
    rw [List.map_append, lm_tvs_ext hext hok]
    congr 1
    conv => rhs; rw [← List.map_id v.toList]
    exact List.map_congr_left fun x hx => (hvr x hx ρ').1
  have hoks : lm_oks M2.1.1 (v.toList ++ st') := by
    intro x hx
    rcases List.mem_append.mp hx with q | q
    · exact (hvr x q ρ').2
    · exact lm_okv_mono h1.1 (hok x q)
  have hrel : lm_rel s D cA A ρ0 M0.1.1 nL ρ' T'.heap (locs ++ L) cs ls M2 := by
    refine ⟨by rw [e1]; exact hP', hD'.weaken (fun kk q _ hq => hfree q.1 hq), ⟨Nat.le_trans hS.1 (by rw [e1]; exact hz), fun q g1 g2 => ?_, fun q hq => ?_⟩, ⟨hl.1, hl.2.1, hl.2.2.1, fun i x hx hn => ?_⟩, hw', lm_oks_mono h1.1 hol, fun i hi => ?_, Nat.le_trans hnn h1.1⟩
    · rw [e1, hk q (Nat.lt_of_lt_of_le g1 hS.1) (fun z => g2 (hfree q z))]
      exact hS.2.1 q g1 g2
    · rcases List.mem_append.mp hq with g | g
      · exact hS.2.2 q g
      · exact hfree _ (hL q g)
    · rw [lm_tv_ext hext (hol x (List.mem_of_getElem? hx))]
      exact hl.2.2.2 i x hx hn
    · rw [hext i (by omega)]
      exact hrr i hi
  have kk := k ρ' T'.heap (locs ++ L) cs hrel hoks
  rw [hstk] at kk
  have ec : M.1.1 - M0.1.1 + (M2.1.1 - M.1.1) = M2.1.1 - M0.1.1 := by omega
  have es : M.1.2.1 - M0.1.2.1 + (M2.1.2.1 - M.1.2.1) = M2.1.2.1 - M0.1.2.1 := by omega
  rw [ec, es] at X'
  obtain ⟨t2, a1, b1⟩ := kk T' rfl X'
  exact ⟨t2, st t2 a1, b1⟩
theorem lm_mi_spec {mi : Nat} (h : mi < 229) : (if (lm_mi mi).2.2.2.2.2.2.1 = true then Cond.static (lm_mi mi).1 else Cond.instanceMethod (lm_mi mi).1) ∈ lw_tbl ∧ ((lm_mi mi).2.2.2.2.2.2.1 = true ∨ (lm_mi mi).1.name = "<init>" ∨ Cond.selects (lm_mi mi).1.cls (lm_mi mi).1 (lm_mi mi).1 ∈ lw_tbl) ∧ Cond.initialized (lm_mi mi).1.cls ∈ lw_tbl ∧ plainName (lm_mi mi).1.cls = true ∧
    ((lm_mi mi).1.cls ≠ "java/lang/invoke/MethodHandle" ∧ (lm_mi mi).1.cls ≠ "java/lang/invoke/VarHandle" ∧ (parseMethodDescriptor (lm_mi mi).1.desc).map (fun d => d.parameters.length) = some (lm_mi mi).2.2.2.2.2.1) ∧ (lm_mi mi).1.cls = lm_oR (lm_mi mi).2.2.2.2.1 ∧ (lm_mi mi).2.2.1 ≤ 40 ∧ ((lm_mi mi).2.2.2.2.2.2.1 = true ∨ (lm_mi mi).2.2.2.2.1 < 11) ∧ ((lm_mi mi).1.name ≠ "<init>" ∨ (lm_mi mi).2.2.2.1 = none) := by
  have h1 := List.all_eq_true.mp lm_mis_ok _ (lm_mi_mem h)
  unfold lm_okI at h1
  simp only [Bool.and_eq_true, Bool.or_eq_true, decide_eq_true_eq, beq_iff_eq, bne_iff_ne] at h1
  obtain ⟨⟨⟨⟨⟨⟨⟨⟨⟨a1, a2⟩, a3⟩, a4⟩, a5⟩, a6⟩, a7⟩, a8⟩, a9⟩, a10⟩ := h1
  refine ⟨List.mem_of_getElem? a1, ?_, List.mem_of_getElem? a3, a4, a5, a6, a7, a9, a10⟩
  rcases a2 with (q | q) | q
  · exact Or.inl q
  · exact Or.inr (Or.inl q)
  · exact Or.inr (Or.inr (List.mem_of_getElem? q))
theorem lm_tM_spec {e : Nat × Nat × Nat × Nat} (he : e ∈ lm_tM) : ((e.2.2.1 = 0 ∧ Cond.methodLink (lm_oR (e.1 / 10000)) (e.1 % 10000) (lm_mi (e.2.1 / 2048)).1 ∈ lw_tbl) ∨ (e.2.2.1 ≠ 0 ∧ Cond.methodLinkNest (lm_oR (e.1 / 10000)) (e.1 % 10000) (lm_mi (e.2.1 / 2048)).1 "ConflictPlaces" ∈ lw_tbl)) ∧ e.2.1 / 2048 < 229 ∧
    e.2.1 % 128 = (if (lm_mi (e.2.1 / 2048)).2.2.2.2.2.2.1 = true then 99 else (lm_mi (e.2.1 / 2048)).2.2.2.2.1) ∧ e.2.1 / 128 % 16 = (lm_mi (e.2.1 / 2048)).2.2.2.2.2.1 + (if (lm_mi (e.2.1 / 2048)).2.2.2.2.2.2.1 = true then 0 else 1) := by
  have h := List.all_eq_true.mp lm_tM_ok e he
  unfold lm_okM at h
  simp only [Bool.and_eq_true, decide_eq_true_eq, beq_iff_eq] at h
  obtain ⟨⟨⟨h1, h2⟩, h3⟩, h4⟩ := h
  refine ⟨?_, h2, h3, h4⟩
  by_cases h0 : e.2.2.1 = 0
  · rw [if_pos h0] at h1
    exact Or.inl ⟨h0, List.mem_of_getElem? h1⟩
  · rw [if_neg h0] at h1
    exact Or.inr ⟨h0, List.mem_of_getElem? h1⟩
set_option maxHeartbeats 1000000 in
theorem lm_g_call {d r : Nat} {as : List Value} {M2 : lm_M} {v : Option Value} (hC : lm_ctx p s m args meth c D cA A ρ0 cn ini cc nL) {en : Nat × Nat × Nat × Nat} (he : en ∈ lm_tM) (e1 : en.2.1 = r) (e2 : en.1 / 10000 = cn) (hRf : d + 9 ≤ R.frames ∧ 60 * d + 540 ≤ R.locals) (hr1 : M2.1.1 - M0.1.1 ≤ R.cells) (hr2 : M2.1.2.1 - M0.1.2.1 ≤ R.slots) (hB : M2.1.1 ≤ lm_B)
    (hop : (raw = .invokevirtual (en.1 % 10000) ∧ (lm_mi (r / 2048)).2.2.2.2.2.2.1 = false ∧ (lm_mi (r / 2048)).1.name ≠ "<init>") ∨ (raw = .invokespecial (en.1 % 10000) ∧ (lm_mi (r / 2048)).2.2.2.2.2.2.1 = false ∧ (lm_mi (r / 2048)).1.name = "<init>") ∨ (raw = .invokestatic (en.1 % 10000) ∧ (lm_mi (r / 2048)).2.2.2.2.2.2.1 = true)) (hdec : decode cc pc = .ok (raw, 3))
    (hm : lm_met l d (r / 2048) as M v M2) (hpop : lm_pop (r / 128 % 16) [] st = some (as, st')) (hsum : (st'.map fun v => v.category).sum ≤ 8) (hrc : lm_rc r as M = true) (h0 : M0.1.1 ≤ M.1.1 ∧ M0.1.2.1 ≤ M.1.2.1) (h1 : M.1.1 ≤ M2.1.1 ∧ M.1.2.1 ≤ M2.1.2.1) (hvr : ∀ x ∈ v.toList, ∀ ρ' : Nat → Nat, lm_tv ρ' x = x ∧ lm_okv M2.1.1 x) (k : lm_G p l e R s m args below meth c Q D cA A ρ0 M0 nL (pc + 3) (ls) (v.toList ++ st') (M2)) : lm_G p l e R s m args below meth c Q D cA A ρ0 M0 nL (pc) (ls) (st) (M) := by
  intro ρ H locs cs h hs
  obtain ⟨hx, hb, hml, hown, hts, hK, hA, hin, hX, hlk⟩ := id hC
  subst e1
  obtain ⟨t1, t2, t3, t4⟩ := lm_tM_spec he
  obtain ⟨s1, s2, s3, s4, s5, s6, s7, s8, s9⟩ := lm_mi_spec t2
  obtain ⟨b, hb1, hb2, hb3⟩ := lm_pop_spec _ _ _ _ _ hpop
  simp only [List.append_nil] at hb3
  have hoas : lm_oks M.1.1 as := fun x hx => hs x (by rw [hb1]; exact List.mem_append_left _ (by rw [hb3] at hx; exact List.mem_reverse.mp hx))
  have host : lm_oks M.1.1 st' := fun x hx => hs x (by rw [hb1]; exact List.mem_append_right _ hx)
  have halen : as.length = en.2.1 / 128 % 16 := by rw [hb3, List.length_reverse, hb2]
  have hst : st = as.reverse ++ st' := by rw [hb1, hb3, List.reverse_reverse]
  have hM := hm D cA ρ H.size h.2.2.2.2.1 hB hoas
  have hfree : ∀ q, va_A (lm_ws cA ρ M) H.size q → A q := by
    intro q hq
    rcases hq with ⟨kk, ee, hq⟩ | hq
    · exact h.2.1.2 kk _ hq
    · exact hA q (Nat.le_trans h.2.2.1.1 hq)
  have hPc : ∀ U : State, U.heap = H → s.WarmedH U.vm → lm_Pc D cA ρ M as H.size (as.map (lm_tv ρ)).toArray U := by
    intro U hU hW
    refine ⟨rfl, by rw [hU], by rw [hU]; exact h.1, va_K.moved hW.alike hK, h.2.1.weaken (fun _ _ _ _ => trivial), lm_nest_of hts hW, ?_⟩
    have hX1 := (hX.ext (ρ' := ρ) (fun i hi => h.2.2.2.2.2.2.1 i (Or.inr hi))).kept h.2.2.1.2.1
    rw [hU]
    exact (hX1.narrow hfree).warm hW
  have hroom : (lm_rm d (M2.1.1 - M.1.1) (M2.1.2.1 - M.1.2.1)).frames + 1 ≤ R.frames ∧ 8 + ((lm_mi (en.2.1 / 2048)).2.2.1 + 11) + (lm_rm d (M2.1.1 - M.1.1) (M2.1.2.1 - M.1.2.1)).locals ≤ R.locals := by
    refine ⟨?_, ?_⟩
    · show d + 8 + 1 ≤ _; omega
    · show 8 + ((lm_mi (en.2.1 / 2048)).2.2.1 + 11) + (60 * d + 480) ≤ _; omega
  have hfit : M.1.1 - M0.1.1 + (M2.1.1 - M.1.1) ≤ R.cells ∧ M.1.2.1 - M0.1.2.1 + (M2.1.2.1 - M.1.2.1) ≤ R.slots := by
    exact ⟨by omega, by omega⟩
  have hmlen : c.maxLocals = nL := hml
  have hsz : (F0 m pc cs (st.map (lm_tv ρ))).locals.size = nL := h.2.2.2.1.1
  have hsum' : 2 * (F0 m pc cs (st.map (lm_tv ρ))).monitorRoom + ((st'.map (lm_tv ρ)).map fun v => v.category).sum ≤ 8 := lv_room (by rw [lm_tv_sum]; exact hsum)
  rcases hop with ⟨er, q1, q2⟩ | ⟨er, q1, q2⟩ | ⟨er, q1⟩
  · -- an instance method
    subst er
    rw [if_neg (by rw [q1]; decide)] at s1 t3 t4
    have hcl : (lm_mi (en.2.1 / 2048)).2.2.2.2.1 < 11 := s8.resolve_left (by rw [q1]; decide)
    have hsel : Cond.selects (lm_mi (en.2.1 / 2048)).1.cls (lm_mi (en.2.1 / 2048)).1 (lm_mi (en.2.1 / 2048)).1 ∈ lw_tbl := (s2.resolve_left (by rw [q1]; decide)).resolve_left q2
    obtain ⟨o, tl, rfl, hto⟩ : ∃ o tl, as = .ref o :: tl ∧ (M.1.2.2 o).1 = en.2.1 % 128 := by
      unfold lm_rc at hrc
      simp only [Bool.or_eq_true, beq_iff_eq] at hrc
      rcases hrc with q | q
      · omega
      · split at q
        · exact ⟨_, _, rfl, by simpa using q⟩
        · cases q
    obtain ⟨ho, hat⟩ := lm_ws_obj (cA := cA) (ρ := ρ) h.2.2.2.2.1 (hto.trans t3) hcl
    have hstk : st.map (lm_tv ρ) = (tl.map (lm_tv ρ)).reverse ++ .ref (ρ o) :: st'.map (lm_tv ρ) := by rw [hst]; simp [lm_tv]
    have hrecv := va_recv hK h.1 (lm_cl_at hcl) hat
    rw [show (lm_cR (lm_mi (en.2.1 / 2048)).2.2.2.2.1, lm_cT (lm_mi (en.2.1 / 2048)).2.2.2.2.1, lm_cN (lm_mi (en.2.1 / 2048)).2.2.2.2.1).1 = (lm_mi (en.2.1 / 2048)).1.cls by rw [s6, lm_oR_cR hcl]] at hrecv
    have hlen : (tl.map (lm_tv ρ)).length = (lm_mi (en.2.1 / 2048)).2.2.2.2.2.1 := by simp at halen; simp; omega
    refine lm_run_fin (aa := (Value.ref (ρ o) :: tl.map (lm_tv ρ)).toArray) hA h ?_ h0 h1 host hvr k
    rcases t1 with ⟨-, hw⟩ | ⟨-, hw⟩
    · exact va_runV (C := (lm_mi (en.2.1 / 2048)).1.cls) (b := ρ o) (As := tl.map (lm_tv ρ)) ⟨hx, hb, hml, hown, hts⟩ hM ⟨callB_of _ hts (lm_wsM_good t2) rfl rfl rfl (hts _ (lm_tbm s3 rfl)) (by rw [← e2]; exact hts _ (lm_tbm hw rfl)) s5 hroom, hts _ (lm_tbm s1 rfl), hts _ (lm_tbm hsel rfl)⟩ ⟨lm_blind, hrecv, hPc⟩ rfl hlen hsz hstk hsum' hdec hfit
    · exact va_runVN (C := (lm_mi (en.2.1 / 2048)).1.cls) (b := ρ o) (As := tl.map (lm_tv ρ)) ⟨hx, hb, hml, hown, hts⟩ hM ⟨va_cnB _ hts (lm_wsM_good t2) rfl rfl rfl (by rw [← e2]; exact va_Nw.of rfl (hts _ (lm_tbm hw rfl))) (hts _ (lm_tbm s3 rfl)) s5 hroom, hts _ (lm_tbm s1 rfl), hts _ (lm_tbm hsel rfl)⟩ ⟨lm_blind, hrecv, hPc⟩ rfl hlen hsz hstk hsum' hdec hfit
  · -- a constructor
    subst er
    rw [if_neg (by rw [q1]; decide)] at s1 t3 t4
    have hret : (lm_mi (en.2.1 / 2048)).2.2.2.1 = none := s9.resolve_left (fun q => q q2)
    obtain ⟨o, tl, rfl, hto⟩ : ∃ o tl, as = .ref o :: tl ∧ (M.1.2.2 o).1 = en.2.1 % 128 := by
      have hcl : (lm_mi (en.2.1 / 2048)).2.2.2.2.1 < 11 := s8.resolve_left (by rw [q1]; decide)
      unfold lm_rc at hrc
      simp only [Bool.or_eq_true, beq_iff_eq] at hrc
      rcases hrc with q | q
      · omega
      · split at q
        · exact ⟨_, _, rfl, by simpa using q⟩
        · cases q
    have hstk : st.map (lm_tv ρ) = (tl.map (lm_tv ρ)).reverse ++ .ref (ρ o) :: st'.map (lm_tv ρ) := by rw [hst]; simp [lm_tv]
    have hlen : (tl.map (lm_tv ρ)).length = (lm_mi (en.2.1 / 2048)).2.2.2.2.2.1 := by simp at halen; simp; omega
    have hwsM : lm_wsM (en.2.1 / 2048) = Cond.code (lm_mi (en.2.1 / 2048)).1 (lm_mi (en.2.1 / 2048)).2.1 (lm_mi (en.2.1 / 2048)).2.2.1 none :: lm_good := by unfold lm_wsM; rw [hret]
    refine lm_run_fin (aa := (Value.ref (ρ o) :: tl.map (lm_tv ρ)).toArray) hA h ?_ h0 h1 host hvr k
    rcases t1 with ⟨-, hw⟩ | ⟨-, hw⟩
    · exact va_runI (b := ρ o) (As := tl.map (lm_tv ρ)) ⟨hx, hb, hml, hown, hts⟩ hM ⟨callB_of _ hts (lm_wsM_good t2) hwsM rfl rfl (hts _ (lm_tbm s3 rfl)) (by rw [← e2]; exact hts _ (lm_tbm hw rfl)) s5 hroom, q2, hts _ (lm_tbm s1 rfl)⟩ ⟨lm_blind, hPc⟩ rfl hlen hsz hstk hsum' hdec hfit
    · exact va_runIN (b := ρ o) (As := tl.map (lm_tv ρ)) ⟨hx, hb, hml, hown, hts⟩ hM ⟨va_cnB _ hts (lm_wsM_good t2) hwsM rfl rfl (by rw [← e2]; exact va_Nw.of rfl (hts _ (lm_tbm hw rfl))) (hts _ (lm_tbm s3 rfl)) s5 hroom, q2, hts _ (lm_tbm s1 rfl)⟩ ⟨lm_blind, hPc⟩ rfl hlen hsz hstk hsum' hdec hfit
  · -- a static method
    subst er
    rw [if_pos q1] at s1 t3 t4
    have hstk : st.map (lm_tv ρ) = (as.map (lm_tv ρ)).reverse ++ st'.map (lm_tv ρ) := by rw [hst]; simp
    have hlen : (as.map (lm_tv ρ)).length = (lm_mi (en.2.1 / 2048)).2.2.2.2.2.1 := by simp; omega
    refine lm_run_fin (aa := (as.map (lm_tv ρ)).toArray) hA h ?_ h0 h1 host hvr k
    rcases t1 with ⟨-, hw⟩ | ⟨-, hw⟩
    · exact va_runS (As := as.map (lm_tv ρ)) ⟨hx, hb, hml, hown, hts⟩ hM ⟨callB_of _ hts (lm_wsM_good t2) rfl rfl rfl (hts _ (lm_tbm s3 rfl)) (by rw [← e2]; exact hts _ (lm_tbm hw rfl)) s5 hroom, hts _ (lm_tbm s1 rfl)⟩ ⟨lm_blind, hPc⟩ rfl hlen hsz hstk hsum' hdec hfit
    · exact va_runSN (As := as.map (lm_tv ρ)) ⟨hx, hb, hml, hown, hts⟩ hM ⟨va_cnB _ hts (lm_wsM_good t2) rfl rfl rfl (by rw [← e2]; exact va_Nw.of rfl (hts _ (lm_tbm hw rfl))) (hts _ (lm_tbm s3 rfl)) s5 hroom, hts _ (lm_tbm s1 rfl), trivial⟩ ⟨lm_blind, hPc⟩ rfl hlen hsz hstk hsum' hdec hfit
end LMCALL
