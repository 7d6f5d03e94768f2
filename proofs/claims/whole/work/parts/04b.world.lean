/-! ===== the light memory as a world of the kit ===== -/
def lm_tv (ρ : Nat → Nat) : Value → Value
  | .ref i => .ref (ρ i)
  | v => v
def lm_okv (n : Nat) : Value → Prop
  | .ref i => i < n ∨ lm_B ≤ i
  | .double _ => False
  | _ => True
def lm_oks (n : Nat) (st : List Value) : Prop := ∀ v ∈ st, lm_okv n v
theorem lm_oks_nil {n : Nat} : lm_oks n [] := fun _ h => by cases h
theorem lm_oks_cons {n : Nat} {v : Value} {st : List Value} : lm_oks n (v :: st) ↔ lm_okv n v ∧ lm_oks n st := by simp [lm_oks]
theorem lm_okv_mono {n k : Nat} {v : Value} (h : n ≤ k) (hv : lm_okv n v) : lm_okv k v := by
  cases v with
  | ref i => rcases hv with q | q
             · exact Or.inl (Nat.lt_of_lt_of_le q h)
             · exact Or.inr q
  | double x => exact hv
  | _ => trivial
theorem lm_oks_mono {n k : Nat} {st : List Value} (h : n ≤ k) (hv : lm_oks n st) : lm_oks k st := fun v q => lm_okv_mono h (hv v q)
theorem lm_tv_cat (ρ : Nat → Nat) (v : Value) : (lm_tv ρ v).category = v.category := by cases v <;> rfl
theorem lm_tv_sum (ρ : Nat → Nat) (st : List Value) : ((st.map (lm_tv ρ)).map fun v => v.category) = st.map fun v => v.category := by
  simp [Function.comp_def, lm_tv_cat]
theorem lm_tv_ne {ρ : Nat → Nat} {v : Value} (h : lm_tv ρ v = .null) : v = .null := by cases v <;> simp_all [lm_tv]
theorem lm_tv_ext {ρ ρ' : Nat → Nat} {n : Nat} (h : ∀ i, (i < n ∨ lm_B ≤ i) → ρ' i = ρ i) {v : Value} (hv : lm_okv n v) : lm_tv ρ' v = lm_tv ρ v := by
  cases v with
  | ref i => exact congrArg Value.ref (h i hv)
  | _ => rfl
theorem lm_tvs_ext {ρ ρ' : Nat → Nat} {n : Nat} (h : ∀ i, (i < n ∨ lm_B ≤ i) → ρ' i = ρ i) {st : List Value} (hv : lm_oks n st) : st.map (lm_tv ρ') = st.map (lm_tv ρ) :=
  List.map_congr_left fun v q => lm_tv_ext h (hv v q)
def lm_fv (ρ : Nat → Nat) (M : lm_M) (t o k : Nat) : Value := match lm_kd (lm_cy t k) with
  | 0 => .int (M.2.1 o k)
  | 1 => .long (M.2.2.1 o k)
  | 3 => .int (M.2.1 o k)
  | _ => lm_tv ρ (M.2.2.2 o k)
def lm_cell (cA : Nat → ClassId) (ρ : Nat → Nat) (M : lm_M) (o : Nat) : va_E :=
  if (M.1.2.2 o).1 < 11 then .inr ((M.1.2.2 o).1, (List.range (lm_cN (M.1.2.2 o).1)).map (lm_fv ρ M (M.1.2.2 o).1 o))
  else if (M.1.2.2 o).1 = 22 then .inl (cA 22, (M.1.2.2 o).2, .inr (.inl (M.2.2.1 o)))
  else .inl (cA (M.1.2.2 o).1, (M.1.2.2 o).2, .inl (M.2.1 o))
def lm_ws (cA : Nat → ClassId) (ρ : Nat → Nat) (M : lm_M) : va_W := (List.range M.1.1).map (fun o => (ρ o, lm_cell cA ρ M o))
theorem lm_ws_at {cA : Nat → ClassId} {ρ : Nat → Nat} {M : lm_M} {o : Nat} (h : o < M.1.1) : (lm_ws cA ρ M)[o]? = some (ρ o, lm_cell cA ρ M o) := by simp [lm_ws, h]
theorem lm_ws_none {cA : Nat → ClassId} {ρ : Nat → Nat} {M : lm_M} {o : Nat} (h : M.1.1 ≤ o) : (lm_ws cA ρ M)[o]? = none := by simp [lm_ws, h]
theorem lm_ws_set {cA : Nat → ClassId} {ρ : Nat → Nat} {M M' : lm_M} {o : Nat} (h1 : M'.1.1 = M.1.1) (ho : o < M.1.1) (h2 : ∀ o', o' ≠ o → o' < M.1.1 → lm_cell cA ρ M' o' = lm_cell cA ρ M o') :
    (lm_ws cA ρ M).set o (ρ o, lm_cell cA ρ M' o) = lm_ws cA ρ M' := by
  apply List.ext_getElem?
  intro k
  rw [List.getElem?_set]
  by_cases hk : k < M.1.1
  · rw [lm_ws_at (M := M') (by omega)]
    by_cases e : o = k
    · subst e; simp [lm_ws, ho]
    · rw [if_neg e, lm_ws_at hk, h2 k (fun q => e q.symm) hk]
  · rw [lm_ws_none (M := M') (by omega), lm_ws_none (by omega), if_neg (by omega)]
theorem lm_ws_push {cA : Nat → ClassId} {ρ ρ' : Nat → Nat} {M M' : lm_M} (h1 : M'.1.1 = M.1.1 + 1) (h2 : ∀ o, o < M.1.1 → ρ' o = ρ o ∧ lm_cell cA ρ' M' o = lm_cell cA ρ M o) :
    lm_ws cA ρ M ++ [(ρ' M.1.1, lm_cell cA ρ' M' M.1.1)] = lm_ws cA ρ' M' := by
  unfold lm_ws
  rw [h1, List.range_succ, List.map_append]
  congr 1
  refine List.map_congr_left fun o ho => ?_
  have := h2 o (List.mem_range.mp ho)
  rw [this.1, this.2]
abbrev lm_tys (cA : Nat → ClassId) : List (ClassId × FieldType) := [(cA 21, .int), (cA 22, .long), (cA 23, .boolean), (cA 24, .byte)]
def lm_costs : List Int32 := [1, 1, 2, 2, 3, 4, 4, 4]
/-- what a light memory always is -/
def lm_wk (M : lm_M) : Prop := M.1.1 ≤ lm_B ∧ (∀ o, o < M.1.1 → (M.1.2.2 o).1 < 11 ∨ (21 ≤ (M.1.2.2 o).1 ∧ (M.1.2.2 o).1 ≤ 24)) ∧ (∀ o, M.1.1 ≤ o → o < lm_B → (M.1.2.2 o).1 = 99) ∧ (∀ o, lm_B ≤ o → 30 ≤ (M.1.2.2 o).1) ∧ (∀ o, lm_B ≤ o → (M.1.2.2 o).1 = 30 → o = lm_B + 10 ∧ (M.1.2.2 o).2 = 8) ∧ (∀ o k, lm_okv M.1.1 (M.2.2.2 o k)) ∧ ∀ j, j < 8 → M.2.1 (lm_B + 10) j = lm_costs.getD j 0
theorem lm_wk_lt {M : lm_M} (h : lm_wk M) {o : Nat} (ht : (M.1.2.2 o).1 < 11 ∨ (21 ≤ (M.1.2.2 o).1 ∧ (M.1.2.2 o).1 ≤ 24)) : o < M.1.1 := by
  obtain ⟨h1, h2, h3, h4, h5, h6, h7⟩ := h
  rcases Nat.lt_or_ge o M.1.1 with q | q
  · exact q
  · rcases Nat.lt_or_ge o lm_B with q2 | q2
    · have := h3 o q q2; omega
    · have := h4 o q2; omega
/-- the special cells, and what is known of them -/
def lm_lens : List Nat := lm_str.map List.length
def lm_byts : List (List Int32) := lm_str.map (fun t => t.map Int32.ofNat)
def lm_X (ρ : Nat → Nat) (A : Nat → Prop) (U : State) (H : Heap) : Prop :=
  va_Z "ConflictPlaces" "COSTS" "[I" (.ref (ρ (lm_B + 10))) A U H ∧ va_T .int (ρ (lm_B + 10)) 8 (fun j => .int (lm_costs.getD j 0)) A U H ∧
  (∃ adV : Nat → Nat, vk_S 4 lm_lens lm_byts (fun i => ρ (lm_B + i)) adV A U H) ∧ va_Z "java/lang/String" "COMPACT_STRINGS" "Z" (.int 1) A U H ∧
  (∃ v : Value, (v = .null ∨ ∃ a, v = .ref a) ∧ va_Z "jdk/internal/util/Preconditions" "SIOOBE_FORMATTER" "Ljava/util/function/BiFunction;" v A U H) ∧
  (∀ e ∈ lm_tS, vk_R (lm_oR (e.1 / 10000)) (e.1 % 10000) (lm_strs.getD e.2.1 "") (ρ (lm_B + e.2.1)) U)
theorem lm_X.same {ρ : Nat → Nat} {A : Nat → Prop} {u U : State} {H : Heap} (hv : U.vm = u.vm) (h : lm_X ρ A u H) : lm_X ρ A U H := by
  obtain ⟨h1, h2, ⟨adV, h3⟩, h4, ⟨v, hv2, h5⟩, h6⟩ := h
  have ha : u.vm.Alike U.vm := by rw [hv]; exact Vm.Alike.refl _
  exact ⟨h1.moved ha, h2.moved ha, ⟨adV, h3.moved ha⟩, h4.moved ha, ⟨v, hv2, h5.moved ha⟩, fun e he => (h6 e he).same hv⟩
theorem lm_X.warm {ρ : Nat → Nat} {A : Nat → Prop} {u U : State} {H : Heap} (hW : u.WarmedH U.vm) (h : lm_X ρ A u H) : lm_X ρ A U H := by
  obtain ⟨h1, h2, ⟨adV, h3⟩, h4, ⟨v, hv2, h5⟩, h6⟩ := h
  exact ⟨h1.moved hW.alike, h2.moved hW.alike, ⟨adV, h3.moved hW.alike⟩, h4.moved hW.alike, ⟨v, hv2, h5.moved hW.alike⟩, fun e he => (h6 e he).warm hW⟩
theorem lm_X.kept {ρ : Nat → Nat} {A : Nat → Prop} {U : State} {H H1 : Heap} (h : lm_X ρ A U H) (hq : ∀ a : Nat, a < H.size → ¬ A a → H1[a]? = H[a]?) : lm_X ρ A U H1 := by
  obtain ⟨h1, h2, ⟨adV, h3⟩, h4, ⟨v, hv2, h5⟩, h6⟩ := h
  exact ⟨h1.kept hq, h2.kept hq, ⟨adV, h3.kept hq⟩, h4.kept hq, ⟨v, hv2, h5.kept hq⟩, h6⟩
theorem lm_X.narrow {ρ : Nat → Nat} {A B : Nat → Prop} {U : State} {H : Heap} (h : lm_X ρ A U H) (hq : ∀ q, B q → A q) : lm_X ρ B U H := by
  obtain ⟨h1, h2, ⟨adV, h3⟩, h4, ⟨v, hv2, h5⟩, h6⟩ := h
  exact ⟨h1.narrow hq, h2.narrow hq, ⟨adV, h3.narrow hq⟩, h4.narrow hq, ⟨v, hv2, h5.narrow hq⟩, h6⟩
theorem lm_tS_lt : ∀ e ∈ lm_tS, e.2.1 < 4 := by decide +kernel
theorem lm_X.ext {ρ ρ' : Nat → Nat} {A : Nat → Prop} {U : State} {H : Heap} (h : lm_X ρ A U H) (hr : ∀ i, lm_B ≤ i → ρ' i = ρ i) : lm_X ρ' A U H := by
  obtain ⟨h1, h2, ⟨adV, h3⟩, h4, ⟨v, hv2, h5⟩, h6⟩ := h
  refine ⟨by rw [hr _ (by omega)]; exact h1, by rw [hr _ (by omega)]; exact h2, ⟨adV, ?_⟩, h4, ⟨v, hv2, h5⟩, fun e he => by rw [hr _ (by omega)]; exact h6 e he⟩
  have e : (fun i => ρ' (lm_B + i)) = fun i => ρ (lm_B + i) := funext fun i => hr _ (by omega)
  rw [e]; exact h3
/-- locals -/
def lm_has (ρ : Nat → Nat) (cs : Array Slot) (nL : Nat) (ls : List Value) : Prop := cs.size = nL ∧ lv_wf cs ∧ ls.length = nL ∧ ∀ (i : Nat) (v : Value), ls[i]? = some v → v ≠ .null → cs[i]? = some (.val (lm_tv ρ v))
def lm_lv (ρ : Nat → Nat) (ls : List Value) : List (Nat × Value) := (List.range ls.length).filterMap (fun i => match ls[i]? with
  | some v => if v = .null then none else some (i, lm_tv ρ v)
  | none => none)
theorem lm_lv_mem {ρ : Nat → Nat} {ls : List Value} {q : Nat × Value} (h : q ∈ lm_lv ρ ls) : ∃ v, ls[q.1]? = some v ∧ v ≠ .null ∧ q.2 = lm_tv ρ v := by
  obtain ⟨i, hi, h⟩ := List.mem_filterMap.mp h
  split at h
  · rename_i v hv
    split at h
    · cases h
    · rename_i hn
      cases h
      exact ⟨v, hv, hn, rfl⟩
  · cases h
theorem lm_mem_lv {ρ : Nat → Nat} {ls : List Value} {i : Nat} {v : Value} (h : ls[i]? = some v) (hn : v ≠ .null) : (i, lm_tv ρ v) ∈ lm_lv ρ ls := by
  refine List.mem_filterMap.mpr ⟨i, List.mem_range.mpr (List.getElem?_eq_some_iff.mp h).1, ?_⟩
  simp [h, hn]
theorem lm_has_lv {ρ : Nat → Nat} {cs : Array Slot} {nL : Nat} {ls : List Value} (h : lm_has ρ cs nL ls) : lv_has cs nL (lm_lv ρ ls) := by
  refine ⟨h.1, h.2.1, fun q hq => ?_⟩
  obtain ⟨v, h1, h2, h3⟩ := lm_lv_mem hq
  rw [h3]
  exact h.2.2.2 q.1 v h1 h2
theorem lm_cut_len {ls : List Value} {i : Nat} : (lm_cut ls i).length = ls.length := by
  unfold lm_cut
  split
  · rfl
  · split
    · simp
    · rfl
theorem lm_cut_at {ls : List Value} {i k : Nat} {v : Value} (h : (lm_cut ls i)[k]? = some v) (hn : v ≠ .null) : ls[k]? = some v ∧ ¬ (k + 1 = i ∧ ∃ x, v = .long x) := by
  unfold lm_cut at h
  split at h
  · exact ⟨h, fun q => by omega⟩
  · split at h
    · rename_i _ j _ x hx
      rw [List.getElem?_set] at h
      by_cases e : j = k
      · rw [if_pos e] at h
        split at h
        · cases h; exact absurd rfl hn
        · cases h
      · rw [if_neg e] at h
        exact ⟨h, fun q => e (by omega)⟩
    · rename_i _ j _ hx
      refine ⟨h, fun q => ?_⟩
      obtain ⟨q1, x, q2⟩ := q
      have : k = j := by omega
      subst this; subst q2
      exact hx x h
theorem lm_okL {n : Nat} {ls : List Value} (h : lm_oks n ls) {k : Nat} {v : Value} (hk : ls[k]? = some v) (hc : v.category = 2) : ∃ x, v = .long x := by
  have hv := h v (List.mem_of_getElem? hk)
  cases v with
  | long x => exact ⟨x, rfl⟩
  | double x => exact hv.elim
  | _ => simp [Value.category] at hc
theorem lm_has_set1 {ρ : Nat → Nat} {cs' : Array Slot} {nL i : Nat} {ls : List Value} {v : Value} (hlen : ls.length = nL)
    (h' : lv_has cs' nL ((i, lm_tv ρ v) :: (lm_lv ρ ls).filter (fun q => !(q.1 == i) && !(q.1 + 1 == i && q.2.category == 2)))) {n : Nat} (hok : lm_oks n ls) : lm_has ρ cs' nL (lm_set1 ls i v) := by
  refine ⟨h'.1, h'.2.1, by simp [lm_set1, lm_cut_len, hlen], fun k w hk hn => ?_⟩
  unfold lm_set1 at hk
  rw [List.getElem?_set] at hk
  by_cases e : i = k
  · subst e
    rw [if_pos rfl] at hk
    split at hk
    · cases hk
      exact h'.2.2 _ List.mem_cons_self
    · cases hk
  · rw [if_neg e] at hk
    obtain ⟨h1, h2⟩ := lm_cut_at hk hn
    refine h'.2.2 (k, lm_tv ρ w) (List.mem_cons_of_mem _ (List.mem_filter.mpr ⟨lm_mem_lv h1 hn, ?_⟩))
    simp only [lm_tv_cat, Bool.and_eq_true, Bool.not_eq_true', beq_eq_false_iff_ne, Bool.and_eq_false_iff]
    refine ⟨fun q => e q.symm, ?_⟩
    by_cases hc : w.category = 2
    · exact Or.inl (fun q => h2 ⟨q, lm_okL hok h1 hc⟩)
    · exact Or.inr hc
theorem lm_has_set2 {ρ : Nat → Nat} {cs' : Array Slot} {nL i : Nat} {ls : List Value} {v : Value} (hlen : ls.length = nL)
    (h' : lv_has cs' nL ((i, lm_tv ρ v) :: (lm_lv ρ ls).filter (fun q => !(q.1 == i) && (!(q.1 == i + 1) && !(q.1 + 1 == i && q.2.category == 2))))) {n : Nat} (hok : lm_oks n ls) : lm_has ρ cs' nL (lm_set2 ls i v) := by
  refine ⟨h'.1, h'.2.1, by simp [lm_set2, lm_cut_len, hlen], fun k w hk hn => ?_⟩
  unfold lm_set2 at hk
  rw [List.getElem?_set] at hk
  by_cases e2 : i + 1 = k
  · rw [if_pos e2] at hk
    split at hk
    · cases hk; exact absurd rfl hn
    · cases hk
  · rw [if_neg e2, List.getElem?_set] at hk
    by_cases e : i = k
    · subst e
      rw [if_pos rfl] at hk
      split at hk
      · cases hk
        exact h'.2.2 _ List.mem_cons_self
      · cases hk
    · rw [if_neg e] at hk
      obtain ⟨h1, h2⟩ := lm_cut_at hk hn
      refine h'.2.2 (k, lm_tv ρ w) (List.mem_cons_of_mem _ (List.mem_filter.mpr ⟨lm_mem_lv h1 hn, ?_⟩))
      simp only [lm_tv_cat, Bool.and_eq_true, Bool.not_eq_true', beq_eq_false_iff_ne, Bool.and_eq_false_iff]
      refine ⟨fun q => e q.symm, fun q => e2 q.symm, ?_⟩
      by_cases hc : w.category = 2
      · exact Or.inl (fun q => h2 ⟨q, lm_okL hok h1 hc⟩)
      · exact Or.inr hc
theorem lm_cut_oks {n : Nat} {ls : List Value} {i : Nat} (h : lm_oks n ls) : lm_oks n (lm_cut ls i) := by
  unfold lm_cut
  split
  · exact h
  · split
    · intro v hv
      rcases List.mem_or_eq_of_mem_set hv with q | q
      · exact h v q
      · rw [q]; trivial
    · exact h
theorem lm_set1_oks {n : Nat} {ls : List Value} {i : Nat} {v : Value} (h : lm_oks n ls) (hv : lm_okv n v) : lm_oks n (lm_set1 ls i v) := by
  intro w hw
  rcases List.mem_or_eq_of_mem_set hw with q | q
  · exact lm_cut_oks h w q
  · rw [q]; exact hv
theorem lm_set2_oks {n : Nat} {ls : List Value} {i : Nat} {v : Value} (h : lm_oks n ls) (hv : lm_okv n v) : lm_oks n (lm_set2 ls i v) := by
  intro w hw
  rcases List.mem_or_eq_of_mem_set hw with q | q
  · rcases List.mem_or_eq_of_mem_set q with q2 | q2
    · exact lm_cut_oks h w q2
    · rw [q2]; exact hv
  · rw [q]; trivial
