/-! ===== the simulation: one method's frame, over a light run ===== -/
def lm_isN : Cond → Bool
  | .fieldLinkNest .. => true
  | .methodLinkNest .. => true
  | _ => false
/-- the tables' words that are of use here, and stay when the machine goes on -/
def lm_use (w : Cond) : Bool := goodWord w || lm_isN w
def lm_tb : List Cond := lw_tbl.filter lm_use
theorem lm_tbm {w : Cond} (h : w ∈ lw_tbl) (hu : lm_use w = true) : w ∈ lm_tb := List.mem_filter.mpr ⟨h, hu⟩
/-- what holds during one method: the machine, its code, the tables' words, the array classes, which cells may change -/
def lm_ctx (p : Program) (s : State) (m : MethodId) (args : Array Value) (meth : Method) (c : Code) (D : va_G) (cA : Nat → ClassId) (A : Nat → Prop) (ρ0 : Nat → Nat) (cn : Nat) (ini : Bool) (cc : ByteArray) (nL : Nat) : Prop :=
  p.tables.exec = Jvm.exec ∧ c.code = cc ∧ c.maxLocals = nL ∧ s.vm.findClass (lm_oR cn) = some m.cls ∧ (∀ w ∈ lm_tb, w.before args s = true) ∧ va_K D lm_cl (lm_tys cA) s ∧ (∀ q, s.heap.size ≤ q → A q) ∧ (ini = true → meth.name = "<init>") ∧ lm_X ρ0 A s s.heap ∧ meth.locks = false
def lm_rel (s : State) (D : va_G) (cA : Nat → ClassId) (A : Nat → Prop) (ρ0 : Nat → Nat) (n0 nL : Nat) (ρ : Nat → Nat) (H : Heap) (locs : List Loc) (cs : Array Slot) (ls : List Value) (M : lm_M) : Prop :=
  va_P D lm_cl (lm_ws cA ρ M) H ∧ va_D A (lm_ws cA ρ M) ∧ va_S A s.heap H locs ∧ lm_has ρ cs nL ls ∧ lm_wk M ∧ lm_oks M.1.1 ls ∧ (∀ i, (i < n0 ∨ lm_B ≤ i) → ρ i = ρ0 i) ∧ n0 ≤ M.1.1
def lm_G (p : Program) (l : Launch) (e : Env) (R : Room) (s : State) (m : MethodId) (args : Array Value) (below : List Frame) (meth : Method) (c : Code) (Q : State → Prop) (D : va_G) (cA : Nat → ClassId) (A : Nat → Prop) (ρ0 : Nat → Nat) (M0 : lm_M) (nL : Nat) (pc : Nat) (ls st : List Value) (M : lm_M) : Prop :=
  ∀ (ρ : Nat → Nat) (H : Heap) (locs : List Loc) (cs : Array Slot), lm_rel s D cA A ρ0 M0.1.1 nL ρ H locs cs ls M → lm_oks M.1.1 st → W p l e R s m args below meth c H locs (M.1.1 - M0.1.1) (M.1.2.1 - M0.1.2.1) Q (F0 m pc cs (st.map (lm_tv ρ)))
theorem lm_cl_at {k : Nat} (h : k < 11) : lm_cl[k]? = some (lm_cR k, lm_cT k, lm_cN k) := by
  rcases (show k = 0 ∨ k = 1 ∨ k = 2 ∨ k = 3 ∨ k = 4 ∨ k = 5 ∨ k = 6 ∨ k = 7 ∨ k = 8 ∨ k = 9 ∨ k = 10 by omega) with rfl | rfl | rfl | rfl | rfl | rfl | rfl | rfl | rfl | rfl | rfl <;> rfl
theorem lm_in_of {C : String} {T : u_T} {N : Nat} {ps : List Nat} (h : u_ws C T N = ps.filterMap (fun i => lw_tbl[i]?)) : ∀ w ∈ u_ws C T N, w ∈ lm_tb := by
  intro w hw
  have hg : lm_use w = true := by
    obtain ⟨k, -, rfl⟩ := List.mem_map.mp hw
    unfold u_lay
    split <;> rfl
  rw [h] at hw
  obtain ⟨i, -, hi⟩ := List.mem_filterMap.mp hw
  exact lm_tbm (List.mem_of_getElem? hi) hg
theorem lm_cl_in {k : Nat} (h : k < 11) : ∀ w ∈ u_ws (lm_cR k) (lm_cT k) (lm_cN k), w ∈ lm_tb := by
  rcases (show k = 0 ∨ k = 1 ∨ k = 2 ∨ k = 3 ∨ k = 4 ∨ k = 5 ∨ k = 6 ∨ k = 7 ∨ k = 8 ∨ k = 9 ∨ k = 10 by omega) with rfl | rfl | rfl | rfl | rfl | rfl | rfl | rfl | rfl | rfl | rfl
  · exact lm_in_of lm_in0
  · exact lm_in_of lm_in1
  · exact lm_in_of lm_in2
  · exact lm_in_of lm_in3
  · exact lm_in_of lm_in4
  · exact lm_in_of lm_in5
  · exact lm_in_of lm_in6
  · exact lm_in_of lm_in7
  · exact lm_in_of lm_in8
  · exact lm_in_of lm_in9
  · exact lm_in_of lm_in10
theorem lm_cl_ty {k : Nat} (h : k < 11) : ∀ j, j < lm_cN k → parseFieldDescriptor (lm_cT k j).2.2.1 = some (lm_cy k j) := by
  rcases (show k = 0 ∨ k = 1 ∨ k = 2 ∨ k = 3 ∨ k = 4 ∨ k = 5 ∨ k = 6 ∨ k = 7 ∨ k = 8 ∨ k = 9 ∨ k = 10 by omega) with rfl | rfl | rfl | rfl | rfl | rfl | rfl | rfl | rfl | rfl | rfl
  · exact tyX0_ok
  · exact tyX1_ok
  · exact tyX2_ok
  · exact tyX3_ok
  · exact tyX4_ok
  · exact tyX5_ok
  · exact tyX6_ok
  · exact tyX7_ok
  · exact tyX8_ok
  · exact tyX9_ok
  · exact tyX10_ok
theorem lm_cl_nm {k : Nat} (h : k < 11) : ∀ a, a < lm_cN k → ∀ b, b < lm_cN k → a ≠ b → (lm_cT k a).2.1 ≠ (lm_cT k b).2.1 := by
  rcases (show k = 0 ∨ k = 1 ∨ k = 2 ∨ k = 3 ∨ k = 4 ∨ k = 5 ∨ k = 6 ∨ k = 7 ∨ k = 8 ∨ k = 9 ∨ k = 10 by omega) with rfl | rfl | rfl | rfl | rfl | rfl | rfl | rfl | rfl | rfl | rfl
  · exact nmX0
  · exact nmX1
  · exact nmX2
  · exact nmX3
  · exact nmX4
  · exact nmX5
  · exact nmX6
  · exact nmX7
  · exact nmX8
  · exact nmX9
  · exact nmX10
theorem lm_cl_own {k j : Nat} (h : k < 11) (hj : j < lm_cN k) : (lm_cT k j).1 = lm_cR k := by
  have hall : (List.range 11).all (fun k => (List.range (lm_cN k)).all (fun j => (lm_cT k j).1 == lm_cR k)) = true := by decide +kernel
  have h1 := List.all_eq_true.mp hall k (List.mem_range.mpr h)
  have h2 := List.all_eq_true.mp h1 j (List.mem_range.mpr hj)
  simpa using h2
theorem lm_oR_cR {k : Nat} (h : k < 11) : lm_oR k = lm_cR k := by
  rcases (show k = 0 ∨ k = 1 ∨ k = 2 ∨ k = 3 ∨ k = 4 ∨ k = 5 ∨ k = 6 ∨ k = 7 ∨ k = 8 ∨ k = 9 ∨ k = 10 by omega) with rfl | rfl | rfl | rfl | rfl | rfl | rfl | rfl | rfl | rfl | rfl <;> rfl
/-- writing one cell -/
theorem lm_cell_obj {cA : Nat → ClassId} {ρ : Nat → Nat} {M : lm_M} {o : Nat} (h : (M.1.2.2 o).1 < 11) : lm_cell cA ρ M o = .inr ((M.1.2.2 o).1, (List.range (lm_cN (M.1.2.2 o).1)).map (lm_fv ρ M (M.1.2.2 o).1 o)) := if_pos h
theorem lm_cell_arr {cA : Nat → ClassId} {ρ : Nat → Nat} {M : lm_M} {o t : Nat} (h : (M.1.2.2 o).1 = t) (h1 : ¬ t < 11) (h2 : t ≠ 22) : lm_cell cA ρ M o = .inl (cA t, (M.1.2.2 o).2, .inl (M.2.1 o)) := by
  unfold lm_cell; rw [h, if_neg h1, if_neg h2]
theorem lm_cell_long {cA : Nat → ClassId} {ρ : Nat → Nat} {M : lm_M} {o : Nat} (h : (M.1.2.2 o).1 = 22) : lm_cell cA ρ M o = .inl (cA 22, (M.1.2.2 o).2, .inr (.inl (M.2.2.1 o))) := by
  unfold lm_cell; rw [h, if_neg (by decide), if_pos rfl]
theorem lm_cell_congr {cA : Nat → ClassId} {ρ ρ' : Nat → Nat} {M M' : lm_M} {o : Nat} (h0 : M'.1.2.2 o = M.1.2.2 o) (h1 : M'.2.1 o = M.2.1 o) (h2 : M'.2.2.1 o = M.2.2.1 o) (h3 : ∀ k, lm_tv ρ' (M'.2.2.2 o k) = lm_tv ρ (M.2.2.2 o k)) : lm_cell cA ρ' M' o = lm_cell cA ρ M o := by
  have e : ∀ t, lm_fv ρ' M' t o = lm_fv ρ M t o := fun t => funext fun k => by
    unfold lm_fv
    rw [h1, h2, h3 k]
  unfold lm_cell
  rw [h0, h1, h2, e]
theorem lm_up_ne {α : Type} {f : Nat → Nat → α} {o k : Nat} {x : α} {a : Nat} (h : a ≠ o) : lm_up f o k x a = f a := funext fun b => if_neg h
theorem lm_up_same {α : Type} {f : Nat → Nat → α} {o k : Nat} {x : α} : lm_up f o k x o = fun b => if b = k then x else f o b := funext fun b => if_pos rfl
theorem lm_z_ne {α : Type} {f : Nat → Nat → α} {o : Nat} {x : α} {a : Nat} (h : a ≠ o) : lm_z f o x a = f a := funext fun b => if_neg h
theorem lm_z_same {α : Type} {f : Nat → Nat → α} {o : Nat} {x : α} : lm_z f o x o = fun _ => x := funext fun b => if_pos rfl
