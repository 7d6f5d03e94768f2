/-! ===== rows for symbolic runs: what must be known stands ahead, as a conjunct ===== -/
def lm_isI : Value → Bool
  | .int _ => true
  | _ => false
def lm_isL : Value → Bool
  | .long _ => true
  | _ => false
def lm_isR : Value → Bool
  | .ref _ => true
  | _ => false
def lm_vi : Value → Int32
  | .int x => x
  | _ => 0
theorem lm_isI_i {x : Int32} : lm_isI (.int x) = true := rfl
theorem lm_isL_l {x : Int64} : lm_isL (.long x) = true := rfl
theorem lm_isR_r {x : Nat} : lm_isR (.ref x) = true := rfl
theorem lm_vi_i {x : Int32} : lm_vi (.int x) = x := rfl
section LWX
variable {d mi pc : Nat} {c : lm_C} {ls st : List Value} {S : lm_S} {I : lm_I} {L : lm_L} {R : lm_R} {Q : Option Value → lm_M → Prop}
theorem lwx_iload {k : Nat} : lw d mi ((pc, .iload k) :: c) ls st (S, I, L, R) Q = (lm_isI (ls.getD k .null) = true ∧ lw d mi c ls (ls.getD k .null :: st) (S, I, L, R) Q) := by
  rw [List.getD_eq_getElem?_getD]
  cases h : ls[k]? with
  | none => exact (lw_stuck (by show lm_ldI k c ls st (S, I, L, R) = _; unfold lm_ldI; rw [h])).trans (by simp [lm_isI])
  | some v =>
    cases v with
    | int x => exact (lw_next (by show lm_ldI k c ls st (S, I, L, R) = _; unfold lm_ldI; rw [h]; rfl)).trans (by simp [lm_isI])
    | _ => exact (lw_stuck (by show lm_ldI k c ls st (S, I, L, R) = _; unfold lm_ldI; rw [h])).trans (by simp [lm_isI])
theorem lwx_iload_0  : lw d mi ((pc, .iload_n 0) :: c) ls st (S, I, L, R) Q = (lm_isI (ls.getD 0 .null) = true ∧ lw d mi c ls (ls.getD 0 .null :: st) (S, I, L, R) Q) := by
  rw [List.getD_eq_getElem?_getD]
  cases h : ls[0]? with
  | none => exact (lw_stuck (by show lm_ldI 0 c ls st (S, I, L, R) = _; unfold lm_ldI; rw [h])).trans (by simp [lm_isI])
  | some v =>
    cases v with
    | int x => exact (lw_next (by show lm_ldI 0 c ls st (S, I, L, R) = _; unfold lm_ldI; rw [h]; rfl)).trans (by simp [lm_isI])
    | _ => exact (lw_stuck (by show lm_ldI 0 c ls st (S, I, L, R) = _; unfold lm_ldI; rw [h])).trans (by simp [lm_isI])
theorem lwx_iload_1  : lw d mi ((pc, .iload_n 1) :: c) ls st (S, I, L, R) Q = (lm_isI (ls.getD 1 .null) = true ∧ lw d mi c ls (ls.getD 1 .null :: st) (S, I, L, R) Q) := by
  rw [List.getD_eq_getElem?_getD]
  cases h : ls[1]? with
  | none => exact (lw_stuck (by show lm_ldI 1 c ls st (S, I, L, R) = _; unfold lm_ldI; rw [h])).trans (by simp [lm_isI])
  | some v =>
    cases v with
    | int x => exact (lw_next (by show lm_ldI 1 c ls st (S, I, L, R) = _; unfold lm_ldI; rw [h]; rfl)).trans (by simp [lm_isI])
    | _ => exact (lw_stuck (by show lm_ldI 1 c ls st (S, I, L, R) = _; unfold lm_ldI; rw [h])).trans (by simp [lm_isI])
theorem lwx_iload_2  : lw d mi ((pc, .iload_n 2) :: c) ls st (S, I, L, R) Q = (lm_isI (ls.getD 2 .null) = true ∧ lw d mi c ls (ls.getD 2 .null :: st) (S, I, L, R) Q) := by
  rw [List.getD_eq_getElem?_getD]
  cases h : ls[2]? with
  | none => exact (lw_stuck (by show lm_ldI 2 c ls st (S, I, L, R) = _; unfold lm_ldI; rw [h])).trans (by simp [lm_isI])
  | some v =>
    cases v with
    | int x => exact (lw_next (by show lm_ldI 2 c ls st (S, I, L, R) = _; unfold lm_ldI; rw [h]; rfl)).trans (by simp [lm_isI])
    | _ => exact (lw_stuck (by show lm_ldI 2 c ls st (S, I, L, R) = _; unfold lm_ldI; rw [h])).trans (by simp [lm_isI])
theorem lwx_iload_3  : lw d mi ((pc, .iload_n 3) :: c) ls st (S, I, L, R) Q = (lm_isI (ls.getD 3 .null) = true ∧ lw d mi c ls (ls.getD 3 .null :: st) (S, I, L, R) Q) := by
  rw [List.getD_eq_getElem?_getD]
  cases h : ls[3]? with
  | none => exact (lw_stuck (by show lm_ldI 3 c ls st (S, I, L, R) = _; unfold lm_ldI; rw [h])).trans (by simp [lm_isI])
  | some v =>
    cases v with
    | int x => exact (lw_next (by show lm_ldI 3 c ls st (S, I, L, R) = _; unfold lm_ldI; rw [h]; rfl)).trans (by simp [lm_isI])
    | _ => exact (lw_stuck (by show lm_ldI 3 c ls st (S, I, L, R) = _; unfold lm_ldI; rw [h])).trans (by simp [lm_isI])
theorem lwx_lload {k : Nat} : lw d mi ((pc, .lload k) :: c) ls st (S, I, L, R) Q = (lm_isL (ls.getD k .null) = true ∧ lw d mi c ls (ls.getD k .null :: st) (S, I, L, R) Q) := by
  rw [List.getD_eq_getElem?_getD]
  cases h : ls[k]? with
  | none => exact (lw_stuck (by show lm_ldL k c ls st (S, I, L, R) = _; unfold lm_ldL; rw [h])).trans (by simp [lm_isL])
  | some v =>
    cases v with
    | long x => exact (lw_next (by show lm_ldL k c ls st (S, I, L, R) = _; unfold lm_ldL; rw [h]; rfl)).trans (by simp [lm_isL])
    | _ => exact (lw_stuck (by show lm_ldL k c ls st (S, I, L, R) = _; unfold lm_ldL; rw [h])).trans (by simp [lm_isL])
theorem lwx_lload_0  : lw d mi ((pc, .lload_n 0) :: c) ls st (S, I, L, R) Q = (lm_isL (ls.getD 0 .null) = true ∧ lw d mi c ls (ls.getD 0 .null :: st) (S, I, L, R) Q) := by
  rw [List.getD_eq_getElem?_getD]
  cases h : ls[0]? with
  | none => exact (lw_stuck (by show lm_ldL 0 c ls st (S, I, L, R) = _; unfold lm_ldL; rw [h])).trans (by simp [lm_isL])
  | some v =>
    cases v with
    | long x => exact (lw_next (by show lm_ldL 0 c ls st (S, I, L, R) = _; unfold lm_ldL; rw [h]; rfl)).trans (by simp [lm_isL])
    | _ => exact (lw_stuck (by show lm_ldL 0 c ls st (S, I, L, R) = _; unfold lm_ldL; rw [h])).trans (by simp [lm_isL])
theorem lwx_lload_1  : lw d mi ((pc, .lload_n 1) :: c) ls st (S, I, L, R) Q = (lm_isL (ls.getD 1 .null) = true ∧ lw d mi c ls (ls.getD 1 .null :: st) (S, I, L, R) Q) := by
  rw [List.getD_eq_getElem?_getD]
  cases h : ls[1]? with
  | none => exact (lw_stuck (by show lm_ldL 1 c ls st (S, I, L, R) = _; unfold lm_ldL; rw [h])).trans (by simp [lm_isL])
  | some v =>
    cases v with
    | long x => exact (lw_next (by show lm_ldL 1 c ls st (S, I, L, R) = _; unfold lm_ldL; rw [h]; rfl)).trans (by simp [lm_isL])
    | _ => exact (lw_stuck (by show lm_ldL 1 c ls st (S, I, L, R) = _; unfold lm_ldL; rw [h])).trans (by simp [lm_isL])
theorem lwx_lload_2  : lw d mi ((pc, .lload_n 2) :: c) ls st (S, I, L, R) Q = (lm_isL (ls.getD 2 .null) = true ∧ lw d mi c ls (ls.getD 2 .null :: st) (S, I, L, R) Q) := by
  rw [List.getD_eq_getElem?_getD]
  cases h : ls[2]? with
  | none => exact (lw_stuck (by show lm_ldL 2 c ls st (S, I, L, R) = _; unfold lm_ldL; rw [h])).trans (by simp [lm_isL])
  | some v =>
    cases v with
    | long x => exact (lw_next (by show lm_ldL 2 c ls st (S, I, L, R) = _; unfold lm_ldL; rw [h]; rfl)).trans (by simp [lm_isL])
    | _ => exact (lw_stuck (by show lm_ldL 2 c ls st (S, I, L, R) = _; unfold lm_ldL; rw [h])).trans (by simp [lm_isL])
theorem lwx_lload_3  : lw d mi ((pc, .lload_n 3) :: c) ls st (S, I, L, R) Q = (lm_isL (ls.getD 3 .null) = true ∧ lw d mi c ls (ls.getD 3 .null :: st) (S, I, L, R) Q) := by
  rw [List.getD_eq_getElem?_getD]
  cases h : ls[3]? with
  | none => exact (lw_stuck (by show lm_ldL 3 c ls st (S, I, L, R) = _; unfold lm_ldL; rw [h])).trans (by simp [lm_isL])
  | some v =>
    cases v with
    | long x => exact (lw_next (by show lm_ldL 3 c ls st (S, I, L, R) = _; unfold lm_ldL; rw [h]; rfl)).trans (by simp [lm_isL])
    | _ => exact (lw_stuck (by show lm_ldL 3 c ls st (S, I, L, R) = _; unfold lm_ldL; rw [h])).trans (by simp [lm_isL])
theorem lwx_aload {k : Nat} : lw d mi ((pc, .aload k) :: c) ls st (S, I, L, R) Q = (lm_isR (ls.getD k .null) = true ∧ lw d mi c ls (ls.getD k .null :: st) (S, I, L, R) Q) := by
  rw [List.getD_eq_getElem?_getD]
  cases h : ls[k]? with
  | none => exact (lw_stuck (by show lm_ldA k c ls st (S, I, L, R) = _; unfold lm_ldA; rw [h])).trans (by simp [lm_isR])
  | some v =>
    cases v with
    | ref x => exact (lw_next (by show lm_ldA k c ls st (S, I, L, R) = _; unfold lm_ldA; rw [h]; rfl)).trans (by simp [lm_isR])
    | _ => exact (lw_stuck (by show lm_ldA k c ls st (S, I, L, R) = _; unfold lm_ldA; rw [h])).trans (by simp [lm_isR])
theorem lwx_aload_0  : lw d mi ((pc, .aload_n 0) :: c) ls st (S, I, L, R) Q = (lm_isR (ls.getD 0 .null) = true ∧ lw d mi c ls (ls.getD 0 .null :: st) (S, I, L, R) Q) := by
  rw [List.getD_eq_getElem?_getD]
  cases h : ls[0]? with
  | none => exact (lw_stuck (by show lm_ldA 0 c ls st (S, I, L, R) = _; unfold lm_ldA; rw [h])).trans (by simp [lm_isR])
  | some v =>
    cases v with
    | ref x => exact (lw_next (by show lm_ldA 0 c ls st (S, I, L, R) = _; unfold lm_ldA; rw [h]; rfl)).trans (by simp [lm_isR])
    | _ => exact (lw_stuck (by show lm_ldA 0 c ls st (S, I, L, R) = _; unfold lm_ldA; rw [h])).trans (by simp [lm_isR])
theorem lwx_aload_1  : lw d mi ((pc, .aload_n 1) :: c) ls st (S, I, L, R) Q = (lm_isR (ls.getD 1 .null) = true ∧ lw d mi c ls (ls.getD 1 .null :: st) (S, I, L, R) Q) := by
  rw [List.getD_eq_getElem?_getD]
  cases h : ls[1]? with
  | none => exact (lw_stuck (by show lm_ldA 1 c ls st (S, I, L, R) = _; unfold lm_ldA; rw [h])).trans (by simp [lm_isR])
  | some v =>
    cases v with
    | ref x => exact (lw_next (by show lm_ldA 1 c ls st (S, I, L, R) = _; unfold lm_ldA; rw [h]; rfl)).trans (by simp [lm_isR])
    | _ => exact (lw_stuck (by show lm_ldA 1 c ls st (S, I, L, R) = _; unfold lm_ldA; rw [h])).trans (by simp [lm_isR])
theorem lwx_aload_2  : lw d mi ((pc, .aload_n 2) :: c) ls st (S, I, L, R) Q = (lm_isR (ls.getD 2 .null) = true ∧ lw d mi c ls (ls.getD 2 .null :: st) (S, I, L, R) Q) := by
  rw [List.getD_eq_getElem?_getD]
  cases h : ls[2]? with
  | none => exact (lw_stuck (by show lm_ldA 2 c ls st (S, I, L, R) = _; unfold lm_ldA; rw [h])).trans (by simp [lm_isR])
  | some v =>
    cases v with
    | ref x => exact (lw_next (by show lm_ldA 2 c ls st (S, I, L, R) = _; unfold lm_ldA; rw [h]; rfl)).trans (by simp [lm_isR])
    | _ => exact (lw_stuck (by show lm_ldA 2 c ls st (S, I, L, R) = _; unfold lm_ldA; rw [h])).trans (by simp [lm_isR])
theorem lwx_aload_3  : lw d mi ((pc, .aload_n 3) :: c) ls st (S, I, L, R) Q = (lm_isR (ls.getD 3 .null) = true ∧ lw d mi c ls (ls.getD 3 .null :: st) (S, I, L, R) Q) := by
  rw [List.getD_eq_getElem?_getD]
  cases h : ls[3]? with
  | none => exact (lw_stuck (by show lm_ldA 3 c ls st (S, I, L, R) = _; unfold lm_ldA; rw [h])).trans (by simp [lm_isR])
  | some v =>
    cases v with
    | ref x => exact (lw_next (by show lm_ldA 3 c ls st (S, I, L, R) = _; unfold lm_ldA; rw [h]; rfl)).trans (by simp [lm_isR])
    | _ => exact (lw_stuck (by show lm_ldA 3 c ls st (S, I, L, R) = _; unfold lm_ldA; rw [h])).trans (by simp [lm_isR])
theorem lwx_istore_0 {x : Int32} : lw d mi ((pc, .istore_n 0) :: c) ls (.int x :: st) (S, I, L, R) Q = (0 < ls.length ∧ lw d mi c (lm_set1 ls 0 (.int x)) st (S, I, L, R) Q) := lw_istore_n
theorem lwx_istore_1 {x : Int32} : lw d mi ((pc, .istore_n 1) :: c) ls (.int x :: st) (S, I, L, R) Q = (1 < ls.length ∧ lw d mi c (lm_set1 ls 1 (.int x)) st (S, I, L, R) Q) := lw_istore_n
theorem lwx_istore_2 {x : Int32} : lw d mi ((pc, .istore_n 2) :: c) ls (.int x :: st) (S, I, L, R) Q = (2 < ls.length ∧ lw d mi c (lm_set1 ls 2 (.int x)) st (S, I, L, R) Q) := lw_istore_n
theorem lwx_istore_3 {x : Int32} : lw d mi ((pc, .istore_n 3) :: c) ls (.int x :: st) (S, I, L, R) Q = (3 < ls.length ∧ lw d mi c (lm_set1 ls 3 (.int x)) st (S, I, L, R) Q) := lw_istore_n
theorem lwx_astore_0 {x : Nat} : lw d mi ((pc, .astore_n 0) :: c) ls (.ref x :: st) (S, I, L, R) Q = (0 < ls.length ∧ lw d mi c (lm_set1 ls 0 (.ref x)) st (S, I, L, R) Q) := lw_astore_n
theorem lwx_astore_1 {x : Nat} : lw d mi ((pc, .astore_n 1) :: c) ls (.ref x :: st) (S, I, L, R) Q = (1 < ls.length ∧ lw d mi c (lm_set1 ls 1 (.ref x)) st (S, I, L, R) Q) := lw_astore_n
theorem lwx_astore_2 {x : Nat} : lw d mi ((pc, .astore_n 2) :: c) ls (.ref x :: st) (S, I, L, R) Q = (2 < ls.length ∧ lw d mi c (lm_set1 ls 2 (.ref x)) st (S, I, L, R) Q) := lw_astore_n
theorem lwx_astore_3 {x : Nat} : lw d mi ((pc, .astore_n 3) :: c) ls (.ref x :: st) (S, I, L, R) Q = (3 < ls.length ∧ lw d mi c (lm_set1 ls 3 (.ref x)) st (S, I, L, R) Q) := lw_astore_n
theorem lwx_lstore_0 {x : Int64} : lw d mi ((pc, .lstore_n 0) :: c) ls (.long x :: st) (S, I, L, R) Q = (0 + 1 < ls.length ∧ lw d mi c (lm_set2 ls 0 (.long x)) st (S, I, L, R) Q) := lw_lstore_n
theorem lwx_lstore_1 {x : Int64} : lw d mi ((pc, .lstore_n 1) :: c) ls (.long x :: st) (S, I, L, R) Q = (1 + 1 < ls.length ∧ lw d mi c (lm_set2 ls 1 (.long x)) st (S, I, L, R) Q) := lw_lstore_n
theorem lwx_lstore_2 {x : Int64} : lw d mi ((pc, .lstore_n 2) :: c) ls (.long x :: st) (S, I, L, R) Q = (2 + 1 < ls.length ∧ lw d mi c (lm_set2 ls 2 (.long x)) st (S, I, L, R) Q) := lw_lstore_n
theorem lwx_lstore_3 {x : Int64} : lw d mi ((pc, .lstore_n 3) :: c) ls (.long x :: st) (S, I, L, R) Q = (3 + 1 < ls.length ∧ lw d mi c (lm_set2 ls 3 (.long x)) st (S, I, L, R) Q) := lw_lstore_n
theorem lwx_iinc {k : Nat} {n : Int} : lw d mi ((pc, .iinc k n) :: c) ls st (S, I, L, R) Q = (lm_isI (ls.getD k .null) = true ∧ lw d mi c (lm_set1 ls k (.int (lm_vi (ls.getD k .null) + Int32.ofInt n))) st (S, I, L, R) Q) := by
  rw [List.getD_eq_getElem?_getD]
  cases h : ls[k]? with
  | none => exact (lw_stuck (by show lm_iinc k n c ls st (S, I, L, R) = _; unfold lm_iinc; rw [h])).trans (by simp [lm_isI])
  | some v =>
    cases v with
    | int x => exact (lw_next (by show lm_iinc k n c ls st (S, I, L, R) = _; unfold lm_iinc; rw [h]; rfl)).trans (by simp [lm_isI, lm_vi])
    | _ => exact (lw_stuck (by show lm_iinc k n c ls st (S, I, L, R) = _; unfold lm_iinc; rw [h])).trans (by simp [lm_isI])
theorem lwx_invokevirtual_1 {r : Nat} {v0 : Value} (hr : r / 128 % 16 = 1) : lw d mi ((pc, .invokevirtual r) :: c) ls (v0 :: st) (S, I, L, R) Q = (((st.map fun v => v.category).sum ≤ 8 ∧ lm_rc r [v0] (S, I, L, R) = true) ∧ lc d (r / 2048) [v0] (S, I, L, R) (lk d mi c ls st Q)) := lw_invokevirtual (by rw [hr]; rfl)
theorem lwx_invokevirtual_2 {r : Nat} {v0 v1 : Value} (hr : r / 128 % 16 = 2) : lw d mi ((pc, .invokevirtual r) :: c) ls (v1 :: v0 :: st) (S, I, L, R) Q = (((st.map fun v => v.category).sum ≤ 8 ∧ lm_rc r [v0, v1] (S, I, L, R) = true) ∧ lc d (r / 2048) [v0, v1] (S, I, L, R) (lk d mi c ls st Q)) := lw_invokevirtual (by rw [hr]; rfl)
theorem lwx_invokevirtual_3 {r : Nat} {v0 v1 v2 : Value} (hr : r / 128 % 16 = 3) : lw d mi ((pc, .invokevirtual r) :: c) ls (v2 :: v1 :: v0 :: st) (S, I, L, R) Q = (((st.map fun v => v.category).sum ≤ 8 ∧ lm_rc r [v0, v1, v2] (S, I, L, R) = true) ∧ lc d (r / 2048) [v0, v1, v2] (S, I, L, R) (lk d mi c ls st Q)) := lw_invokevirtual (by rw [hr]; rfl)
theorem lwx_invokevirtual_4 {r : Nat} {v0 v1 v2 v3 : Value} (hr : r / 128 % 16 = 4) : lw d mi ((pc, .invokevirtual r) :: c) ls (v3 :: v2 :: v1 :: v0 :: st) (S, I, L, R) Q = (((st.map fun v => v.category).sum ≤ 8 ∧ lm_rc r [v0, v1, v2, v3] (S, I, L, R) = true) ∧ lc d (r / 2048) [v0, v1, v2, v3] (S, I, L, R) (lk d mi c ls st Q)) := lw_invokevirtual (by rw [hr]; rfl)
theorem lwx_invokevirtual_5 {r : Nat} {v0 v1 v2 v3 v4 : Value} (hr : r / 128 % 16 = 5) : lw d mi ((pc, .invokevirtual r) :: c) ls (v4 :: v3 :: v2 :: v1 :: v0 :: st) (S, I, L, R) Q = (((st.map fun v => v.category).sum ≤ 8 ∧ lm_rc r [v0, v1, v2, v3, v4] (S, I, L, R) = true) ∧ lc d (r / 2048) [v0, v1, v2, v3, v4] (S, I, L, R) (lk d mi c ls st Q)) := lw_invokevirtual (by rw [hr]; rfl)
theorem lwx_invokevirtual_6 {r : Nat} {v0 v1 v2 v3 v4 v5 : Value} (hr : r / 128 % 16 = 6) : lw d mi ((pc, .invokevirtual r) :: c) ls (v5 :: v4 :: v3 :: v2 :: v1 :: v0 :: st) (S, I, L, R) Q = (((st.map fun v => v.category).sum ≤ 8 ∧ lm_rc r [v0, v1, v2, v3, v4, v5] (S, I, L, R) = true) ∧ lc d (r / 2048) [v0, v1, v2, v3, v4, v5] (S, I, L, R) (lk d mi c ls st Q)) := lw_invokevirtual (by rw [hr]; rfl)
theorem lwx_invokevirtual_7 {r : Nat} {v0 v1 v2 v3 v4 v5 v6 : Value} (hr : r / 128 % 16 = 7) : lw d mi ((pc, .invokevirtual r) :: c) ls (v6 :: v5 :: v4 :: v3 :: v2 :: v1 :: v0 :: st) (S, I, L, R) Q = (((st.map fun v => v.category).sum ≤ 8 ∧ lm_rc r [v0, v1, v2, v3, v4, v5, v6] (S, I, L, R) = true) ∧ lc d (r / 2048) [v0, v1, v2, v3, v4, v5, v6] (S, I, L, R) (lk d mi c ls st Q)) := lw_invokevirtual (by rw [hr]; rfl)
theorem lwx_invokespecial_1 {r : Nat} {v0 : Value} (hr : r / 128 % 16 = 1) : lw d mi ((pc, .invokespecial r) :: c) ls (v0 :: st) (S, I, L, R) Q = (((st.map fun v => v.category).sum ≤ 8 ∧ lm_rc r [v0] (S, I, L, R) = true) ∧ lc d (r / 2048) [v0] (S, I, L, R) (lk d mi c ls st Q)) := lw_invokespecial (by rw [hr]; rfl)
theorem lwx_invokespecial_2 {r : Nat} {v0 v1 : Value} (hr : r / 128 % 16 = 2) : lw d mi ((pc, .invokespecial r) :: c) ls (v1 :: v0 :: st) (S, I, L, R) Q = (((st.map fun v => v.category).sum ≤ 8 ∧ lm_rc r [v0, v1] (S, I, L, R) = true) ∧ lc d (r / 2048) [v0, v1] (S, I, L, R) (lk d mi c ls st Q)) := lw_invokespecial (by rw [hr]; rfl)
theorem lwx_invokespecial_3 {r : Nat} {v0 v1 v2 : Value} (hr : r / 128 % 16 = 3) : lw d mi ((pc, .invokespecial r) :: c) ls (v2 :: v1 :: v0 :: st) (S, I, L, R) Q = (((st.map fun v => v.category).sum ≤ 8 ∧ lm_rc r [v0, v1, v2] (S, I, L, R) = true) ∧ lc d (r / 2048) [v0, v1, v2] (S, I, L, R) (lk d mi c ls st Q)) := lw_invokespecial (by rw [hr]; rfl)
theorem lwx_invokespecial_4 {r : Nat} {v0 v1 v2 v3 : Value} (hr : r / 128 % 16 = 4) : lw d mi ((pc, .invokespecial r) :: c) ls (v3 :: v2 :: v1 :: v0 :: st) (S, I, L, R) Q = (((st.map fun v => v.category).sum ≤ 8 ∧ lm_rc r [v0, v1, v2, v3] (S, I, L, R) = true) ∧ lc d (r / 2048) [v0, v1, v2, v3] (S, I, L, R) (lk d mi c ls st Q)) := lw_invokespecial (by rw [hr]; rfl)
theorem lwx_invokespecial_5 {r : Nat} {v0 v1 v2 v3 v4 : Value} (hr : r / 128 % 16 = 5) : lw d mi ((pc, .invokespecial r) :: c) ls (v4 :: v3 :: v2 :: v1 :: v0 :: st) (S, I, L, R) Q = (((st.map fun v => v.category).sum ≤ 8 ∧ lm_rc r [v0, v1, v2, v3, v4] (S, I, L, R) = true) ∧ lc d (r / 2048) [v0, v1, v2, v3, v4] (S, I, L, R) (lk d mi c ls st Q)) := lw_invokespecial (by rw [hr]; rfl)
theorem lwx_invokespecial_6 {r : Nat} {v0 v1 v2 v3 v4 v5 : Value} (hr : r / 128 % 16 = 6) : lw d mi ((pc, .invokespecial r) :: c) ls (v5 :: v4 :: v3 :: v2 :: v1 :: v0 :: st) (S, I, L, R) Q = (((st.map fun v => v.category).sum ≤ 8 ∧ lm_rc r [v0, v1, v2, v3, v4, v5] (S, I, L, R) = true) ∧ lc d (r / 2048) [v0, v1, v2, v3, v4, v5] (S, I, L, R) (lk d mi c ls st Q)) := lw_invokespecial (by rw [hr]; rfl)
theorem lwx_invokespecial_7 {r : Nat} {v0 v1 v2 v3 v4 v5 v6 : Value} (hr : r / 128 % 16 = 7) : lw d mi ((pc, .invokespecial r) :: c) ls (v6 :: v5 :: v4 :: v3 :: v2 :: v1 :: v0 :: st) (S, I, L, R) Q = (((st.map fun v => v.category).sum ≤ 8 ∧ lm_rc r [v0, v1, v2, v3, v4, v5, v6] (S, I, L, R) = true) ∧ lc d (r / 2048) [v0, v1, v2, v3, v4, v5, v6] (S, I, L, R) (lk d mi c ls st Q)) := lw_invokespecial (by rw [hr]; rfl)
theorem lwx_invokestatic_0 {r : Nat} {w0 : Value} (hr : r / 128 % 16 = 0) : lw d mi ((pc, .invokestatic r) :: c) ls (st) (S, I, L, R) Q = (((st.map fun v => v.category).sum ≤ 8 ∧ lm_rc r [] (S, I, L, R) = true) ∧ lc d (r / 2048) [] (S, I, L, R) (lk d mi c ls st Q)) := lw_invokestatic (by rw [hr]; rfl)
theorem lwx_invokestatic_1 {r : Nat} {v0 : Value} (hr : r / 128 % 16 = 1) : lw d mi ((pc, .invokestatic r) :: c) ls (v0 :: st) (S, I, L, R) Q = (((st.map fun v => v.category).sum ≤ 8 ∧ lm_rc r [v0] (S, I, L, R) = true) ∧ lc d (r / 2048) [v0] (S, I, L, R) (lk d mi c ls st Q)) := lw_invokestatic (by rw [hr]; rfl)
theorem lwx_invokestatic_2 {r : Nat} {v0 v1 : Value} (hr : r / 128 % 16 = 2) : lw d mi ((pc, .invokestatic r) :: c) ls (v1 :: v0 :: st) (S, I, L, R) Q = (((st.map fun v => v.category).sum ≤ 8 ∧ lm_rc r [v0, v1] (S, I, L, R) = true) ∧ lc d (r / 2048) [v0, v1] (S, I, L, R) (lk d mi c ls st Q)) := lw_invokestatic (by rw [hr]; rfl)
theorem lwx_invokestatic_3 {r : Nat} {v0 v1 v2 : Value} (hr : r / 128 % 16 = 3) : lw d mi ((pc, .invokestatic r) :: c) ls (v2 :: v1 :: v0 :: st) (S, I, L, R) Q = (((st.map fun v => v.category).sum ≤ 8 ∧ lm_rc r [v0, v1, v2] (S, I, L, R) = true) ∧ lc d (r / 2048) [v0, v1, v2] (S, I, L, R) (lk d mi c ls st Q)) := lw_invokestatic (by rw [hr]; rfl)
theorem lwx_invokestatic_4 {r : Nat} {v0 v1 v2 v3 : Value} (hr : r / 128 % 16 = 4) : lw d mi ((pc, .invokestatic r) :: c) ls (v3 :: v2 :: v1 :: v0 :: st) (S, I, L, R) Q = (((st.map fun v => v.category).sum ≤ 8 ∧ lm_rc r [v0, v1, v2, v3] (S, I, L, R) = true) ∧ lc d (r / 2048) [v0, v1, v2, v3] (S, I, L, R) (lk d mi c ls st Q)) := lw_invokestatic (by rw [hr]; rfl)
theorem lwx_invokestatic_5 {r : Nat} {v0 v1 v2 v3 v4 : Value} (hr : r / 128 % 16 = 5) : lw d mi ((pc, .invokestatic r) :: c) ls (v4 :: v3 :: v2 :: v1 :: v0 :: st) (S, I, L, R) Q = (((st.map fun v => v.category).sum ≤ 8 ∧ lm_rc r [v0, v1, v2, v3, v4] (S, I, L, R) = true) ∧ lc d (r / 2048) [v0, v1, v2, v3, v4] (S, I, L, R) (lk d mi c ls st Q)) := lw_invokestatic (by rw [hr]; rfl)
theorem lwx_invokestatic_6 {r : Nat} {v0 v1 v2 v3 v4 v5 : Value} (hr : r / 128 % 16 = 6) : lw d mi ((pc, .invokestatic r) :: c) ls (v5 :: v4 :: v3 :: v2 :: v1 :: v0 :: st) (S, I, L, R) Q = (((st.map fun v => v.category).sum ≤ 8 ∧ lm_rc r [v0, v1, v2, v3, v4, v5] (S, I, L, R) = true) ∧ lc d (r / 2048) [v0, v1, v2, v3, v4, v5] (S, I, L, R) (lk d mi c ls st Q)) := lw_invokestatic (by rw [hr]; rfl)
theorem lwx_invokestatic_7 {r : Nat} {v0 v1 v2 v3 v4 v5 v6 : Value} (hr : r / 128 % 16 = 7) : lw d mi ((pc, .invokestatic r) :: c) ls (v6 :: v5 :: v4 :: v3 :: v2 :: v1 :: v0 :: st) (S, I, L, R) Q = (((st.map fun v => v.category).sum ≤ 8 ∧ lm_rc r [v0, v1, v2, v3, v4, v5, v6] (S, I, L, R) = true) ∧ lc d (r / 2048) [v0, v1, v2, v3, v4, v5, v6] (S, I, L, R) (lk d mi c ls st Q)) := lw_invokestatic (by rw [hr]; rfl)
theorem lm_rc_v {r o : Nat} {as : List Value} {M : lm_M} (h : (M.1.2.2 o).1 = r % 128) : lm_rc r (.ref o :: as) M = true := by
  unfold lm_rc
  simp [h]
theorem lm_rc_s {r : Nat} {as : List Value} {M : lm_M} (h : r % 128 = 99) : lm_rc r as M = true := by
  unfold lm_rc
  simp [h]
end LWX
/-- a whole row of memory in another's place -/
def lm_row (I : lm_I) (o : Nat) (f : Nat → Int32) : lm_I := fun a b => if a = o then f b else I a b
theorem lm_row_s {I : lm_I} {o : Nat} {f : Nat → Int32} : lm_row I o f o = f := funext fun b => if_pos rfl
theorem lm_row_n {I : lm_I} {o a : Nat} {f : Nat → Int32} (h : a ≠ o) : lm_row I o f a = I a := funext fun b => if_neg h
theorem lm_row_row {I : lm_I} {o : Nat} {f g : Nat → Int32} : lm_row (lm_row I o f) o g = lm_row I o g := by
  funext a b
  unfold lm_row
  split <;> simp_all
theorem lm_row_id {I : lm_I} {o : Nat} : lm_row I o (I o) = I := by
  funext a b
  unfold lm_row
  split
  · rename_i h; rw [h]
  · rfl
theorem lm_up_row {I : lm_I} {o k : Nat} {x : Int32} : lm_up I o k x = lm_row I o (upd (I o) k x) := by
  funext a b
  unfold lm_up lm_row upd
  by_cases h : a = o
  · subst h; simp
  · simp [h]
theorem lm_row_comm {I : lm_I} {o o' : Nat} {f g : Nat → Int32} (h : o ≠ o') : lm_row (lm_row I o f) o' g = lm_row (lm_row I o' g) o f := by
  funext a b
  unfold lm_row
  by_cases h1 : a = o' <;> by_cases h2 : a = o <;> simp_all
