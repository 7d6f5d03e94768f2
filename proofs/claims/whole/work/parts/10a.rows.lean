/-! ===== the same rules in the class's and the reference's variables ===== -/
def vok (N B v : Nat) : Prop := v < N ∨ (80 ≤ v ∧ v < 80 + N) ∨ (160 ≤ v ∧ v < 160 + N) ∨ (240 ≤ v ∧ v < 240 + B)
def rowv (q : Nat × Nat × Nat × Nat) (Pv : Nat → Prop) : Prop := 1 ≤ q.1 ∧ q.1 ≤ 7 ∧ Pv q.2.1 ∧ (q.1 ≤ 4 → Pv q.2.2.1) ∧ (3 ≤ q.1 → q.1 ≤ 5 → Pv q.2.2.2) ∧ (q.1 = 5 → ∀ i, i ≤ q.2.2.1 → Pv (q.2.1 + i)) ∧ (q.1 = 6 → 1 ≤ q.2.2.1 ∧ q.2.2.1 ≤ 3) ∧ (q.1 = 7 → q.2.2.1 ≤ 10)
theorem dcl_agr {w w' : Nat → Ty} {x : Nat} : ∀ (i : Nat) (t : Ty), (∀ j, j ≤ i → w' (x + j) = w (x + j)) → dcl w' x i t = dcl w x i t := by
  intro i
  induction i with
  | zero => intro t _; rfl
  | succ i ih => intro t h; show dcl w' x i _ = dcl w x i _; rw [h (i + 1) (by omega)]; exact ih _ (fun j hj => h j (by omega))
theorem dcl_map {w : Nat → Ty} {σ : Nat → Nat} {x : Nat} : ∀ (i : Nat) (t : Ty), (∀ j, j ≤ i → σ (x + j) = σ x + j) → dcl (fun v => w (σ v)) x i t = dcl w (σ x) i t := by
  intro i
  induction i with
  | zero => intro t _; rfl
  | succ i ih => intro t h; show dcl (fun v => w (σ v)) x i (con 6 (w (σ (x + (i + 1)))) t) = dcl w (σ x) i (con 6 (w (σ x + (i + 1))) t); rw [h (i + 1) (by omega)]; exact ih _ (fun j hj => h j (by omega))
/-- only the row's own variables count -/
theorem rr4_agr {q : Nat × Nat × Nat × Nat} {Pv : Nat → Prop} {w w' : Nat → Ty} (hq : rowv q Pv) (h : ∀ v, Pv v → w' v = w v) : rr4 q w' ↔ rr4 q w := by
  obtain ⟨F, X, Y, Z⟩ := q
  obtain ⟨h1, h7, hX, hY, hZ, h5, h6, -⟩ := hq
  simp only at h1 h7 hX hY hZ h5 h6
  show rhs F X Y Z w' (w' X) ↔ rhs F X Y Z w (w X)
  rw [h X hX]
  rcases (show F = 1 ∨ F = 2 ∨ F = 3 ∨ F = 4 ∨ F = 5 ∨ F = 6 ∨ F = 7 by omega) with rfl | rfl | rfl | rfl | rfl | rfl | rfl
  · show w X = w' Y ↔ w X = w Y
    rw [h Y (hY (by omega))]
  · show w X = con 4 (w' Y) (w' Y) ↔ w X = con 4 (w Y) (w Y)
    rw [h Y (hY (by omega))]
  · show w X = con 5 (w' Y) (w' Z) ↔ w X = con 5 (w Y) (w Z)
    rw [h Y (hY (by omega)), h Z (hZ (by omega) (by omega))]
  · show w X = con 6 (w' Y) (w' Z) ↔ w X = con 6 (w Y) (w Z)
    rw [h Y (hY (by omega)), h Z (hZ (by omega) (by omega))]
  · show w X = dcl w' X Y (w' Z) ↔ w X = dcl w X Y (w Z)
    rw [h Z (hZ (by omega) (by omega)), dcl_agr Y _ (fun j hj => h _ (h5 rfl j hj))]
  · show w X = con Y (w' X) (w' X) ↔ w X = con Y (w X) (w X)
    rw [h X hX]
  · exact Iff.rfl
/-- a row in other variables -/
def mrow (σ : Nat → Nat) (q : Nat × Nat × Nat × Nat) : Nat × Nat × Nat × Nat := (q.1, σ q.2.1, (if q.1 ≤ 4 then σ q.2.2.1 else q.2.2.1), σ q.2.2.2)
theorem rr4_map {q : Nat × Nat × Nat × Nat} {Pv : Nat → Prop} {σ : Nat → Nat} {w : Nat → Ty} (hq : rowv q Pv) (h5 : q.1 = 5 → ∀ i, i ≤ q.2.2.1 → σ (q.2.1 + i) = σ q.2.1 + i) : rr4 (mrow σ q) w ↔ rr4 q (fun v => w (σ v)) := by
  obtain ⟨F, X, Y, Z⟩ := q
  obtain ⟨h1, h7, -⟩ := hq
  simp only at h1 h7 h5
  show rhs F (σ X) (if F ≤ 4 then σ Y else Y) (σ Z) w (w (σ X)) ↔ rhs F X Y Z (fun v => w (σ v)) (w (σ X))
  rcases (show F = 1 ∨ F = 2 ∨ F = 3 ∨ F = 4 ∨ F = 5 ∨ F = 6 ∨ F = 7 by omega) with rfl | rfl | rfl | rfl | rfl | rfl | rfl
  · exact Iff.rfl
  · exact Iff.rfl
  · exact Iff.rfl
  · exact Iff.rfl
  · show w (σ X) = dcl w (σ X) Y (w (σ Z)) ↔ w (σ X) = dcl (fun v => w (σ v)) X Y (w (σ Z))
    rw [dcl_map Y _ (h5 rfl)]
  · exact Iff.rfl
  · exact Iff.rfl
/-- the class's variable of a variable of the reference, under a change -/
def sg (N B cs cn v : Nat) : Nat := if v < 80 then (if (5 ≤ cs ∧ cs ≤ 7) ∧ v = cn then 2 * N + B else v) else if v < 160 then v - 80 else if v < 240 then N + B + (v - 160) else N + (v - 240)
/-- and back -/
def tu (N B cn c : Nat) : Nat := if c < N then 80 + c else if c < N + B then 240 + (c - N) else if c < 2 * N + B then 160 + (c - N - B) else cn
theorem sg_lt {N B cs cn v : Nat} (hN : N ≤ 80) (h : vok N B v) : sg N B cs cn v < 2 * N + B + 1 := by
  unfold vok at h
  unfold sg
  repeat' split
  all_goals omega
theorem sg_tu {N B cs cn v : Nat} (hN : N ≤ 80) (h : vok N B v) (h80 : 80 ≤ v) : tu N B cn (sg N B cs cn v) = v := by
  unfold vok at h
  unfold sg
  rw [if_neg (by omega)]
  by_cases h1 : v < 160
  · rw [if_pos h1]; unfold tu; rw [if_pos (by omega)]; omega
  · rw [if_neg h1]
    by_cases h2 : v < 240
    · rw [if_pos h2]; unfold tu; rw [if_neg (by omega), if_neg (by omega), if_pos (by omega)]; omega
    · rw [if_neg h2]; unfold tu; rw [if_neg (by omega), if_pos (by omega)]; omega
theorem sg_own {N B cs cn v : Nat} (hN : N ≤ 80) (hv : v < N) (hn : ¬ ((5 ≤ cs ∧ cs ≤ 7) ∧ v = cn)) : tu N B cn (sg N B cs cn v) = 80 + v := by
  unfold sg
  rw [if_pos (by omega), if_neg hn]
  unfold tu
  rw [if_pos hv]
theorem sg_wrap {N B cs cn : Nat} (hN : N ≤ 80) (hv : cn < N) (hc : 5 ≤ cs ∧ cs ≤ 7) : tu N B cn (sg N B cs cn cn) = cn := by
  unfold sg
  rw [if_pos (by omega), if_pos ⟨hc, rfl⟩]
  unfold tu
  rw [if_neg (by omega), if_neg (by omega), if_neg (by omega)]
/-- what class and reference ask is the same -/
def eqv (N B : Nat) (σ τ : Nat → Nat) (CS MS : (Nat → Ty) → Prop) : Prop := (∀ w, CS w → MS (fun v => w (σ v))) ∧ ∀ w, MS w → CS (fun c => w (τ c)) ∧ ∀ v, vok N B v → w (τ (σ v)) = w v
theorem eqv_ex {N B : Nat} {σ τ : Nat → Nat} {CS MS : (Nat → Ty) → Prop} (h : eqv N B σ τ CS MS) : (∃ w, CS w) ↔ ∃ w, MS w := ⟨fun ⟨w, hw⟩ => ⟨_, h.1 w hw⟩, fun ⟨w, hw⟩ => ⟨_, (h.2 w hw).1⟩⟩
theorem vrow_tu {N B cs cn : Nat} {w : Nat → Ty} (hN : N ≤ 80) (hcn : (5 ≤ cs ∧ cs ≤ 7) → cn < N) (h : ∀ j, j < N → rr4 (vrow cs cn j) w) : ∀ v, vok N B v → w (tu N B cn (sg N B cs cn v)) = w v := by
  intro v hv
  by_cases h80 : 80 ≤ v
  · rw [sg_tu hN hv h80]
  · have hvN : v < N := by unfold vok at hv; omega
    by_cases hn : (5 ≤ cs ∧ cs ≤ 7) ∧ v = cn
    · rw [hn.2, sg_wrap hN (hcn hn.1) hn.1]
    · rw [sg_own hN hvN hn]
      have h1 := h v hvN
      unfold vrow at h1
      rw [if_neg hn] at h1
      exact h1
/-- both write the same text -/
theorem eqv_txt {N B V : Nat} {σ τ : Nat → Nat} {CS MS : (Nat → Ty) → Prop} (h : eqv N B σ τ CS MS) (hσ : ∀ v, vok N B v → σ v < V)
    {n1 u1 n2 u2 : Nat} {P1 So1 Le1 Ri1 dp1 P2 So2 Le2 Ri2 dp2 : Nat → Nat} {val1 val2 : Nat → Ty} (f1 : fo P1 n1 dp1 u1) (hu1 : u1 ≤ 9999) (g1 : gok n1 So1 Le1 Ri1) (c1 : cl n1 P1 So1 Le1 Ri1) (a1 : acy n1 (rt P1) So1 Le1 Ri1) (e1 : gen n1 (rt P1) So1 Le1 Ri1 val1) (hV : V ≤ n1) (r1 : ∀ w, CS w ↔ ∃ val, Sol n1 P1 So1 Le1 Ri1 val ∧ ∀ j, j < V → val j = w j)
    (f2 : fo P2 n2 dp2 u2) (hu2 : u2 ≤ 9999) (g2 : gok n2 So2 Le2 Ri2) (c2 : cl n2 P2 So2 Le2 Ri2) (a2 : acy n2 (rt P2) So2 Le2 Ri2) (e2 : gen n2 (rt P2) So2 Le2 Ri2 val2) (h264 : 264 ≤ n2) (hNB : N ≤ 80 ∧ B ≤ 24) (r2 : rep n2 P2 So2 Le2 Ri2 MS) {x : Nat} (hx : vok N B x) : (txt (val1 (σ x)) []).1 = (txt (val2 x) []).1 := by
  have s1 := gen_sol f1 hu1 g1 c1 e1
  have s2 := gen_sol f2 hu2 g2 c2 e2
  have hx264 : x < 264 := by unfold vok at hx; omega
  have hxV := hσ x hx
  have w1 : CS val1 := (r1 val1).mpr ⟨val1, s1, fun _ _ => rfl⟩
  have w2 : MS val2 := (r2 val2).mpr ⟨val2, s2, fun _ _ => rfl⟩
  obtain ⟨v2, t1, t2⟩ := (r2 _).mp (h.1 _ w1)
  obtain ⟨k1, k2⟩ := h.2 _ w2
  obtain ⟨v1, t3, t4⟩ := (r1 _).mp k1
  have m2 := gen_most f2 hu2 g2 a2 e2 t1 x (by omega)
  have m1 := gen_most f1 hu1 g1 a1 e1 t3 (σ x) (by omega)
  have q2 : v2 x = val1 (σ x) := t2 x hx264
  have q1 : v1 (σ x) = val2 x := (t4 (σ x) hxV).trans (k2 x hx)
  exact txt_eq (θ := v2) (θ' := v1) (by rw [← m2]; exact q2.symm) (by rw [← m1]; exact q1.symm)
