/-! ===== the solver's right sides ===== -/
def frS (I I' : lm_I) : Prop := (∀ o, (o < 70 ∨ 77 ≤ o) → I' o = I o) ∧ I' 70 7 = I 70 7
theorem frS.rf {I : lm_I} : frS I I := ⟨fun _ _ => rfl, rfl⟩
theorem frS.tr {I I1 I2 : lm_I} (h : frS I I1) (h2 : frS I1 I2) : frS I I2 := ⟨fun o ho => (h2.1 o ho).trans (h.1 o ho), h2.2.trans h.2⟩
/-- the cells from n to n' and the right side at cell q: its types are just those that T allows -/
def rhsOK (n n' : Nat) (P So Le Ri P' So' Le' Ri' : Nat → Nat) (q : Nat) (T : (Nat → Ty) → Ty → Prop) : Prop :=
  n ≤ n' ∧ q < n' ∧ (∀ val, Sol n' P' So' Le' Ri' val → Sol n P So Le Ri val ∧ T val (val q)) ∧ ∀ val τ, Sol n P So Le Ri val → T val τ → ∃ val', (∀ j, j < n → val' j = val j) ∧ Sol n' P' So' Le' Ri' val' ∧ val' q = τ
def bt (k : Nat) (a b : Ty) : Ty := match k with
  | 0 => con 2 a a
  | 1 => con 2 a a
  | 2 => con 6 (con 2 a a) (con 2 a a)
  | 3 => con 6 (con 4 a a) a
  | 4 => con 6 (con 4 a a) (con 4 a a)
  | 5 => con 6 (con 4 a a) (con 2 a a)
  | 6 => con 6 (con 4 a a) (con 1 a a)
  | 7 => con 6 (con 5 a b) a
  | 8 => con 6 (con 5 a b) b
  | 9 => con 6 a a
  | _ => con 6 a (con 3 a a)
section SOLVER
variable {e n u : Nat} {S : lm_S} {I : lm_I} {L : lm_L} {R : lm_R} {Q : Option Value → lm_M → Prop} {P So Le Ri dp : Nat → Nat}
theorem k_81 (hS : lp_shape S) (hR : lp_refs R) (h : svf I n P So Le Ri dp u) (hn : n < 626) (s a b : Nat) (hs : s ≤ 6) (ha : 4 ≤ s → a ≤ n) (hb : 5 ≤ s → b ≤ n)
    (k : ∀ I1, svf I1 (n + 1) (ext P n n) (ext So n s) (ext Le n a) (ext Ri n b) (ext dp n 0) u → frS I I1 → Q (some (.int (nI n))) (S, I1, L, R)) : lc (e + 1) 81 [.ref 70, .int (nI s), .int (pI s 4 a), .int (pI s 5 b)] (S, I, L, R) Q := by
  rw [c_81 hS hR h.1.1 hn]
  exact k _ (svf_cell h hn hs ha hb) ⟨fun o ho => cellI_o (by omega), cellI_7⟩
/-- one cell with known parts -/
theorem rhs_1 (h : svf I n P So Le Ri dp u) {s a b : Nat} (hs : 1 ≤ s ∧ s ≤ 6) (ha : 4 ≤ s → a < n) (hb : 5 ≤ s → b < n) : rhsOK n (n + 1) P So Le Ri (ext P n n) (ext So n s) (ext Le n a) (ext Ri n b) n (fun val τ => τ = con s (val a) (val b)) := by
  obtain ⟨hsv, hf, -⟩ := h
  have hg := hsv.2.2.2.2.2.2
  refine ⟨by omega, by omega, fun val hv => ?_, fun val τ hv ht => ?_⟩
  · have h1 := (Sol_cell hf hg).mp hv
    exact ⟨h1.1, h1.2 (by omega)⟩
  · refine ⟨fun j => if j = n then τ else val j, fun j hj => if_neg (by omega), (Sol_cell hf hg).mpr ⟨Sol_agree hf hg (fun j hj => if_neg (by omega)) hv, fun _ => ?_⟩, if_pos rfl⟩
    show (if n = n then τ else val n) = _
    rw [if_pos rfl, ht]
    exact con_parts (fun z => (if_neg (by have := ha z; omega)).symm) (fun z => (if_neg (by have := hb z; omega)).symm) hs
/-- more cells behind -/
theorem rhs_more {n1 n2 q1 q2 : Nat} {P1 So1 Le1 Ri1 P2 So2 Le2 Ri2 : Nat → Nat} {T1 T2 : (Nat → Ty) → Ty → Prop} {T : (Nat → Ty) → Ty → Prop} (h1 : rhsOK n n1 P So Le Ri P1 So1 Le1 Ri1 q1 T1) (h2 : rhsOK n1 n2 P1 So1 Le1 Ri1 P2 So2 Le2 Ri2 q2 T2)
    (ha : ∀ val τ, Sol n1 P1 So1 Le1 Ri1 val → T2 val τ → T val τ) (hb : ∀ val τ, Sol n P So Le Ri val → T val τ → ∃ τ1, T1 val τ1 ∧ ∀ val1, (∀ j, j < n → val1 j = val j) → Sol n1 P1 So1 Le1 Ri1 val1 → val1 q1 = τ1 → T2 val1 τ) (hag : ∀ val val' τ, (∀ j, j < n → val' j = val j) → T val' τ → T val τ) : rhsOK n n2 P So Le Ri P2 So2 Le2 Ri2 q2 T := by
  refine ⟨Nat.le_trans h1.1 h2.1, h2.2.1, fun val hv => ?_, fun val τ hv ht => ?_⟩
  · have g2 := h2.2.2.1 val hv
    exact ⟨(h1.2.2.1 val g2.1).1, ha val _ g2.1 g2.2⟩
  · obtain ⟨τ1, t1, t2⟩ := hb val τ hv ht
    obtain ⟨val1, v1, s1, e1⟩ := h1.2.2.2 val τ1 hv t1
    obtain ⟨val2, v2, s2, e2⟩ := h2.2.2.2 val1 τ s1 (t2 val1 v1 s1 e1)
    exact ⟨val2, fun j hj => (v2 j (Nat.lt_of_lt_of_le hj h1.1)).trans (v1 j hj), s2, e2⟩
/-- an open cell -/
theorem rhs_0 (h : svf I n P So Le Ri dp u) {a b : Nat} : rhsOK n (n + 1) P So Le Ri (ext P n n) (ext So n 0) (ext Le n a) (ext Ri n b) n (fun _ _ => True) := by
  obtain ⟨hsv, hf, -⟩ := h
  have hg := hsv.2.2.2.2.2.2
  refine ⟨by omega, by omega, fun val hv => ⟨((Sol_cell hf hg).mp hv).1, trivial⟩, fun val τ hv _ => ⟨fun j => if j = n then τ else val j, fun j hj => if_neg (by omega), (Sol_cell hf hg).mpr ⟨Sol_agree hf hg (fun j hj => if_neg (by omega)) hv, fun z => absurd rfl z⟩, if_pos rfl⟩⟩
end SOLVER
