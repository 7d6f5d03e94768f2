def lamF (z : Zt) : Nat → Nat → List Nat
  | 0, _ => []
  | m + 1, s => if 11 ≤ s ∧ s < 1000 ∧ z 22 (s - 11) = 2 then (s - 11) :: lamF z m (z 21 (s - 11)) else []
def lam (z : Zt) (s : Nat) : List Nat := lamF z 100 s
def kbz (ky : Nat → Int64) (z : Zt) (b : Nat) : Int64 := ky (z 20 b)
def clz (z : Zt) (n : Nat) : List Nat := lam z (z 10 n) ++ pds (z 16 (z 14 n)) (z 17 (z 14 n))
def mgz (ky bi : Nat → Int64) (z : Zt) (n : Nat) : Nat := cmg (kbz ky z) bi (z 16) (z 30 1) (ky (z 8 n)) (clz z n)
def mgm (ky bi : Nat → Int64) (z : Zt) (n : Nat) : Nat := mmg (kbz ky z) bi (z 22) (z 23) (z 30 2) (ky (z 8 n)) (z 14 n) (lam z (z 10 n))
def hot (z : Zt) : Prop := ∀ b, b < z 30 2 → z 21 b = 1000 ∨ z 21 b < 11 + b
section NAMES
variable {z : Zt} {kb ky bi : Nat → Int64} {kd pl : Nat → Nat} {nt : Nat} {key : Int64}
theorem lam_scl {s0 : Nat} (h0 : ¬ (11 ≤ s0 ∧ s0 < 1000 ∧ z 22 (s0 - 11) = 2)) (hB : z 30 2 ≤ 900) : ∀ (m : Nat) (l : List Nat) (s : Nat), scl z s l s0 → l.length ≤ m → lamF z m s = l := by
  intro m
  induction m with
  | zero =>
    intro l s h hl
    cases l with
    | nil => rfl
    | cons b l => exact absurd hl (by show ¬ (l.length + 1 ≤ 0); omega)
  | succ m ih =>
    intro l s h hl
    unfold lamF
    cases l with
    | nil =>
      have h : s = s0 := h
      rw [h, if_neg h0]
    | cons b l =>
      obtain ⟨a1, a2, a3, a4⟩ := h
      have e : s - 11 = b := by omega
      rw [if_pos ⟨by omega, by omega, by rw [e]; exact a2⟩, e, ih l _ a4 (by have : l.length + 1 ≤ m + 1 := hl; omega)]
/-- chains of a node's scope -/
theorem node_ch (hT : TX kd pl nt z) (ho : hot z) {n : Nat} (hn : n < z 30 0) : (cch (z 21) (z 30 2) (z 10 n) (clz z n) ∧ (clz z n).length ≤ 32) ∧ mch (arM z) (z 30 2) (sM z (z 10 n)) (lam z (z 10 n)) ∧ (∀ b, b ∈ lam z (z 10 n) → b < z 30 2 ∧ z 22 b = 2) := by
  obtain ⟨⟨hw, h03⟩, ⟨t1, t2, t3, t4, t5, t6, t7⟩, t8, t9, t10⟩ := hT
  obtain ⟨l, hl⟩ := t7 n hn
  obtain ⟨v1, v2, v3, v4, v5, v6⟩ := hw
  have B22 : z 30 2 ≤ 22 := by omega
  have hd := (t1 n hn).2.2.2.2.1
  obtain ⟨-, ⟨d3, d4, d5⟩, d6⟩ := t8 _ hd
  have n0 : ¬ (11 ≤ LPs z (z 14 n) ∧ LPs z (z 14 n) < 1000 ∧ z 22 (LPs z (z 14 n) - 11) = 2) := by
    unfold LPs
    by_cases s : z 17 (z 14 n) = 0
    · rw [if_pos s]; omega
    · rw [if_neg s]
      rintro ⟨-, -, q⟩
      obtain ⟨-, -, -, e22, -⟩ := d6 (z 17 (z 14 n)) (Nat.le_refl _)
      rw [show 11 + z 16 (z 14 n) + z 17 (z 14 n) - 11 = z 16 (z 14 n) + z 17 (z 14 n) by omega, e22, if_neg s] at q
      omega
  have s0 : sM z (LPs z (z 14 n)) = -9 := if_neg n0
  have cp : cch (z 21) (z 30 2) (LPs z (z 14 n)) (pds (z 16 (z 14 n)) (z 17 (z 14 n))) := pds_cch _ d3 (fun i i1 i2 => (d6 i i2).2.2.1)
  have cc := scl_cch l (z 10 n) hl cp
  have len := cch_len (ot := z 21) ho (by omega) _ _ cc
  have s33 : z 10 n ≤ 33 ∨ z 10 n = 1000 := by have := (t1 n hn).2.2.2.2.2.1; omega
  have len22 : (l ++ pds (z 16 (z 14 n)) (z 17 (z 14 n))).length ≤ 32 := by
    split at len
    · omega
    · omega
  have ll : l.length ≤ 32 := by rw [List.length_append] at len22; omega
  have el : lam z (z 10 n) = l := lam_scl n0 (by omega) 100 l _ hl (by omega)
  unfold clz
  rw [el]
  exact ⟨⟨cc, len22⟩, scl_mch s0 (by omega) l _ hl, scl_mem l _ hl⟩
theorem cmg_no {hb : Nat → Nat} {D : Nat} {l : List Nat} (hD : D ≤ 6) (hh : ∀ d, d < D → hb d < 900) (hl : ∀ b, b ∈ l → b < 900) : cmg kb bi hb D key l = 1000 ↔ (∀ b, b ∈ l → kb b ≠ key) ∧ (∀ d, d < D → kb (hb d) ≠ key) ∧ bim bi key = 1000 := by
  have f1 := fls_no (P := fun b => decide (kb b = key)) l (fun b hb => by have := hl b hb; omega)
  have f2 := fup_no (P := fun d => decide (kb (hb d) = key)) D 0 (by omega)
  have g1 := fls_ge (P := fun b => decide (kb b = key)) l
  have g2 := fup_ge (P := fun d => decide (kb (hb d) = key)) D 0
  unfold cmg
  by_cases s1 : fls (fun b => decide (kb b = key)) l < 1000
  · rw [if_pos s1]
    have := g1.elim (fun q => by omega) (fun q => hl _ q.1)
    refine ⟨fun q => by omega, fun q => ?_⟩
    rcases g1 with q1 | ⟨q1, q2⟩
    · omega
    · exact absurd (of_decide_eq_true q2) (q.1 _ q1)
  · rw [if_neg s1]
    have s1' : fls (fun b => decide (kb b = key)) l = 1000 := by
      rcases g1 with q | ⟨q, -⟩
      · exact q
      · have := hl _ q; omega
    have n1 : ∀ b, b ∈ l → kb b ≠ key := fun b hb q => f1.mp s1' b hb (decide_eq_true q)
    unfold dcm
    by_cases s2 : fup (fun d => decide (kb (hb d) = key)) 0 D < 1000
    · rw [if_pos s2]
      rcases g2 with q | ⟨q1, q2, q3⟩
      · omega
      · have := hh _ (show fup (fun d => decide (kb (hb d) = key)) 0 D < D by omega)
        refine ⟨fun q => by omega, fun q => absurd (of_decide_eq_true q3) (q.2.1 _ (by omega))⟩
    · rw [if_neg s2]
      have s2' : fup (fun d => decide (kb (hb d) = key)) 0 D = 1000 := by omega
      have n2 : ∀ d, d < D → kb (hb d) ≠ key := fun d hd q => f2.mp s2' d (by omega) (by omega) (decide_eq_true q)
      exact ⟨fun q => ⟨n1, n2, q⟩, fun q => q.2.2⟩
theorem mmg_no {st dl : Nat → Nat} {B d : Nat} {l : List Nat} (hB : B ≤ 900) (hl : ∀ b, b ∈ l → b < 900) : mmg kb bi st dl B key d l = 1000 ↔ (∀ b, b ∈ l → kb b ≠ key) ∧ (∀ b, b < B → st b = 1 → dl b = d → kb b ≠ key) ∧ (∀ b, b < B → st b = 0 → kb b ≠ key) ∧ bim bi key = 1000 := by
  have f1 := fls_no (P := fun b => decide (kb b = key)) l (fun b hb => by have := hl b hb; omega)
  have f2 := fup_no (P := pS kb st dl key d 1) B 0 (by omega)
  have f3 := fup_no (P := pS kb st dl key d 0) B 0 (by omega)
  have g1 := fls_ge (P := fun b => decide (kb b = key)) l
  have g2 := fup_ge (P := pS kb st dl key d 1) B 0
  have g3 := fup_ge (P := pS kb st dl key d 0) B 0
  unfold mmg
  by_cases s1 : fls (fun b => decide (kb b = key)) l < 1000
  · rw [if_pos s1]
    have := g1.elim (fun q => by omega) (fun q => hl _ q.1)
    refine ⟨fun q => by omega, fun q => ?_⟩
    rcases g1 with q1 | ⟨q1, q2⟩
    · omega
    · exact absurd (of_decide_eq_true q2) (q.1 _ q1)
  · rw [if_neg s1]
    have s1' : fls (fun b => decide (kb b = key)) l = 1000 := by
      rcases g1 with q | ⟨q, -⟩
      · exact q
      · have := hl _ q; omega
    have n1 : ∀ b, b ∈ l → kb b ≠ key := fun b hb q => f1.mp s1' b hb (decide_eq_true q)
    by_cases s2 : fup (pS kb st dl key d 1) 0 B < 1000
    · rw [if_pos s2]
      rcases g2 with q | ⟨q1, q2, q3⟩
      · omega
      · obtain ⟨p1, p2, p3⟩ := of_decide_eq_true q3
        refine ⟨fun q => by omega, fun q => absurd p2 (q.2.1 _ (by omega) p1 (by omega))⟩
    · rw [if_neg s2]
      have n2 : ∀ b, b < B → st b = 1 → dl b = d → kb b ≠ key := fun b hb h1 h2 q => f2.mp (by omega) b (by omega) (by omega) (decide_eq_true ⟨h1, q, Or.inr h2⟩)
      by_cases s3 : fup (pS kb st dl key d 0) 0 B < 1000
      · rw [if_pos s3]
        rcases g3 with q | ⟨q1, q2, q3⟩
        · omega
        · obtain ⟨p1, p2, p3⟩ := of_decide_eq_true q3
          refine ⟨fun q => by omega, fun q => absurd p2 (q.2.2.1 _ (by omega) p1)⟩
      · rw [if_neg s3]
        have n3 : ∀ b, b < B → st b = 0 → kb b ≠ key := fun b hb h1 q => f3.mp (by omega) b (by omega) (by omega) (decide_eq_true ⟨h1, q, Or.inl rfl⟩)
        exact ⟨fun q => ⟨n1, n2, n3, q⟩, fun q => q.2.2.2⟩
/-- which binders are a declaration's own, and which stand behind its name -/
theorem bd_0 (hT : TX kd pl nt z) {b : Nat} (hb : b < z 30 2) : (z 22 b = 0 ↔ b = z 16 (z 23 b)) ∧ (z 22 b = 1 ↔ z 16 (z 23 b) < b ∧ b ≤ z 16 (z 23 b) + z 17 (z 23 b)) ∧ z 22 b ≤ 2 ∧ z 23 b < z 30 1 := by
  obtain ⟨-, -, t8, t9, t10⟩ := hT
  obtain ⟨a1, a2, a3⟩ := t10 b hb
  obtain ⟨-, -, d6⟩ := t8 _ a1
  rcases a3 with a | ⟨a, a', -⟩
  · obtain ⟨-, -, -, e22, -⟩ := d6 (b - z 16 (z 23 b)) (by omega)
    rw [show z 16 (z 23 b) + (b - z 16 (z 23 b)) = b by omega] at e22
    rw [e22]
    by_cases s : b - z 16 (z 23 b) = 0
    · rw [if_pos s]; omega
    · rw [if_neg s]; omega
  · rw [a']; omega
theorem mg_no (hT : TX kd pl nt z) (ho : hot z) {n : Nat} (hn : n < z 30 0) : mgz ky bi z n = 1000 ↔ mgm ky bi z n = 1000 := by
  obtain ⟨-, -, lm⟩ := node_ch hT ho hn
  have hT' := hT
  obtain ⟨⟨hw, h03⟩, ⟨t1, -⟩, t8, t9, t10⟩ := hT
  obtain ⟨v1, v2, v3, v4, v5, v6⟩ := hw
  have hd := (t1 n hn).2.2.2.2.1
  obtain ⟨-, ⟨d3, d4, d5⟩, d6⟩ := t8 _ hd
  unfold mgz mgm
  rw [cmg_no v6 (fun d q => by have := (t8 d q).2.1.1; omega) (fun b hb => by
    unfold clz at hb
    rcases List.mem_append.mp hb with q | q
    · have := (lm b q).1; omega
    · have := (pds_mem _ _ _).mp q; omega), mmg_no (by omega) (fun b hb => by have := (lm b hb).1; omega)]
  constructor
  · rintro ⟨a1, a2, a3⟩
    refine ⟨fun b hb => a1 b (List.mem_append_left _ hb), fun b hb h1 h2 => ?_, fun b hb h0 => ?_, a3⟩
    · have := (bd_0 hT' hb).2.1.mp h1
      rw [h2] at this
      exact a1 b (List.mem_append_right _ ((pds_mem _ _ _).mpr this))
    · have e := (bd_0 hT' hb).1.mp h0
      rw [e]
      exact a2 _ (bd_0 hT' hb).2.2.2
  · rintro ⟨a1, a2, a3, a4⟩
    refine ⟨fun b hb => ?_, fun d q => ?_, a4⟩
    · unfold clz at hb
      rcases List.mem_append.mp hb with q | q
      · exact a1 b q
      · have hq := (pds_mem _ _ _).mp q
        obtain ⟨-, -, -, e22, e23⟩ := d6 (b - z 16 (z 14 n)) (by omega)
        rw [show z 16 (z 14 n) + (b - z 16 (z 14 n)) = b by omega] at e22 e23
        rw [if_neg (by omega)] at e22
        exact a2 b (by omega) e22 e23
    · obtain ⟨-, ⟨c3, -⟩, c6⟩ := t8 d q
      obtain ⟨-, -, -, e22, -⟩ := c6 0 (by omega)
      rw [Nat.add_zero, if_pos rfl] at e22
      exact a3 _ (by omega) e22
end NAMES
