/-! ===== names: both searches find alike ===== -/
def pds (b0 : Nat) : Nat → List Nat
  | 0 => []
  | k + 1 => (b0 + k + 1) :: pds b0 k
def arM (z : Zt) (b : Nat) : Int32 := if z 22 b = 2 then sM z (z 21 b) else -9
def MIN (P : Nat → Prop) (v : Nat) : Prop := (v = 1000 ∧ ∀ t, ¬ P t) ∨ (v ≤ 240 ∧ P v ∧ ∀ t, P t → v ≤ t)
section PURE
variable {P : Nat → Bool} {z : Zt} {kb bi : Nat → Int64} {kd pl : Nat → Nat} {nt : Nat} {key : Int64}
theorem exU_iff : ∀ (m a : Nat), exU P a m = true ↔ ∃ i, a ≤ i ∧ i < a + m ∧ P i = true := by
  intro m
  induction m with
  | zero => intro a; exact ⟨fun h => (by cases h), fun ⟨i, h1, h2, _⟩ => by omega⟩
  | succ m ih =>
    intro a
    unfold exU
    by_cases h : P a = true
    · rw [if_pos h]; exact ⟨fun _ => ⟨a, Nat.le_refl _, by omega, h⟩, fun _ => rfl⟩
    · rw [if_neg h, ih (a + 1)]
      refine ⟨fun ⟨i, h1, h2, h3⟩ => ⟨i, by omega, by omega, h3⟩, fun ⟨i, h1, h2, h3⟩ => ⟨i, ?_, by omega, h3⟩⟩
      by_cases q : i = a
      · rw [q] at h3; exact absurd h3 h
      · omega
theorem fup_no : ∀ (m a : Nat), a + m ≤ 1000 → (fup P a m = 1000 ↔ ∀ i, a ≤ i → i < a + m → P i ≠ true) := by
  intro m
  induction m with
  | zero => intro a _; exact ⟨fun _ i h1 h2 => by omega, fun _ => rfl⟩
  | succ m ih =>
    intro a ha
    unfold fup
    by_cases h : P a = true
    · rw [if_pos h]; exact ⟨fun q => by omega, fun q => absurd h (q a (Nat.le_refl _) (by omega))⟩
    · rw [if_neg h, ih (a + 1) (by omega)]
      refine ⟨fun q i h1 h2 => ?_, fun q i h1 h2 => q i (by omega) (by omega)⟩
      by_cases s : i = a
      · rw [s]; exact h
      · exact q i (by omega) (by omega)
theorem fup_lt : ∀ (m a : Nat), a + m ≤ 1000 → fup P a m < 1000 → (a ≤ fup P a m ∧ fup P a m < a + m ∧ P (fup P a m) = true ∧ ∀ i, a ≤ i → i < fup P a m → P i ≠ true) := by
  intro m
  induction m with
  | zero => intro a _ h; exact absurd h (by show ¬ (1000 < 1000); omega)
  | succ m ih =>
    intro a ha
    unfold fup
    by_cases h : P a = true
    · rw [if_pos h]; exact fun _ => ⟨Nat.le_refl _, by omega, h, fun i h1 h2 => by omega⟩
    · rw [if_neg h]
      intro hl
      obtain ⟨h1, h2, h3, h4⟩ := ih (a + 1) (by omega) hl
      refine ⟨by omega, by omega, h3, fun i i1 i2 => ?_⟩
      by_cases s : i = a
      · rw [s]; exact h
      · exact h4 i (by omega) i2
theorem fls_no : ∀ (l : List Nat), (∀ b, b ∈ l → b < 1000) → (fls P l = 1000 ↔ ∀ b, b ∈ l → P b ≠ true) := by
  intro l
  induction l with
  | nil => intro _; exact ⟨fun _ b hb => (by cases hb), fun _ => rfl⟩
  | cons c l ih =>
    intro hl
    unfold fls
    by_cases h : P c = true
    · rw [if_pos h]
      exact ⟨fun q => by have := hl c List.mem_cons_self; omega, fun q => absurd h (q c List.mem_cons_self)⟩
    · rw [if_neg h, ih (fun b hb => hl b (List.mem_cons_of_mem _ hb))]
      refine ⟨fun q b hb => ?_, fun q b hb => q b (List.mem_cons_of_mem _ hb)⟩
      rcases List.mem_cons.mp hb with s | s
      · rw [s]; exact h
      · exact q b s
theorem fls_app : ∀ (l l2 : List Nat), fls P l < 1000 → fls P (l ++ l2) = fls P l := by
  intro l
  induction l with
  | nil => intro l2 h; exact absurd h (by show ¬ (1000 < 1000); omega)
  | cons c l ih =>
    intro l2
    show (if P c = true then c else fls P l) < 1000 → (if P c = true then c else fls P (l ++ l2)) = if P c = true then c else fls P l
    by_cases h : P c = true
    · rw [if_pos h, if_pos h]; exact fun _ => rfl
    · rw [if_neg h, if_neg h]; exact ih l2
theorem fls_app2 : ∀ (l l2 : List Nat), (∀ b, b ∈ l → P b ≠ true) → fls P (l ++ l2) = fls P l2 := by
  intro l
  induction l with
  | nil => intro l2 _; rfl
  | cons c l ih =>
    intro l2 h
    show (if P c = true then c else fls P (l ++ l2)) = fls P l2
    rw [if_neg (h c List.mem_cons_self)]
    exact ih l2 (fun b hb => h b (List.mem_cons_of_mem _ hb))
theorem pds_mem : ∀ (k b0 b : Nat), b ∈ pds b0 k ↔ b0 < b ∧ b ≤ b0 + k := by
  intro k
  induction k with
  | zero => intro b0 b; exact ⟨fun h => (by cases h), fun h => by omega⟩
  | succ k ih =>
    intro b0 b
    unfold pds
    rw [List.mem_cons, ih b0 b]
    omega
theorem pds_cch {ot : Nat → Nat} {B b0 : Nat} : ∀ (k : Nat), b0 + k < B → (∀ i, 1 ≤ i → i ≤ k → ot (b0 + i) = if i ≤ 1 then 1000 else 10 + b0 + i) → cch ot B (if k = 0 then 1000 else 11 + b0 + k) (pds b0 k) := by
  intro k
  induction k with
  | zero => intro _ _; exact if_pos rfl
  | succ k ih =>
    intro hB ho
    rw [if_neg (by omega)]
    refine ⟨by omega, by omega, ?_⟩
    have e := ho (k + 1) (by omega) (Nat.le_refl _)
    rw [show b0 + k + 1 = b0 + (k + 1) by omega, e]
    have := ih (by omega) (fun i h1 h2 => ho i h1 (by omega))
    by_cases s : k = 0
    · rw [if_pos (by omega)]
      rw [if_pos s] at this
      exact this
    · rw [if_neg (by omega)]
      rw [if_neg s] at this
      rw [show 10 + b0 + (k + 1) = 11 + b0 + k by omega]
      exact this
theorem scl_cch {s0 : Nat} {l2 : List Nat} : ∀ (l : List Nat) (s : Nat), scl z s l s0 → cch (z 21) (z 30 2) s0 l2 → cch (z 21) (z 30 2) s (l ++ l2) := by
  intro l
  induction l with
  | nil => intro s h h2; have h : s = s0 := h; rw [h]; exact h2
  | cons b l ih => intro s ⟨a1, a2, a3, a4⟩ h2; exact ⟨a1, a3, ih _ a4 h2⟩
theorem scl_mch {s0 : Nat} (h0 : sM z s0 = -9) (hB : z 30 2 ≤ 900) : ∀ (l : List Nat) (s : Nat), scl z s l s0 → mch (arM z) (z 30 2) (sM z s) l := by
  intro l
  induction l with
  | nil => intro s h; have h : s = s0 := h; rw [h]; exact h0
  | cons b l ih =>
    intro s ⟨a1, a2, a3, a4⟩
    refine ⟨?_, a3, ?_⟩
    · rw [a1]
      unfold sM
      rw [if_pos ⟨by omega, by omega, by rw [Nat.add_sub_cancel_left]; exact a2⟩, Nat.add_sub_cancel_left]
    · unfold arM
      rw [if_pos a2]
      exact ih _ a4
theorem scl_mem {s0 : Nat} : ∀ (l : List Nat) (s : Nat), scl z s l s0 → ∀ b, b ∈ l → b < z 30 2 ∧ z 22 b = 2 := by
  intro l
  induction l with
  | nil => intro s _ b hb; cases hb
  | cons c l ih =>
    intro s ⟨a1, a2, a3, a4⟩ b hb
    rcases List.mem_cons.mp hb with h | h
    · rw [h]; exact ⟨a3, a2⟩
    · exact ih _ a4 b h
theorem cch_len {ot : Nat → Nat} {B : Nat} (hot : ∀ b, b < B → ot b = 1000 ∨ ot b < 11 + b) (hB : B ≤ 900) : ∀ (l : List Nat) (s : Nat), cch ot B s l → l.length ≤ (if s = 1000 then 0 else s - 10) := by
  intro l
  induction l with
  | nil => intro s _; exact Nat.zero_le _
  | cons b l ih =>
    intro s ⟨a1, a2, a3⟩
    have := ih _ a3
    rw [if_neg (by omega)]
    show l.length + 1 ≤ s - 10
    rcases hot b a2 with h | h
    · rw [if_pos h] at this; omega
    · rw [if_neg (by omega)] at this
      omega
theorem MIN_un {P : Nat → Prop} {v w : Nat} (h : MIN P v) (h2 : MIN P w) : v = w := by
  rcases h with ⟨a1, a2⟩ | ⟨a1, a2, a3⟩ <;> rcases h2 with ⟨b1, b2⟩ | ⟨b1, b2, b3⟩
  · omega
  · exact absurd b2 (a2 w)
  · exact absurd a2 (b2 v)
  · exact Nat.le_antisymm (a3 w b2) (b3 v a2)
theorem MIN_eq {P P' : Nat → Prop} {v : Nat} (h : MIN P v) (he : ∀ t, P t ↔ P' t) : MIN P' v := by
  rcases h with ⟨a1, a2⟩ | ⟨a1, a2, a3⟩
  · exact Or.inl ⟨a1, fun t q => a2 t ((he t).mpr q)⟩
  · exact Or.inr ⟨a1, (he v).mp a2, fun t q => a3 t ((he t).mpr q)⟩
theorem rmn_min {pl : Nat → Nat} : ∀ (m i v : Nat) (A : Nat → Prop), (∀ k, i ≤ k → k < i + m → P k = true → pl k ≤ 240) → MIN A v → MIN (fun t => A t ∨ ∃ k, i ≤ k ∧ k < i + m ∧ P k = true ∧ t = pl k) (rmn P pl i m v) := by
  intro m
  induction m with
  | zero => intro i v A _ h; exact MIN_eq h (fun t => ⟨Or.inl, fun q => q.elim id (fun ⟨k, h1, h2, _⟩ => by omega)⟩)
  | succ m ih =>
    intro i v A hp h
    unfold rmn
    have step : MIN (fun t => A t ∨ (P i = true ∧ t = pl i)) (if P i = true ∧ (v = 1000 ∨ pl i < v) then pl i else v) := by
      by_cases hP : P i = true
      · have h240 := hp i (Nat.le_refl _) (by omega) hP
        rcases h with ⟨a1, a2⟩ | ⟨a1, a2, a3⟩
        · rw [if_pos ⟨hP, Or.inl a1⟩]
          exact Or.inr ⟨h240, Or.inr ⟨hP, rfl⟩, fun t q => q.elim (fun q => absurd q (a2 t)) (fun q => by omega)⟩
        · by_cases hl : pl i < v
          · rw [if_pos ⟨hP, Or.inr hl⟩]
            exact Or.inr ⟨h240, Or.inr ⟨hP, rfl⟩, fun t q => q.elim (fun q => by have := a3 t q; omega) (fun q => by omega)⟩
          · rw [if_neg (by omega)]
            exact Or.inr ⟨a1, Or.inl a2, fun t q => q.elim (fun q => a3 t q) (fun q => by omega)⟩
      · rw [if_neg (fun q => hP q.1)]
        exact MIN_eq h (fun t => ⟨Or.inl, fun q => q.elim id (fun q => absurd q.1 hP)⟩)
    refine MIN_eq (ih (i + 1) _ _ (fun k k1 k2 => hp k (by omega) (by omega)) step) (fun t => ?_)
    refine ⟨fun q => ?_, fun q => ?_⟩
    · rcases q with (q | ⟨q1, q2⟩) | ⟨k, k1, k2, k3, k4⟩
      · exact Or.inl q
      · exact Or.inr ⟨i, Nat.le_refl _, by omega, q1, q2⟩
      · exact Or.inr ⟨k, by omega, by omega, k3, k4⟩
    · rcases q with q | ⟨k, k1, k2, k3, k4⟩
      · exact Or.inl (Or.inl q)
      · by_cases s : k = i
        · subst s; exact Or.inl (Or.inr ⟨k3, k4⟩)
        · exact Or.inr ⟨k, by omega, by omega, k3, k4⟩
theorem fmn_rmn {mg : Nat → Nat} : ∀ (m n v : Nat), fmn z mg n m v = rmn (fun n => decide (z 0 n = 0 ∧ mg n = 1000)) (z 7) n m v := by
  intro m
  induction m with
  | zero => intro n v; rfl
  | succ m ih =>
    intro n v
    unfold fmn rmn
    rw [ih (n + 1) _]
    congr 1
    by_cases h : z 0 n = 0 ∧ mg n = 1000 ∧ (v = 1000 ∨ z 7 n < v)
    · rw [if_pos h, if_pos ⟨decide_eq_true ⟨h.1, h.2.1⟩, h.2.2⟩]
    · rw [if_neg h, if_neg (fun q => h ⟨(of_decide_eq_true q.1).1, (of_decide_eq_true q.1).2, q.2⟩)]
/-- one to one below N: every number is met -/
theorem pig : ∀ (N : Nat) (f : Nat → Nat), (∀ i, i < N → f i < N) → (∀ i j, i < N → j < N → f i = f j → i = j) → ∀ k, k < N → ∃ i, i < N ∧ f i = k := by
  intro N
  induction N with
  | zero => intro f _ _ k hk; omega
  | succ N ih =>
    intro f h1 h2 k hk
    have g1 : ∀ i, i < N → (if f i = N then f N else f i) < N := fun i hi => by
      by_cases s : f i = N
      · rw [if_pos s]
        have a := h1 N (by omega)
        have b : f N ≠ N := fun q => by have := h2 i N (by omega) (by omega) (s.trans q.symm); omega
        omega
      · rw [if_neg s]
        have := h1 i (by omega)
        omega
    have g2 : ∀ i j, i < N → j < N → (if f i = N then f N else f i) = (if f j = N then f N else f j) → i = j := fun i j hi hj q => by
      by_cases s : f i = N <;> by_cases s2 : f j = N
      · exact h2 i j (by omega) (by omega) (s.trans s2.symm)
      · rw [if_pos s, if_neg s2] at q
        have := h2 N j (by omega) (by omega) q
        omega
      · rw [if_neg s, if_pos s2] at q
        have := h2 i N (by omega) (by omega) q
        omega
      · rw [if_neg s, if_neg s2] at q
        exact h2 i j (by omega) (by omega) q
    have ihh := ih (fun i => if f i = N then f N else f i) g1 g2
    by_cases km : k = f N
    · exact ⟨N, by omega, km.symm⟩
    · by_cases kN : k = N
      · have mN : f N < N := by have := h1 N (by omega); omega
        obtain ⟨i, i1, i2⟩ := ihh (f N) mN
        replace i2 : (if f i = N then f N else f i) = f N := i2
        by_cases s : f i = N
        · exact ⟨i, by omega, by omega⟩
        · rw [if_neg s] at i2
          have := h2 i N (by omega) (by omega) i2
          omega
      · obtain ⟨i, i1, i2⟩ := ihh k (by omega)
        replace i2 : (if f i = N then f N else f i) = k := i2
        by_cases s : f i = N
        · rw [if_pos s] at i2; omega
        · rw [if_neg s] at i2
          exact ⟨i, by omega, i2⟩
end PURE
