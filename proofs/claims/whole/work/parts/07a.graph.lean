/-! ===== forests of cells, types as finite trees, what a graph of cells says of them ===== -/
/-- parents P of n cells; dp falls along them and is at most u -/
def fo (P : Nat → Nat) (n : Nat) (dp : Nat → Nat) (u : Nat) : Prop := ∀ j, j < n → P j < n ∧ (P j = j → dp j = 0) ∧ (P j ≠ j → dp (P j) < dp j) ∧ dp j ≤ u
def rti (P : Nat → Nat) : Nat → Nat → Nat
  | 0, j => j
  | i + 1, j => rti P i (P j)
theorem rti_succ (P : Nat → Nat) (i j : Nat) : rti P (i + 1) j = rti P i (P j) := rfl
/-- the root of a cell (no way up is longer than 10000 here) -/
def rt (P : Nat → Nat) (j : Nat) : Nat := rti P 10000 j
theorem rti_spec {P dp : Nat → Nat} {n u : Nat} (h : fo P n dp u) : ∀ (i j : Nat), j < n → dp j ≤ i → rti P i j < n ∧ P (rti P i j) = rti P i j := by
  intro i
  induction i with
  | zero =>
    intro j hj hd
    have h1 := h j hj
    refine ⟨hj, ?_⟩
    by_cases e : P j = j
    · exact e
    · have := h1.2.2.1 e; omega
  | succ i ih =>
    intro j hj hd
    have h1 := h j hj
    by_cases e : P j = j
    · show rti P i (P j) < n ∧ P (rti P i (P j)) = rti P i (P j)
      rw [e]
      exact ih j hj (by rw [h1.2.1 e]; omega)
    · exact ih (P j) h1.1 (by have := h1.2.2.1 e; omega)
theorem rti_stay {P : Nat → Nat} {j : Nat} (e : P j = j) : ∀ i, rti P i j = j := by
  intro i
  induction i with
  | zero => rfl
  | succ i ih => show rti P i (P j) = j; rw [e]; exact ih
theorem rti_more {P dp : Nat → Nat} {n u : Nat} (h : fo P n dp u) : ∀ (i j k : Nat), j < n → dp j ≤ i → i ≤ k → rti P k j = rti P i j := by
  intro i
  induction i with
  | zero =>
    intro j k hj hd _
    have e : P j = j := by
      by_cases e : P j = j
      · exact e
      · have := (h j hj).2.2.1 e; omega
    rw [rti_stay e, rti_stay e]
  | succ i ih =>
    intro j k hj hd hk
    match k, hk with
    | k + 1, hk =>
      by_cases e : P j = j
      · rw [rti_stay e, rti_stay e]
      · exact ih (P j) k (h j hj).1 (by have := (h j hj).2.2.1 e; omega) (by omega)
section FO
variable {P dp : Nat → Nat} {n u : Nat}
theorem rt_lt (h : fo P n dp u) (hu : u ≤ 9999) {j : Nat} (hj : j < n) : rt P j < n := (rti_spec h 10000 j hj (by have := (h j hj).2.2.2; omega)).1
theorem rt_root (h : fo P n dp u) (hu : u ≤ 9999) {j : Nat} (hj : j < n) : P (rt P j) = rt P j := (rti_spec h 10000 j hj (by have := (h j hj).2.2.2; omega)).2
theorem rt_self {j : Nat} (e : P j = j) : rt P j = j := rti_stay e 10000
theorem rt_up (h : fo P n dp u) (hu : u ≤ 9999) {j : Nat} (hj : j < n) : rt P (P j) = rt P j := by
  have h1 := (h j hj).2.2.2
  by_cases e : P j = j
  · rw [e]
  · have h2 := (h j hj).2.2.1 e
    have e1 : rt P j = rti P 9999 (P j) := rti_succ P 9999 j
    rw [e1]
    exact rti_more h 9999 (P j) 10000 (h j hj).1 (by omega) (by omega)
/-- a way shortened keeps all roots -/
theorem fo_half (h : fo P n dp u) {r : Nat} (hr : r < n) : fo (fun j => if j = r then P (P r) else P j) n dp u := by
  intro j hj
  have h1 := h j hj
  by_cases e : j = r
  · subst e
    have h2 := h (P j) h1.1
    simp only [if_true]
    refine ⟨h2.1, fun e2 => ?_, fun e2 => ?_, h1.2.2.2⟩
    · by_cases e3 : P j = j
      · exact h1.2.1 e3
      · have h3 := h1.2.2.1 e3
        by_cases e4 : P (P j) = P j
        · rw [e4] at e2; exact absurd e2 e3
        · have h4 := h2.2.2.1 e4
          rw [e2] at h4; omega
    · by_cases e3 : P j = j
      · rw [e3, e3] at e2; exact absurd rfl e2
      · have h3 := h1.2.2.1 e3
        by_cases e4 : P (P j) = P j
        · rw [e4]; exact h3
        · have h4 := h2.2.2.1 e4; omega
  · simp only [if_neg e]
    exact h1
theorem rt_half (h : fo P n dp u) (hu : u ≤ 9999) {r : Nat} (hr : r < n) : ∀ (m j : Nat), j < n → dp j ≤ m → rt (fun j => if j = r then P (P r) else P j) j = rt P j := by
  have hf := fo_half h hr
  intro m
  induction m with
  | zero =>
    intro j hj hd
    have e : P j = j := by
      by_cases e : P j = j
      · exact e
      · have := (h j hj).2.2.1 e; omega
    have e2 : (fun j => if j = r then P (P r) else P j) j = j := by
      by_cases e3 : j = r
      · subst e3; simp [e]
      · simp [e3, e]
    rw [rt_self e, rt_self e2]
  | succ m ih =>
    intro j hj hd
    by_cases e : P j = j
    · have e2 : (fun j => if j = r then P (P r) else P j) j = j := by
        by_cases e3 : j = r
        · subst e3; simp [e]
        · simp [e3, e]
      rw [rt_self e, rt_self e2]
    · have h1 := h j hj
      have h3 := h1.2.2.1 e
      rw [← rt_up hf hu hj]
      by_cases e3 : j = r
      · subst e3
        simp only [if_true]
        have h2 := h (P j) h1.1
        have hd2 : dp (P (P j)) ≤ m := by
          by_cases e4 : P (P j) = P j
          · rw [e4]; omega
          · have := h2.2.2.1 e4; omega
        rw [ih (P (P j)) h2.1 hd2, rt_up h hu h1.1, rt_up h hu hj]
      · simp only [if_neg e3]
        rw [ih (P j) h1.1 (by omega), rt_up h hu hj]
/-- one root put under another -/
theorem fo_join (h : fo P n dp u) (hu : u ≤ 9998) {a b : Nat} (ha : a < n) (hb : b < n) (ea : P a = a) (eb : P b = b) (hne : a ≠ b) : fo (fun j => if j = a then b else P j) n (fun j => if rt P j = a then dp j + 1 else dp j) (u + 1) := by
  intro j hj
  have h1 := h j hj
  by_cases e : j = a
  · subst e
    simp only [if_true, rt_self ea, rt_self eb]
    have hb0 := (h b hb).2.1 eb
    refine ⟨hb, fun q => absurd q.symm hne, fun _ => ?_, by omega⟩
    rw [if_neg (fun q => hne q.symm)]
    omega
  · simp only [if_neg e]
    refine ⟨h1.1, fun q => ?_, fun q => ?_, ?_⟩
    · rw [rt_self q, if_neg e]; exact h1.2.1 q
    · rw [rt_up h (by omega) hj]
      have := h1.2.2.1 q
      split <;> omega
    · split <;> omega
theorem rt_join (h : fo P n dp u) (hu : u ≤ 9998) {a b : Nat} (ha : a < n) (hb : b < n) (ea : P a = a) (eb : P b = b) (hne : a ≠ b) : ∀ (m j : Nat), j < n → dp j ≤ m → rt (fun j => if j = a then b else P j) j = if rt P j = a then b else rt P j := by
  have hf := fo_join h hu ha hb ea eb hne
  have eb2 : (fun j => if j = a then b else P j) b = b := by simp [fun q : b = a => hne q.symm, eb]
  intro m
  induction m with
  | zero =>
    intro j hj hd
    have e : P j = j := by
      by_cases e : P j = j
      · exact e
      · have := (h j hj).2.2.1 e; omega
    by_cases e3 : j = a
    · subst e3
      rw [← rt_up hf (by omega) hj, rt_self e, if_pos rfl]
      simp only [if_true]
      exact rt_self eb2
    · have e2 : (fun j => if j = a then b else P j) j = j := by simp [e3, e]
      rw [rt_self e, rt_self e2, if_neg e3]
  | succ m ih =>
    intro j hj hd
    by_cases e : P j = j
    · by_cases e3 : j = a
      · subst e3
        rw [← rt_up hf (by omega) hj, rt_self e, if_pos rfl]
        simp only [if_true]
        exact rt_self eb2
      · have e2 : (fun j => if j = a then b else P j) j = j := by simp [e3, e]
        rw [rt_self e, rt_self e2, if_neg e3]
    · have e3 : j ≠ a := fun q => e (by rw [q]; exact ea)
      rw [← rt_up hf (by omega) hj]
      simp only [if_neg e3]
      rw [ih (P j) (h j hj).1 (by have := (h j hj).2.2.1 e; omega), rt_up h (by omega) hj]
end FO
/-- finite types: zero Num, param a Bool, param b Text, succ lists, max pairs, imax functions -/
abbrev Ty : Type := Lean.Level
def con (s : Nat) (a b : Ty) : Ty := match s with
  | 1 => .zero
  | 2 => .param `a
  | 3 => .param `b
  | 4 => .succ a
  | 5 => .max a b
  | _ => .imax a b
theorem con_inj {s t : Nat} {a b a' b' : Ty} (hs : 1 ≤ s ∧ s ≤ 6) (ht : 1 ≤ t ∧ t ≤ 6) (h : con s a b = con t a' b') : s = t ∧ (4 ≤ s → a = a') ∧ (5 ≤ s → b = b') := by
  rcases (show s = 1 ∨ s = 2 ∨ s = 3 ∨ s = 4 ∨ s = 5 ∨ s = 6 by omega) with rfl | rfl | rfl | rfl | rfl | rfl <;> rcases (show t = 1 ∨ t = 2 ∨ t = 3 ∨ t = 4 ∨ t = 5 ∨ t = 6 by omega) with rfl | rfl | rfl | rfl | rfl | rfl <;> simp_all [con]
theorem con_lt {s : Nat} {a b : Ty} (hs : 1 ≤ s ∧ s ≤ 6) : (4 ≤ s → SizeOf.sizeOf a < SizeOf.sizeOf (con s a b)) ∧ (5 ≤ s → SizeOf.sizeOf b < SizeOf.sizeOf (con s a b)) := by
  rcases (show s = 1 ∨ s = 2 ∨ s = 3 ∨ s = 4 ∨ s = 5 ∨ s = 6 by omega) with rfl | rfl | rfl | rfl | rfl | rfl <;> simp [con] <;> omega
theorem con_parts {s : Nat} {a b a' b' : Ty} (h1 : 4 ≤ s → a = a') (h2 : 5 ≤ s → b = b') (hs : 1 ≤ s ∧ s ≤ 6) : con s a b = con s a' b' := by
  rcases (show s = 1 ∨ s = 2 ∨ s = 3 ∨ s = 4 ∨ s = 5 ∨ s = 6 by omega) with rfl | rfl | rfl | rfl | rfl | rfl <;> simp_all [con]
/-- what n cells with parents, sorts and parts say of their types -/
def Sol (n : Nat) (P So Le Ri : Nat → Nat) (val : Nat → Ty) : Prop := ∀ j, j < n → val j = val (P j) ∧ (So j ≠ 0 → val j = con (So j) (val (Le j)) (val (Ri j)))
/-- sorts are 0 .. 6, parts are cells -/
def gok (n : Nat) (So Le Ri : Nat → Nat) : Prop := ∀ j, j < n → So j ≤ 6 ∧ (4 ≤ So j → Le j < n) ∧ (5 ≤ So j → Ri j < n)
theorem Sol_rt {n u : Nat} {P dp So Le Ri : Nat → Nat} {val : Nat → Ty} (hf : fo P n dp u) (h : Sol n P So Le Ri val) : ∀ (i j : Nat), j < n → val (rti P i j) = val j := by
  intro i
  induction i with
  | zero => intro j _; rfl
  | succ i ih =>
    intro j hj
    show val (rti P i (P j)) = val j
    rw [ih (P j) (hf j hj).1, ← (h j hj).1]
theorem Sol_half {n u : Nat} {P dp So Le Ri : Nat → Nat} {val : Nat → Ty} (hf : fo P n dp u) {r : Nat} (hr : r < n) : Sol n (fun j => if j = r then P (P r) else P j) So Le Ri val ↔ Sol n P So Le Ri val := by
  constructor
  · intro h j hj
    refine ⟨?_, (h j hj).2⟩
    by_cases e : j = r
    · subst e
      have h1 := (h j hj).1
      simp only [if_true] at h1
      have h2 := (h (P j) (hf j hj).1).1
      by_cases e2 : P j = j
      · rw [e2]
      · simp only [if_neg e2] at h2
        rw [h1, h2]
    · have h1 := (h j hj).1
      simp only [if_neg e] at h1
      exact h1
  · intro h j hj
    refine ⟨?_, (h j hj).2⟩
    by_cases e : j = r
    · subst e
      simp only [if_true]
      rw [(h j hj).1, (h (P j) (hf j hj).1).1]
    · simp only [if_neg e]
      exact (h j hj).1
theorem Sol_join {n : Nat} {P So Le Ri : Nat → Nat} {val : Nat → Ty} {a b : Nat} (ha : a < n) (ea : P a = a) : Sol n (fun j => if j = a then b else P j) So Le Ri val ↔ Sol n P So Le Ri val ∧ val a = val b := by
  constructor
  · intro h
    refine ⟨fun j hj => ⟨?_, (h j hj).2⟩, ?_⟩
    · by_cases e : j = a
      · rw [e, ea]
      · have h1 := (h j hj).1
        simp only [if_neg e] at h1
        exact h1
    · have h1 := (h a ha).1
      simp only [if_true] at h1
      exact h1
  · rintro ⟨h, hv⟩ j hj
    refine ⟨?_, (h j hj).2⟩
    by_cases e : j = a
    · simp only [e, if_true]; exact hv
    · simp only [if_neg e]; exact (h j hj).1
