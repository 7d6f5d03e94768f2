/-! ===== peeling: rings among roots ===== -/
def wE (rr So Le Ri : Nat → Nat) (c r : Nat) : Nat := (if rr c = c ∧ 4 ≤ So c ∧ rr (Le c) = r then 1 else 0) + (if rr c = c ∧ 5 ≤ So c ∧ rr (Ri c) = r then 1 else 0)
/-- edges into r from cells below m that are not in D -/
def ec (w : Nat → Nat → Nat) (D : List Nat) : Nat → Nat → Nat
  | 0, _ => 0
  | m + 1, r => ec w D m r + (if m ∈ D then 0 else w m r)
theorem ec_cons {w : Nat → Nat → Nat} {D : List Nat} {c r : Nat} (hc : c ∉ D) : ∀ {m : Nat}, c < m → ec w (c :: D) m r + w c r = ec w D m r
  | 0, h => absurd h (Nat.not_lt_zero _)
  | m + 1, h => by
    show ec w (c :: D) m r + (if m ∈ c :: D then 0 else w m r) + w c r = ec w D m r + (if m ∈ D then 0 else w m r)
    by_cases e : m = c
    · subst e
      have h1 : ∀ k, k ≤ m → ec w (m :: D) k r = ec w D k r := by
        intro k
        induction k with
        | zero => intro _; rfl
        | succ k ih =>
          intro hk
          show ec w (m :: D) k r + (if k ∈ m :: D then 0 else w k r) = ec w D k r + (if k ∈ D then 0 else w k r)
          rw [ih (by omega)]
          have : (k ∈ m :: D) ↔ k ∈ D := ⟨fun q => (List.mem_cons.mp q).resolve_left (by omega), fun q => List.mem_cons_of_mem _ q⟩
          simp only [this]
      rw [h1 m (Nat.le_refl _), if_pos List.mem_cons_self, if_neg hc]
      omega
    · have h1 := ec_cons (w := w) (r := r) hc (m := m) (by omega)
      have : (m ∈ c :: D) ↔ m ∈ D := ⟨fun q => (List.mem_cons.mp q).resolve_left e, fun q => List.mem_cons_of_mem _ q⟩
      simp only [this]
      omega
theorem ec_pos {w : Nat → Nat → Nat} {D : List Nat} {r : Nat} : ∀ {m : Nat}, ec w D m r ≠ 0 → ∃ c, c < m ∧ c ∉ D ∧ w c r ≠ 0
  | 0, h => absurd rfl h
  | m + 1, h => by
    by_cases h1 : ec w D m r = 0
    · have h2 : (if m ∈ D then 0 else w m r) ≠ 0 := by
        intro q
        apply h
        show ec w D m r + (if m ∈ D then 0 else w m r) = 0
        rw [h1, q]
      by_cases h3 : m ∈ D
      · rw [if_pos h3] at h2; exact absurd rfl h2
      · rw [if_neg h3] at h2; exact ⟨m, by omega, h3, h2⟩
    · obtain ⟨c, a, b⟩ := ec_pos h1
      exact ⟨c, by omega, b⟩
theorem ec_ge {w : Nat → Nat → Nat} {D : List Nat} {r c : Nat} (hD : c ∉ D) : ∀ {m : Nat}, c < m → w c r ≤ ec w D m r
  | 0, h => absurd h (Nat.not_lt_zero _)
  | m + 1, h => by
    show w c r ≤ ec w D m r + (if m ∈ D then 0 else w m r)
    by_cases e : m = c
    · subst e; rw [if_neg hD]; omega
    · have := ec_ge (w := w) (r := r) hD (m := m) (by omega); omega
theorem ec_le {w : Nat → Nat → Nat} {D : List Nat} {r : Nat} (hw : ∀ c, w c r ≤ 2) : ∀ {m : Nat}, ec w D m r ≤ 2 * m
  | 0 => Nat.le_refl _
  | m + 1 => by
    have h1 := ec_le (D := D) hw (m := m)
    have h2 := hw m
    show ec w D m r + (if m ∈ D then 0 else w m r) ≤ 2 * (m + 1)
    split <;> omega
theorem wE_le {rr So Le Ri : Nat → Nat} {c r : Nat} : wE rr So Le Ri c r ≤ 2 := by
  unfold wE
  split <;> split <;> omega
theorem sub_len : ∀ {A B : List Nat}, A.Nodup → (∀ x ∈ A, x ∈ B) → A.length ≤ B.length
  | [], _, _, _ => Nat.zero_le _
  | a :: A, B, h, hs => by
    have h1 := List.nodup_cons.mp h
    have hm := hs a List.mem_cons_self
    have h2 : A.length ≤ (B.erase a).length := sub_len h1.2 (fun x hx => by
      have hne : x ≠ a := fun q => h1.1 (q ▸ hx)
      exact (List.mem_erase_of_ne hne).mpr (hs x (List.mem_cons_of_mem _ hx)))
    have h3 := List.length_erase_of_mem hm
    have h4 : 0 < B.length := List.length_pos_of_mem hm
    simp only [List.length_cons]
    omega
theorem nd_mid {A B : List Nat} {a : Nat} : (A ++ a :: B).Nodup ↔ (a :: (A ++ B)).Nodup := by
  simp only [List.nodup_append, List.nodup_cons, List.mem_append, List.mem_cons]
  constructor
  · rintro ⟨h1, ⟨h2, h3⟩, h4⟩
    exact ⟨fun q => q.elim (fun z => h4 a z a (Or.inl rfl) rfl) h2, h1, h3, fun x hx y hy => h4 x hx y (Or.inr hy)⟩
  · rintro ⟨h1, h2, h3, h4⟩
    refine ⟨h2, ⟨fun q => h1 (Or.inr q), h3⟩, fun x hx y hy => ?_⟩
    rcases hy with rfl | hy
    · exact fun q => h1 (Or.inl (q ▸ hx))
    · exact h4 x hx y hy
def rl (rr : Nat → Nat) : Nat → List Nat
  | 0 => []
  | m + 1 => if rr m = m then m :: rl rr m else rl rr m
theorem rl_mem {rr : Nat → Nat} {x : Nat} : ∀ {n : Nat}, x ∈ rl rr n ↔ (x < n ∧ rr x = x)
  | 0 => by simp [rl]
  | n + 1 => by
    have ih := rl_mem (rr := rr) (x := x) (n := n)
    unfold rl
    split
    · rename_i h
      rw [List.mem_cons, ih]
      constructor
      · rintro (rfl | h1)
        · exact ⟨by omega, h⟩
        · exact ⟨by omega, h1.2⟩
      · rintro ⟨h1, h2⟩
        by_cases e : x = n
        · exact Or.inl e
        · exact Or.inr ⟨by omega, h2⟩
    · rename_i h
      rw [ih]
      constructor
      · rintro ⟨h1, h2⟩; exact ⟨by omega, h2⟩
      · rintro ⟨h1, h2⟩
        by_cases e : x = n
        · subst e; exact absurd h2 h
        · exact ⟨by omega, h2⟩
theorem rl_nodup {rr : Nat → Nat} : ∀ {n : Nat}, (rl rr n).Nodup
  | 0 => List.nodup_nil
  | n + 1 => by
    unfold rl
    split
    · exact List.nodup_cons.mpr ⟨fun q => by have := (rl_mem.mp q).1; omega, rl_nodup⟩
    · exact rl_nodup
/-- no ring: ranks fall along the parts of roots -/
def acy (n : Nat) (rr So Le Ri : Nat → Nat) : Prop := ∃ rk : Nat → Nat, ∀ c, c < n → rr c = c → (4 ≤ So c → rk (rr (Le c)) < rk c) ∧ (5 ≤ So c → rk (rr (Ri c)) < rk c)
/-- how far the peeling is: D peeled, the last one first, T waiting, k edges left by uses -/
def peel (n : Nat) (rr So Le Ri : Nat → Nat) (D T : List Nat) (us rk : Nat → Nat) : Prop :=
  (D ++ T).Nodup ∧ (∀ x ∈ D ++ T, x < n ∧ rr x = x) ∧ (∀ r, r < n → rr r = r → (us r = 0 ↔ r ∈ D ++ T)) ∧ (∀ d ∈ D, (rl rr n).length < rk d + D.length) ∧
  (∀ c r, c < n → r < n → rr r = r → wE rr So Le Ri c r ≠ 0 → r ∈ D → rk r < rk c)
theorem wE_src {rr So Le Ri : Nat → Nat} {c r : Nat} (h : wE rr So Le Ri c r ≠ 0) : rr c = c ∧ ((4 ≤ So c ∧ rr (Le c) = r) ∨ (5 ≤ So c ∧ rr (Ri c) = r)) := by
  unfold wE at h
  by_cases h1 : rr c = c ∧ 4 ≤ So c ∧ rr (Le c) = r
  · exact ⟨h1.1, Or.inl h1.2⟩
  · rw [if_neg h1] at h
    by_cases h2 : rr c = c ∧ 5 ≤ So c ∧ rr (Ri c) = r
    · exact ⟨h2.1, Or.inr h2.2⟩
    · rw [if_neg h2] at h; exact absurd rfl h
/-- all peeled: no ring -/
theorem peel_all {n : Nat} {rr So Le Ri : Nat → Nat} {D T : List Nat} {us rk : Nat → Nat} (hg : gok n So Le Ri) (hr : ∀ j, j < n → rr j < n ∧ rr (rr j) = rr j) (h : peel n rr So Le Ri D T us rk) (hD : D.length = (rl rr n).length) : acy n rr So Le Ri := by
  obtain ⟨h1, h2, h3, h4, h5⟩ := h
  have hall : ∀ x, x < n → rr x = x → x ∈ D := fun x hx hxr => Classical.byContradiction fun q => by
    have h6 : (x :: D).Nodup := List.nodup_cons.mpr ⟨q, (List.nodup_append.mp h1).1⟩
    have h7 := sub_len (B := rl rr n) h6 (fun y hy => by
      rcases List.mem_cons.mp hy with rfl | hy
      · exact rl_mem.mpr ⟨hx, hxr⟩
      · exact rl_mem.mpr (h2 y (List.mem_append_left _ hy)))
    simp only [List.length_cons] at h7
    omega
  refine ⟨rk, fun c hc hcr => ⟨fun z => ?_, fun z => ?_⟩⟩
  · have hl := hr _ ((hg c hc).2.1 z)
    refine h5 c _ hc hl.1 hl.2 (fun q => ?_) (hall _ hl.1 hl.2)
    unfold wE at q
    rw [if_pos ⟨hcr, z, rfl⟩] at q
    omega
  · have hl := hr _ ((hg c hc).2.2 z)
    refine h5 c _ hc hl.1 hl.2 (fun q => ?_) (hall _ hl.1 hl.2)
    unfold wE at q
    rw [if_pos (⟨hcr, z, rfl⟩ : rr c = c ∧ 5 ≤ So c ∧ rr (Ri c) = rr (Ri c))] at q
    omega
theorem size_top (val : Nat → Ty) : ∀ n : Nat, ∃ B, ∀ j, j < n → SizeOf.sizeOf (val j) ≤ B
  | 0 => ⟨0, fun j h => absurd h (Nat.not_lt_zero _)⟩
  | n + 1 => by
    obtain ⟨B, hB⟩ := size_top val n
    refine ⟨B + SizeOf.sizeOf (val n), fun j hj => ?_⟩
    by_cases e : j = n
    · subst e; omega
    · have := hB j (by omega); omega
/-- nothing waits, some are left: no types -/
theorem peel_ring {n u : Nat} {P dp So Le Ri : Nat → Nat} {D : List Nat} {us rk : Nat → Nat} {val : Nat → Ty} (hf : fo P n dp u) (hu : u ≤ 9999) (hg : gok n So Le Ri) (h : peel n (rt P) So Le Ri D [] us rk) (hus : ∀ r, r < n → us r = ec (wE (rt P) So Le Ri) D n r) (hD : D.length < (rl (rt P) n).length) (hs : Sol n P So Le Ri val) : False := by
  obtain ⟨h1, h2, h3, h4, h5⟩ := h
  rw [List.append_nil] at h1 h2 h3
  have hsome : ∃ x, x < n ∧ rt P x = x ∧ x ∉ D := Classical.byContradiction fun q => by
    have h6 := sub_len (A := rl (rt P) n) (B := D) rl_nodup (fun x hx => Classical.byContradiction fun z => q ⟨x, (rl_mem.mp hx).1, (rl_mem.mp hx).2, z⟩)
    omega
  have hup : ∀ k, ∃ x, x < n ∧ rt P x = x ∧ x ∉ D ∧ k ≤ SizeOf.sizeOf (val x) := by
    intro k
    induction k with
    | zero => obtain ⟨x, a, b, c⟩ := hsome; exact ⟨x, a, b, c, Nat.zero_le _⟩
    | succ k ih =>
      obtain ⟨x, a, b, c, d⟩ := ih
      have h7 : us x ≠ 0 := fun q => c ((h3 x a b).mp q)
      rw [hus x a] at h7
      obtain ⟨y, y1, y2, y3⟩ := ec_pos h7
      obtain ⟨s1, s2⟩ := wE_src y3
      have g1 := hg y y1
      have hy : So y ≠ 0 := by rcases s2 with q | q <;> omega
      have v1 := (hs y y1).2 hy
      refine ⟨y, y1, s1, y2, ?_⟩
      rcases s2 with q | q
      · have e1 : val (Le y) = val x := by
          have := Sol_rt hf hs 10000 (Le y) (g1.2.1 q.1)
          rw [← this]
          show val (rt P (Le y)) = val x
          rw [q.2]
        have := (con_lt (a := val (Le y)) (b := val (Ri y)) (s := So y) (by omega)).1 q.1
        rw [← v1, e1] at this
        omega
      · have e1 : val (Ri y) = val x := by
          have := Sol_rt hf hs 10000 (Ri y) (g1.2.2 q.1)
          rw [← this]
          show val (rt P (Ri y)) = val x
          rw [q.2]
        have := (con_lt (a := val (Le y)) (b := val (Ri y)) (s := So y) (by omega)).2 q.1
        rw [← v1, e1] at this
        omega
  obtain ⟨B, hB⟩ := size_top val n
  obtain ⟨x, a, -, -, d⟩ := hup (B + 1)
  have := hB x a
  omega
/-- the next one is taken off -/
theorem peel_pop {n : Nat} {rr So Le Ri : Nat → Nat} {D T : List Nat} {us rk : Nat → Nat} {c : Nat} (h : peel n rr So Le Ri D (c :: T) us rk) (hus : ∀ r, r < n → us r = ec (wE rr So Le Ri) D n r) : peel n rr So Le Ri (c :: D) T us (fun j => if j = c then (rl rr n).length - D.length else rk j) ∧ c < n ∧ rr c = c ∧ c ∉ D ∧ D.length < (rl rr n).length := by
  obtain ⟨h1, h2, h3, h4, h5⟩ := h
  have hc := h2 c (List.mem_append_right _ List.mem_cons_self)
  have hcD : c ∉ D := fun q => (List.nodup_append.mp h1).2.2 c q c List.mem_cons_self rfl
  have hp : ∀ x, x ∈ (c :: D) ++ T ↔ x ∈ D ++ (c :: T) := fun x => by
    simp only [List.mem_append, List.mem_cons]
    constructor
    · rintro ((q | q) | q)
      · exact Or.inr (Or.inl q)
      · exact Or.inl q
      · exact Or.inr (Or.inr q)
    · rintro (q | q | q)
      · exact Or.inl (Or.inr q)
      · exact Or.inl (Or.inl q)
      · exact Or.inr q
  have hN : D.length < (rl rr n).length := by
    have h6 : (c :: D).Nodup := List.nodup_cons.mpr ⟨hcD, (List.nodup_append.mp h1).1⟩
    have h7 := sub_len (B := rl rr n) h6 (fun y hy => by
      rcases List.mem_cons.mp hy with rfl | hy
      · exact rl_mem.mpr hc
      · exact rl_mem.mpr (h2 y (List.mem_append_left _ hy)))
    simp only [List.length_cons] at h7
    omega
  refine ⟨⟨?_, fun x hx => h2 x ((hp x).mp hx), fun r hr hrr => (h3 r hr hrr).trans (hp r).symm, fun d hd => ?_, fun x r hx hr hrr hw hrD => ?_⟩, hc.1, hc.2, hcD, hN⟩
  · have := nd_mid.mp h1
    exact this
  · show (rl rr n).length < (if d = c then (rl rr n).length - D.length else rk d) + (c :: D).length
    simp only [List.length_cons]
    rcases List.mem_cons.mp hd with rfl | hd
    · rw [if_pos rfl]; omega
    · have hne : d ≠ c := fun q => hcD (q ▸ hd)
      rw [if_neg hne]
      have := h4 d hd
      omega
  · have hxD : us r = 0 → x ∈ D := fun q => Classical.byContradiction fun z => by
      have h6 := ec_ge (w := wE rr So Le Ri) (r := r) z hx
      rw [← hus r hr, q] at h6
      exact hw (by omega)
    show (if r = c then (rl rr n).length - D.length else rk r) < (if x = c then (rl rr n).length - D.length else rk x)
    rcases List.mem_cons.mp hrD with rfl | hrD
    · have hx2 := hxD ((h3 r hr hrr).mpr (List.mem_append_right _ List.mem_cons_self))
      have hne : x ≠ r := fun q => hcD (q ▸ hx2)
      rw [if_pos rfl, if_neg hne]
      have := h4 x hx2
      omega
    · have hne : r ≠ c := fun q => hcD (q ▸ hrD)
      have hx2 := hxD ((h3 r hr hrr).mpr (List.mem_append_left _ hrD))
      have hne2 : x ≠ c := fun q => hcD (q ▸ hx2)
      rw [if_neg hne, if_neg hne2]
      exact h5 x r hx hr hrr hw hrD
/-- an edge less -/
theorem peel_less {n : Nat} {rr So Le Ri : Nat → Nat} {D T : List Nat} {us rk : Nat → Nat} {r : Nat} (h : peel n rr So Le Ri D T us rk) (hr : r < n) (hrr : rr r = r) (h1 : 1 ≤ us r) : peel n rr So Le Ri D (if us r = 1 then r :: T else T) (fun j => if j = r then us r - 1 else us j) rk := by
  obtain ⟨h1', h2, h3, h4, h5⟩ := h
  have hn : r ∉ D ++ T := fun q => by have := (h3 r hr hrr).mpr q; omega
  by_cases e : us r = 1
  · rw [if_pos e]
    refine ⟨?_, fun x hx => ?_, fun x hx hxr => ?_, h4, h5⟩
    · exact nd_mid.mpr (List.nodup_cons.mpr ⟨hn, h1'⟩)
    · rcases List.mem_append.mp hx with q | q
      · exact h2 x (List.mem_append_left _ q)
      · rcases List.mem_cons.mp q with rfl | q
        · exact ⟨hr, hrr⟩
        · exact h2 x (List.mem_append_right _ q)
    · show (if x = r then us r - 1 else us x) = 0 ↔ _
      by_cases q : x = r
      · subst q
        rw [if_pos rfl]
        exact ⟨fun _ => List.mem_append_right _ List.mem_cons_self, fun _ => by omega⟩
      · rw [if_neg q, h3 x hx hxr]
        simp only [List.mem_append, List.mem_cons]
        constructor
        · rintro (z | z)
          · exact Or.inl z
          · exact Or.inr (Or.inr z)
        · rintro (z | z | z)
          · exact Or.inl z
          · exact absurd z q
          · exact Or.inr z
  · rw [if_neg e]
    refine ⟨h1', h2, fun x hx hxr => ?_, h4, h5⟩
    show (if x = r then us r - 1 else us x) = 0 ↔ _
    by_cases q : x = r
    · subst q
      rw [if_pos rfl]
      exact ⟨fun z => by omega, fun z => absurd z hn⟩
    · rw [if_neg q]; exact h3 x hx hxr
