/-! ===== balanced runs of tokens ===== -/
section BAL
variable {kd : Nat → Nat} {i j k : Nat}
def bal (kd : Nat → Nat) (i j : Nat) : Prop := mps kd j = mps kd i ∧ ∀ t, i ≤ t → t < j → ∃ pre, mps kd t = pre ++ mps kd i ∧ (kd t = 19 → pre ≠ [])
def balc (kd : Nat → Nat) (i j : Nat) : Prop := mps kd j = mps kd i ∧ ∀ t, i ≤ t → t < j → ∃ pre, mps kd t = pre ++ mps kd i
theorem bal.c (h : bal kd i j) : balc kd i j := ⟨h.1, fun t a b => by obtain ⟨pre, e, -⟩ := h.2 t a b; exact ⟨pre, e⟩⟩
theorem bal_tr (h : bal kd i j) (h2 : bal kd j k) : bal kd i k := by
  refine ⟨h2.1.trans h.1, fun t a b => ?_⟩
  by_cases q : t < j
  · exact h.2 t a q
  · obtain ⟨pre, e, f⟩ := h2.2 t (by omega) b
    exact ⟨pre, by rw [e, h.1], f⟩
theorem balc_tr (h : balc kd i j) (h2 : balc kd j k) : balc kd i k := by
  refine ⟨h2.1.trans h.1, fun t a b => ?_⟩
  by_cases q : t < j
  · exact h.2 t a q
  · obtain ⟨pre, e⟩ := h2.2 t (by omega) b
    exact ⟨pre, by rw [e, h.1]⟩
theorem mps_n (h : kd i ≠ 6) (h1 : kd i ≠ 7) (h2 : kd i ≠ 17) (h3 : kd i ≠ 18) : mps kd (i + 1) = mps kd i := by
  show (if kd i = 6 ∨ kd i = 7 then i :: mps kd i else if kd i = 17 ∨ kd i = 18 then (mps kd i).tail else mps kd i) = _
  rw [if_neg (by omega), if_neg (by omega)]
theorem bal_t (h : kd i ≠ 6) (h1 : kd i ≠ 7) (h2 : kd i ≠ 17) (h3 : kd i ≠ 18) (h4 : kd i ≠ 19) : bal kd i (i + 1) :=
  ⟨mps_n h h1 h2 h3, fun t a b => by
    have e : t = i := by omega
    subst e
    exact ⟨[], rfl, fun q => absurd q h4⟩⟩
theorem balc_t (h : kd i ≠ 6) (h1 : kd i ≠ 7) (h2 : kd i ≠ 17) (h3 : kd i ≠ 18) : balc kd i (i + 1) :=
  ⟨mps_n h h1 h2 h3, fun t a b => by
    have e : t = i := by omega
    subst e
    exact ⟨[], rfl⟩⟩
theorem mps_o (h : kd i = 6 ∨ kd i = 7) : mps kd (i + 1) = i :: mps kd i := if_pos h
theorem mps_c (h : kd i = 17 ∨ kd i = 18) : mps kd (i + 1) = (mps kd i).tail := by
  show (if kd i = 6 ∨ kd i = 7 then i :: mps kd i else if kd i = 17 ∨ kd i = 18 then (mps kd i).tail else mps kd i) = _
  rw [if_neg (by omega), if_pos h]
theorem bal_br (h : kd i = 6 ∨ kd i = 7) (hb : balc kd (i + 1) j) (hij : i + 1 ≤ j) (hj : kd j = 17 ∨ kd j = 18) : bal kd i (j + 1) := by
  have e1 := mps_o h
  refine ⟨by rw [mps_c hj, hb.1, e1]; rfl, fun t a b => ?_⟩
  by_cases q : t = i
  · subst q; exact ⟨[], rfl, fun z => by omega⟩
  · by_cases q2 : t = j
    · subst q2; exact ⟨[i], by rw [hb.1, e1]; rfl, fun z => by simp⟩
    · obtain ⟨pre, e⟩ := hb.2 t (by omega) (by omega)
      exact ⟨pre ++ [i], by rw [e, e1]; simp, fun z => by simp⟩
theorem mps_pw : ∀ m, (mps kd m).Pairwise (fun x y => y < x) := by
  intro m
  induction m with
  | zero => exact List.Pairwise.nil
  | succ m ih =>
    unfold mps
    split
    · exact List.Pairwise.cons (fun x hx => mps_lt m x hx) ih
    · split
      · exact ih.tail
      · exact ih
theorem mps_new {s : Nat} : ∀ (m x : Nat), s ≤ m → x ∈ mps kd m → x ∈ mps kd s ∨ s ≤ x := by
  intro m
  induction m with
  | zero => intro x hs hx; cases hx
  | succ m ih =>
    intro x hs hx
    by_cases q : s = m + 1
    · subst q; exact Or.inl hx
    · unfold mps at hx
      split at hx
      · rcases List.mem_cons.mp hx with z | z
        · exact Or.inr (by omega)
        · exact ih x (by omega) z
      · split at hx
        · exact ih x (by omega) (List.mem_of_mem_tail hx)
        · exact ih x (by omega) hx
theorem pr_t {m : Nat} (h : kd i = 6 ∨ kd i = 7) (hb : bal kd (i + 1) j) (hj : kd j = 19) (hm : j < m) : prP kd m i := ⟨j, hm, hj, by rw [hb.1, mps_o h]; rfl⟩
theorem pr_f {m : Nat} (h : kd i = 6 ∨ kd i = 7) (hb : bal kd (i + 1) j) (hij : i < j) (hj : kd j = 17 ∨ kd j = 18) : ¬ prP kd m i := by
  rintro ⟨t, -, ht, hh⟩
  have hmem : i ∈ mps kd t := List.mem_of_mem_head? (Option.mem_def.mpr hh)
  have hit := mps_lt _ _ hmem
  by_cases q : t < j
  · obtain ⟨pre, e, f⟩ := hb.2 t (by omega) q
    rw [mps_o h] at e
    cases hp : pre with
    | nil => exact f ht hp
    | cons x pre' =>
      rw [hp] at e
      rw [e] at hh
      have hx : x = i := by simpa using hh
      have hpw := mps_pw (kd := kd) t
      rw [e] at hpw
      have hlt := (List.pairwise_cons.mp hpw).1 i (by simp)
      omega
  · by_cases q2 : t = j
    · subst q2; omega
    · have e1 : mps kd (j + 1) = mps kd i := by rw [mps_c hj, hb.1, mps_o h]; rfl
      rcases mps_new (s := j + 1) t i (by omega) hmem with z | z
      · rw [e1] at z
        have := mps_lt _ _ z
        omega
      · omega
end BAL
/-! ===== closed parts of a tree: nodes lo .. hi - 1, root r, tokens i .. j - 1, draft numbers a .. b - 1 ===== -/
def lvz (z : Zt) (n : Nat) : Nat := z 15 n * 1000 + (if z 15 n % 8 = 3 then n else 500 - n)
def ndp (kd pl : Nat → Nat) (z : Zt) (i j a b n : Nat) : Prop :=
  (z 0 n ≤ 13 ∧ z 7 n = pl (z 8 n) ∧ i ≤ z 8 n ∧ z 8 n < j) ∧ (a ≤ z 6 n ∧ z 6 n < b ∧ z 31 (z 6 n) = n) ∧
  (if z 0 n = 3 then z 33 (z 8 n) = n ∧ bga (kd (z 8 n)) = true else z 32 (z 8 n) = n ∧ kd (z 8 n) = z 0 n) ∧
  (z 9 n < 1000 → i ≤ z 9 n ∧ z 9 n < j ∧ z 34 (z 9 n) = n) ∧
  (z 14 n + 1 = z 30 1 ∧ (z 10 n = 1000 ∨ (11 ≤ z 10 n ∧ z 10 n < 11 + z 30 2)) ∧ (z 0 n = 4 → 11 ≤ z 4 n ∧ z 4 n < 11 + z 30 2) ∧ (z 0 n ≠ 4 → z 4 n = 1000))
def crm (z : Zt) (lo hi m : Nat) : Prop := z 12 m < hi ∧ m < z 2 m ∧ z 2 m ≤ z 12 m ∧ z 5 (z 2 m) = m ∧ ∀ k, lo ≤ k → k < hi → ((m < k → k ≤ z 12 m → k ≠ z 2 m → m < z 5 k ∧ z 5 k ≤ z 12 m) ∧ (m < z 5 k → z 5 k ≤ z 12 m → m < k ∧ k ≤ z 12 m))
def chn (z : Zt) : Nat → List Nat → Prop
  | x, [] => x = 1000
  | x, e :: es => x = e ∧ chn z (z 11 e) es
def lch (kd : Nat → Nat) (z : Zt) (lo hi m : Nat) : Prop := ∃ es : List Nat, chn z (z 1 m) es ∧ es.Pairwise (fun x y => x < y) ∧ (∀ k, k ∈ es → lo ≤ k ∧ k < hi ∧ z 9 k < 1000 ∧ (kd (z 9 k) = 7 ∨ kd (z 9 k) = 19)) ∧ ∀ k, lo ≤ k → k < hi → (z 5 k = m ↔ k ∈ es)
def SEG (kd pl : Nat → Nat) (z : Zt) (lo hi r i j a b : Nat) : Prop := (lo ≤ r ∧ r < hi ∧ hi ≤ 400) ∧ z 5 r = 1000 ∧ (∀ n, lo ≤ n → n < hi → ndp kd pl z i j a b n) ∧ (∀ n, lo ≤ n → n < hi → n ≠ r → lo ≤ z 5 n ∧ z 5 n < hi ∧ lvz z (z 5 n) < lvz z n) ∧ (∀ m, lo ≤ m → m < hi → z 0 m = 3 → z 12 m < 1000 → crm z lo hi m) ∧ (∀ m, lo ≤ m → m < hi → z 0 m = 7 → lch kd z lo hi m)
theorem chn_congr {z z' : Zt} : ∀ {es : List Nat} {x : Nat}, (∀ e, e ∈ es → z' 11 e = z 11 e) → chn z x es → chn z' x es
  | [], _, _, h => h
  | e :: es, x, hk, h => ⟨h.1, by rw [hk e List.mem_cons_self]; exact chn_congr (fun q hq => hk q (List.mem_cons_of_mem _ hq)) h.2⟩
section SEGL
variable {kd pl : Nat → Nat} {z z' : Zt} {lo mid hi x y p q i j i1 j1 i2 j2 a b a1 b1 a2 b2 : Nat}
/-- two neighbouring parts, one root put under the other -/
theorem seg_lnk (h1 : SEG kd pl z lo mid x i1 j1 a1 b1) (h2 : SEG kd pl z mid hi y i2 j2 a2 b2) (hpq : (p = x ∧ q = y) ∨ (p = y ∧ q = x)) (hi1 : i ≤ i1 ∧ i ≤ i2 ∧ j1 ≤ j ∧ j2 ≤ j) (ha1 : a ≤ a1 ∧ a ≤ a2 ∧ b1 ≤ b ∧ b2 ≤ b)
    (k0 : ∀ c n, c < 16 → c ≠ 1 → c ≠ 2 → c ≠ 3 → c ≠ 5 → c ≠ 9 → c ≠ 11 → lo ≤ n → n < hi → z' c n = z c n) (k5 : ∀ n, lo ≤ n → n < hi → n ≠ q → z' 5 n = z 5 n) (k5r : z' 5 q = p)
    (k9 : ∀ n, lo ≤ n → n < hi → n ≠ q → z' 9 n = z 9 n) (k9r : z' 9 q < 1000 → i ≤ z' 9 q ∧ z' 9 q < j ∧ z' 34 (z' 9 q) = q)
    (k31 : ∀ k, k < b → z' 31 k = z 31 k) (k32 : ∀ t, t < j → z' 32 t = z 32 t ∧ z' 33 t = z 33 t) (k34 : ∀ n, lo ≤ n → n < hi → n ≠ q → z 9 n < 1000 → z' 34 (z 9 n) = z 34 (z 9 n)) (ks : z' 30 1 = z 30 1 ∧ z' 30 2 = z 30 2)
    (kl : lvz z p < lvz z q) (kn : ∀ n, lo ≤ n → n < hi → z 0 n = 7 → n ≠ p → z' 1 n = z 1 n) (kx : ∀ n, lo ≤ n → n < hi → z 5 n ≠ p → z 5 n < 1000 → z' 11 n = z 11 n) (k2 : ∀ n, lo ≤ n → n < hi → z 0 n = 3 → z 12 n < 1000 → z' 2 n = z 2 n)
    (km : z 0 p = 7 → lch kd z' lo hi p) (km3 : z 0 p = 3 → z 12 p = 1000) : SEG kd pl z' lo hi p i j a b := by
  obtain ⟨⟨x1, x2, x3⟩, xr, xn, xp, xc, xl⟩ := h1
  obtain ⟨⟨y1, y2, y3⟩, yr, yn, yp, yc, yl⟩ := h2
  have hp : lo ≤ p ∧ p < hi := by omega
  have hq : lo ≤ q ∧ q < hi := by omega
  have hne : p ≠ q := by omega
  have zp5 : z 5 p = 1000 := by rcases hpq with ⟨rfl, rfl⟩ | ⟨rfl, rfl⟩ <;> assumption
  have zq5 : z 5 q = 1000 := by rcases hpq with ⟨rfl, rfl⟩ | ⟨rfl, rfl⟩ <;> assumption
  have e15 : ∀ n, lo ≤ n → n < hi → lvz z' n = lvz z n := fun n n1 n2 => by
    unfold lvz
    rw [k0 15 n (by decide) (by decide) (by decide) (by decide) (by decide) (by decide) (by decide) n1 n2]
  have nd : ∀ n, lo ≤ n → n < hi → ∃ i' j' a' b', i ≤ i' ∧ j' ≤ j ∧ a ≤ a' ∧ b' ≤ b ∧ ndp kd pl z i' j' a' b' n := fun n n1 n2 => by
    by_cases s : n < mid
    · exact ⟨i1, j1, a1, b1, by omega, by omega, by omega, by omega, xn n n1 s⟩
    · exact ⟨i2, j2, a2, b2, by omega, by omega, by omega, by omega, yn n (by omega) n2⟩
  have par : ∀ n, lo ≤ n → n < hi → n ≠ p → n ≠ q → lo ≤ z 5 n ∧ z 5 n < hi ∧ lvz z (z 5 n) < lvz z n ∧ (n < mid → z 5 n < mid) ∧ (mid ≤ n → mid ≤ z 5 n) := fun n n1 n2 n3 n4 => by
    by_cases s : n < mid
    · have := xp n n1 s (by omega)
      exact ⟨this.1, by omega, this.2.2, fun _ => this.2.1, fun q => by omega⟩
    · have := yp n (by omega) n2 (by omega)
      exact ⟨by omega, this.2.1, this.2.2, fun q => by omega, fun _ => this.1⟩
  -- whose parent a node's new parent can be
  have par' : ∀ n, lo ≤ n → n < hi → (n = q ∧ z' 5 n = p) ∨ (n = p ∧ z' 5 n = 1000) ∨ (n ≠ p ∧ n ≠ q ∧ z' 5 n = z 5 n ∧ lo ≤ z 5 n ∧ z 5 n < hi ∧ (n < mid → z 5 n < mid) ∧ (mid ≤ n → mid ≤ z 5 n)) := fun n n1 n2 => by
    by_cases s : n = q
    · exact Or.inl ⟨s, by rw [s]; exact k5r⟩
    · by_cases s2 : n = p
      · exact Or.inr (Or.inl ⟨s2, by rw [k5 n n1 n2 s, s2]; exact zp5⟩)
      · have h := par n n1 n2 s2 s
        exact Or.inr (Or.inr ⟨s2, s, k5 n n1 n2 s, h.1, h.2.1, h.2.2.2.1, h.2.2.2.2⟩)
  refine ⟨⟨hp.1, hp.2, y3⟩, by rw [k5 p hp.1 hp.2 hne]; exact zp5, fun n n1 n2 => ?_, fun n n1 n2 n3 => ?_, fun m m1 m2 m3 m4 => ?_, fun m m1 m2 m3 => ?_⟩
  · obtain ⟨i', j', a', b', w1, w2, w3, w4, ⟨⟨t1, t2, t3, t4⟩, ⟨t5, t6, t7⟩, t8, t9, t10, t11, t12, t13⟩⟩ := nd n n1 n2
    have c0 := k0 0 n (by decide) (by decide) (by decide) (by decide) (by decide) (by decide) (by decide) n1 n2
    have c4 := k0 4 n (by decide) (by decide) (by decide) (by decide) (by decide) (by decide) (by decide) n1 n2
    have c6 := k0 6 n (by decide) (by decide) (by decide) (by decide) (by decide) (by decide) (by decide) n1 n2
    have c7 := k0 7 n (by decide) (by decide) (by decide) (by decide) (by decide) (by decide) (by decide) n1 n2
    have c8 := k0 8 n (by decide) (by decide) (by decide) (by decide) (by decide) (by decide) (by decide) n1 n2
    have c10 := k0 10 n (by decide) (by decide) (by decide) (by decide) (by decide) (by decide) (by decide) n1 n2
    have c14 := k0 14 n (by decide) (by decide) (by decide) (by decide) (by decide) (by decide) (by decide) n1 n2
    have c32 := k32 (z 8 n) (by omega)
    refine ⟨?_, ?_, ?_, ?_, ?_⟩
    · rw [c0, c7, c8]; exact ⟨t1, t2, by omega, by omega⟩
    · rw [c6, k31 _ (by omega)]; exact ⟨by omega, by omega, t7⟩
    · rw [c0, c8, c32.1, c32.2]; exact t8
    · intro s9
      by_cases s : n = q
      · rw [s] at s9 ⊢; exact k9r s9
      · rw [k9 n n1 n2 s] at s9 ⊢
        rw [k34 n n1 n2 s s9]
        have := t9 s9
        exact ⟨by omega, by omega, this.2.2⟩
    · rw [c0, c4, c10, c14, ks.1, ks.2]; exact ⟨t10, t11, t12, t13⟩
  · rcases par' n n1 n2 with s | s | s
    · rw [s.2, e15 p hp.1 hp.2, e15 n n1 n2, s.1]
      exact ⟨hp.1, hp.2, kl⟩
    · exact absurd s.1 n3
    · rw [s.2.2.1, e15 _ s.2.2.2.1 s.2.2.2.2.1, e15 n n1 n2]
      exact ⟨s.2.2.2.1, s.2.2.2.2.1, (par n n1 n2 n3 s.2.1).2.2.1⟩
  · have c0 := k0 0 m (by decide) (by decide) (by decide) (by decide) (by decide) (by decide) (by decide) m1 m2
    have c12 := k0 12 m (by decide) (by decide) (by decide) (by decide) (by decide) (by decide) (by decide) m1 m2
    rw [c0] at m3
    rw [c12] at m4
    have c2 := k2 m m1 m2 m3 m4
    have mp : m ≠ p := fun s => by rw [s] at m3 m4; have := km3 m3; omega
    by_cases s : m < mid
    · obtain ⟨w1, w2, w3, w4, w5⟩ := xc m m1 s m3 m4
      have s2q : z 2 m ≠ q := fun t => by rw [t, zq5] at w4; omega
      have no : ∀ k, lo ≤ k → k < mid → z 5 k = 1000 → ¬ (m < k ∧ k ≤ z 12 m) := fun k k1 k2' k3 k4 => by
        have h := (w5 k k1 k2').1 k4.1 k4.2
        by_cases t : k = z 2 m
        · rw [t, w4] at k3; omega
        · have := h t; omega
      refine ⟨by rw [c12]; omega, by rw [c2]; exact w2, by rw [c2, c12]; exact w3, by rw [c2, k5 _ (by omega) (by omega) s2q]; exact w4, fun k k1 k2' => ?_⟩
      rw [c12, c2]
      by_cases sk : k < mid
      · rcases par' k k1 k2' with t | t | t
        · have zk5 : z 5 k = 1000 := by rw [t.1]; exact zq5
          refine ⟨fun u1 u2 => absurd ⟨u1, u2⟩ (no k k1 sk zk5), fun u1 u2 => ?_⟩
          rw [t.2] at u1 u2
          by_cases pm : p < mid
          · exact absurd ⟨u1, u2⟩ (no p hp.1 pm zp5)
          · omega
        · have zk5 : z 5 k = 1000 := by rw [t.1]; exact zp5
          refine ⟨fun u1 u2 => absurd ⟨u1, u2⟩ (no k k1 sk zk5), fun u1 u2 => ?_⟩
          rw [t.2] at u1 u2; omega
        · rw [t.2.2.1]; exact w5 k k1 sk
      · refine ⟨fun u1 u2 => by omega, fun u1 u2 => ?_⟩
        rcases par' k k1 k2' with t | t | t
        · rw [t.2] at u1 u2
          by_cases pm : p < mid
          · exact absurd ⟨u1, u2⟩ (no p hp.1 pm zp5)
          · omega
        · rw [t.2] at u1 u2; omega
        · rw [t.2.2.1] at u1 u2
          have := t.2.2.2.2.2.2 (by omega)
          omega
    · obtain ⟨w1, w2, w3, w4, w5⟩ := yc m (by omega) m2 m3 m4
      have s2q : z 2 m ≠ q := fun t => by rw [t, zq5] at w4; omega
      have no : ∀ k, mid ≤ k → k < hi → z 5 k = 1000 → ¬ (m < k ∧ k ≤ z 12 m) := fun k k1 k2' k3 k4 => by
        have h := (w5 k k1 k2').1 k4.1 k4.2
        by_cases t : k = z 2 m
        · rw [t, w4] at k3; omega
        · have := h t; omega
      refine ⟨by rw [c12]; omega, by rw [c2]; exact w2, by rw [c2, c12]; exact w3, by rw [c2, k5 _ (by omega) (by omega) s2q]; exact w4, fun k k1 k2' => ?_⟩
      rw [c12, c2]
      by_cases sk : k < mid
      · refine ⟨fun u1 u2 => by omega, fun u1 u2 => ?_⟩
        rcases par' k k1 k2' with t | t | t
        · rw [t.2] at u1 u2
          by_cases pm : p < mid
          · omega
          · exact absurd ⟨u1, u2⟩ (no p (by omega) hp.2 zp5)
        · rw [t.2] at u1 u2; omega
        · rw [t.2.2.1] at u1 u2
          have := t.2.2.2.2.2.1 sk
          omega
      · rcases par' k k1 k2' with t | t | t
        · have zk5 : z 5 k = 1000 := by rw [t.1]; exact zq5
          refine ⟨fun u1 u2 => absurd ⟨u1, u2⟩ (no k (by omega) k2' zk5), fun u1 u2 => ?_⟩
          rw [t.2] at u1 u2
          by_cases pm : p < mid
          · omega
          · exact absurd ⟨u1, u2⟩ (no p (by omega) hp.2 zp5)
        · have zk5 : z 5 k = 1000 := by rw [t.1]; exact zp5
          refine ⟨fun u1 u2 => absurd ⟨u1, u2⟩ (no k (by omega) k2' zk5), fun u1 u2 => ?_⟩
          rw [t.2] at u1 u2; omega
        · rw [t.2.2.1]; exact w5 k (by omega) k2'
  · have c0 := k0 0 m (by decide) (by decide) (by decide) (by decide) (by decide) (by decide) (by decide) m1 m2
    rw [c0] at m3
    by_cases mp : m = p
    · subst mp; exact km m3
    · have c1 := kn m m1 m2 m3 mp
      have key : ∀ lo' hi', lo ≤ lo' → hi' ≤ hi → lo' ≤ m → m < hi' → (∀ k, lo ≤ k → k < hi → k < lo' ∨ hi' ≤ k → z' 5 k ≠ m) → lch kd z lo' hi' m → lch kd z' lo hi m := by
        rintro lo' hi' l1 l2 l3 l4 l5 ⟨es, f1, f2, f3, f4⟩
        have fe : ∀ k, k ∈ es → z 5 k = m := fun k hk => (f4 k (f3 k hk).1 (f3 k hk).2.1).mpr hk
        have fq : ∀ k, k ∈ es → k ≠ q := fun k hk s => by have := fe k hk; rw [s, zq5] at this; omega
        refine ⟨es, ?_, f2, fun k hk => ?_, fun k k1 k2' => ?_⟩
        · rw [c1]
          exact chn_congr (fun k hk => kx k (by have := (f3 k hk).1; omega) (by have := (f3 k hk).2.1; omega) (by rw [fe k hk]; exact mp) (by rw [fe k hk]; omega)) f1
        · have := f3 k hk
          rw [k9 k (by omega) (by omega) (fq k hk)]
          exact ⟨by omega, by omega, this.2.2⟩
        · by_cases sk : lo' ≤ k ∧ k < hi'
          · have h4 := f4 k sk.1 sk.2
            rcases par' k k1 k2' with t | t | t
            · rw [t.2]
              exact ⟨fun u => absurd u.symm mp, fun u => absurd t.1 (fq k u)⟩
            · rw [t.2]
              exact ⟨fun u => by omega, fun u => by have := fe k u; rw [t.1, zp5] at this; omega⟩
            · rw [t.2.2.1]; exact h4
          · exact ⟨fun u => absurd u (l5 k k1 k2' (by omega)), fun u => by have := f3 k u; omega⟩
      by_cases s : m < mid
      · refine key lo mid (Nat.le_refl _) (by omega) m1 s (fun k k1 k2' k3 u => ?_) (xl m m1 s m3)
        rcases par' k k1 k2' with t | t | t
        · rw [t.2] at u; exact mp u.symm
        · rw [t.2] at u; omega
        · rw [t.2.2.1] at u
          have := t.2.2.2.2.2.2 (by omega)
          omega
      · refine key mid hi (by omega) (Nat.le_refl _) (by omega) m2 (fun k k1 k2' k3 u => ?_) (yl m (by omega) m2 m3)
        rcases par' k k1 k2' with t | t | t
        · rw [t.2] at u; exact mp u.symm
        · rw [t.2] at u; omega
        · rw [t.2.2.1] at u
          have := t.2.2.2.2.2.1 (by omega)
          omega
/-- a part stays closed while others are read -/
theorem seg_fr {r : Nat} (h : SEG kd pl z lo hi r i1 j1 a1 b1) (k0 : ∀ c n, c < 16 → lo ≤ n → n < hi → z' c n = z c n) (k31 : ∀ k, a1 ≤ k → k < b1 → z' 31 k = z 31 k) (k32 : ∀ c t, 32 ≤ c → c ≤ 34 → i1 ≤ t → t < j1 → z' c t = z c t) (ks : z' 30 1 = z 30 1 ∧ z 30 2 ≤ z' 30 2) : SEG kd pl z' lo hi r i1 j1 a1 b1 := by
  obtain ⟨⟨x1, x2, x3⟩, xr, xn, xp, xc, xl⟩ := h
  have e15 : ∀ n, lo ≤ n → n < hi → lvz z' n = lvz z n := fun n n1 n2 => by
    unfold lvz
    rw [k0 15 n (by decide) n1 n2]
  refine ⟨⟨x1, x2, x3⟩, by rw [k0 5 r (by decide) x1 x2]; exact xr, fun n n1 n2 => ?_, fun n n1 n2 n3 => ?_, fun m m1 m2 m3 m4 => ?_, fun m m1 m2 m3 => ?_⟩
  · obtain ⟨⟨t1, t2, t3, t4⟩, ⟨t5, t6, t7⟩, t8, t9, t10, t11, t12, t13⟩ := xn n n1 n2
    refine ⟨?_, ?_, ?_, ?_, ?_⟩
    · rw [k0 0 n (by decide) n1 n2, k0 7 n (by decide) n1 n2, k0 8 n (by decide) n1 n2]; exact ⟨t1, t2, t3, t4⟩
    · rw [k0 6 n (by decide) n1 n2, k31 _ t5 t6]; exact ⟨t5, t6, t7⟩
    · rw [k0 0 n (by decide) n1 n2, k0 8 n (by decide) n1 n2, k32 33 _ (by decide) (by decide) t3 t4, k32 32 _ (by decide) (by decide) t3 t4]; exact t8
    · intro s9
      rw [k0 9 n (by decide) n1 n2] at s9 ⊢
      have := t9 s9
      rw [k32 34 _ (by decide) (by decide) this.1 this.2.1]; exact this
    · rw [k0 0 n (by decide) n1 n2, k0 4 n (by decide) n1 n2, k0 10 n (by decide) n1 n2, k0 14 n (by decide) n1 n2, ks.1]
      exact ⟨t10, by omega, fun u => by have := t12 u; omega, t13⟩
  · have := xp n n1 n2 n3
    rw [k0 5 n (by decide) n1 n2, e15 _ this.1 this.2.1, e15 n n1 n2]; exact this
  · rw [k0 0 m (by decide) m1 m2] at m3
    rw [k0 12 m (by decide) m1 m2] at m4
    obtain ⟨w1, w2, w3, w4, w5⟩ := xc m m1 m2 m3 m4
    refine ⟨by rw [k0 12 m (by decide) m1 m2]; exact w1, by rw [k0 2 m (by decide) m1 m2]; exact w2, by rw [k0 2 m (by decide) m1 m2, k0 12 m (by decide) m1 m2]; exact w3, by rw [k0 2 m (by decide) m1 m2, k0 5 _ (by decide) (by omega) (by omega)]; exact w4, fun k k1 k2 => ?_⟩
    rw [k0 12 m (by decide) m1 m2, k0 2 m (by decide) m1 m2, k0 5 k (by decide) k1 k2]; exact w5 k k1 k2
  · rw [k0 0 m (by decide) m1 m2] at m3
    obtain ⟨es, f1, f2, f3, f4⟩ := xl m m1 m2 m3
    refine ⟨es, ?_, f2, fun k hk => ?_, fun k k1 k2 => ?_⟩
    · rw [k0 1 m (by decide) m1 m2]
      exact chn_congr (fun k hk => k0 11 k (by decide) (f3 k hk).1 (f3 k hk).2.1) f1
    · have := f3 k hk
      rw [k0 9 k (by decide) this.1 this.2.1]; exact this
    · rw [k0 5 k (by decide) k1 k2]; exact f4 k k1 k2
end SEGL
