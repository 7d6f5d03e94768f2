/-! ===== a change, in both ===== -/
def edG (z : Zt) (mn : Nat → Nat) (cs n : Nat) : Rr → N4 := if cs = 2 then gS (z 1 n) (z 1 n) (gS n n (cF z mn)) else if cs = 4 then gS n (z 12 n) (cF z mn) else if cs ≤ 3 then gS n n (cF z mn) else gW n (2 * z 30 0 + z 30 2) (cF z mn)
def edA (z : Zt) (cs n m : Nat) : List N4 := match cs with
  | 0 => [if m < 11 then (7, n, m, 0) else (1, n, z 30 0 + m - 11, 0)]
  | 1 => [if z 0 n = 1 then (6, n, 3, 0) else (6, n, 1, 0)]
  | 2 => [(4, z 1 (z 1 n), z 2 n, z 1 n), (4, z 1 n, z 2 (z 1 n), n)]
  | 3 => if z 0 n = 12 then [(2, z 1 n, z 30 0 + z 30 2 + n, 0), (1, z 2 n, z 1 n, 0), (1, n, z 1 n, 0)] else [(6, z 1 n, 1, 0), (6, z 2 n, 1, 0), (6, n, 1, 0)]
  | 4 => [(1, n, z 1 n, 0)]
  | 5 => [(2, n, 2 * z 30 0 + z 30 2, 0)]
  | 6 => [(6, n, 3, 0)]
  | _ => [(2, 2 * z 30 0 + z 30 2, n, 0)]
def ECS (z : Zt) (mn : Nat → Nat) (l : Nat → Rr) (c cs n m : Nat) (w : Nat → Ty) : Prop := (∀ i, i < c → 1 ≤ (edG z mn cs n (l i)).1 → rr4 (edG z mn cs n (l i)) w) ∧ ∀ q, q ∈ edA z cs n m → rr4 q w
/-- a change that can be tried -/
def CHG (z : Zt) (cs n m : Nat) : Prop := cs ≤ 7 ∧ n < z 30 0 ∧ (cs = 0 → z 0 n = 0 ∧ m < 11 + z 30 2) ∧ (cs = 1 → z 0 n = 1 ∨ z 0 n = 2) ∧ (cs = 2 → z 0 n = 3 ∧ z 0 (z 1 n) = 3) ∧ (cs = 3 → z 0 n = 12 ∨ z 0 n = 13) ∧ (cs = 4 → z 0 n = 3)
def hz (z : Zt) (mn : Nat → Nat) (cs cn cm : Nat) (x : Rr) : N4 := hrow (z 1) (z 2) (z 3) (fun i => if z 0 i = 4 then z 4 i - 11 else mn i) (z 18) (z 16) (z 17) cs cn cm (sr cs cn x.2.1 x.2.2.1) x.2.2.1 x.2.2.2
def aff (z : Zt) (cs n : Nat) (x : Rr) : Prop := x.2.1 ≠ 1 ∧ (x.2.2.1 = n ∨ (cs = 2 ∧ x.2.2.1 = z 1 n))
section CHANGE
variable {kd pl : Nat → Nat} {nt c p : Nat} {z : Zt} {ky bi : Nat → Int64} {mn : Nat → Nat} {l : Nat → Rr} {cs n m : Nat} {A : Nat → Bool} {w : Nat → Ty}
theorem rowT_hz {r : Nat} : rowT (tz z mn l c) cs n m r = hz z mn cs n m (l r) := rfl
theorem hme_no {me : Nat → Nat} {nd cm : Nat} (h : ¬ (cs = 0 ∧ n = nd)) : hme me cs n cm nd = me nd := if_neg h
theorem hz_un {x : Rr} (h : ¬ aff z cs n x) : hz z mn cs n m x = hz z mn 8 0 0 x := by
  obtain ⟨k, s, nd, ot⟩ := x
  have h1 : s = 1 ∨ (nd ≠ n ∧ ¬ (cs = 2 ∧ nd = z 1 n)) := by
    apply Classical.byContradiction
    intro q
    refine h ⟨show s ≠ 1 from fun x => q (Or.inl x), ?_⟩
    show nd = n ∨ (cs = 2 ∧ nd = z 1 n)
    by_cases y : nd = n
    · exact Or.inl y
    · by_cases y2 : cs = 2 ∧ nd = z 1 n
      · exact Or.inr y2
      · exact absurd (Or.inr ⟨y, y2⟩) q
  have s1 : sr cs n s nd = s := by
    unfold sr
    rw [if_neg (by omega)]
  unfold hz
  show hrow _ _ _ _ _ _ _ cs n m (sr cs n s nd) nd ot = hrow _ _ _ _ _ _ _ 8 0 0 (sr 8 0 s nd) nd ot
  rw [s1, sr_8]
  unfold hrow
  split
  · rw [if_neg (by omega), if_neg (by omega)]
    unfold ag
    rw [if_neg (by omega), if_neg (by omega), if_neg (by omega), if_neg (by omega)]
  · rfl
  · rw [hme_no (by omega), hme_no (by omega)]
  all_goals rfl
theorem hz_w {x : Rr} (h : 5 ≤ cs) : hz z mn cs n m x = hz z mn 8 0 0 x := by
  obtain ⟨k, s, nd, ot⟩ := x
  have s1 : sr cs n s nd = s := by
    unfold sr
    split
    · rw [if_neg (by omega), if_neg (by omega)]
    · rfl
  unfold hz
  show hrow _ _ _ _ _ _ _ cs n m (sr cs n s nd) nd ot = hrow _ _ _ _ _ _ _ 8 0 0 (sr 8 0 s nd) nd ot
  rw [s1, sr_8]
  unfold hrow
  split
  · rw [if_neg (by omega), if_neg (by omega)]
    unfold ag
    rw [if_neg (by omega), if_neg (by omega), if_neg (by omega), if_neg (by omega)]
  · rfl
  · rw [hme_no (by omega), hme_no (by omega)]
  all_goals rfl
theorem sg_le4 (h : cs ≤ 4) : sg (z 30 0) (z 30 2) cs n = sg (z 30 0) (z 30 2) 8 0 := by
  funext v
  unfold sg
  by_cases q : v < 80
  · rw [if_pos q, if_pos q, if_neg (by omega), if_neg (by omega)]
  · rw [if_neg q, if_neg q]
theorem s_of {s k : Nat} (h : sok s k) : (k = 0 → s = 2) ∧ (k = 1 → s = 3) ∧ (k = 2 → s = 4) ∧ (k = 3 → s = 0) ∧ (k = 12 → s = 16 ∨ s = 17 ∨ s = 18) ∧ (k = 13 → s = 21 ∨ s = 22 ∨ s = 23) := by
  unfold sok at h
  omega
/-- what the changed rules say -/
theorem ad0 (hT : TX kd pl nt z) (hsq : SQ l c (RUL z)) (n80 : z 30 0 ≤ 80) (hn : n < z 30 0) (hk : z 0 n = 0) : (∀ q, q ∈ edA z 0 n m → rr4 q w) ↔ ∀ r, r < c → aff z 0 n (l r) → rr4 (mrow (sg (z 30 0) (z 30 2) 8 0) (hz z mn 0 n m (l r))) w := by
  have row : ∀ x : Rr, x.2.1 = 2 → x.2.2.1 = n → (rr4 (mrow (sg (z 30 0) (z 30 2) 8 0) (hz z mn 0 n m x)) w ↔ rr4 (if m < 11 then (7, n, m, 0) else (1, n, z 30 0 + m - 11, 0)) w) := fun x h1 h2 => by
    obtain ⟨k, s, nd, ot⟩ := x
    replace h1 : s = 2 := h1
    replace h2 : nd = n := h2
    subst h1 h2
    have e : hz z mn 0 nd m (k, 2, nd, ot) = if m < 11 then (7, nd, m, 0) else (1, nd, 240 + m - 11, 0) := by simp [hz, sr, hrow, hme]
    rw [e]
    by_cases q : m < 11
    · rw [if_pos q, if_pos q]
      show rr4 ((7, sg (z 30 0) (z 30 2) 8 0 nd, m, sg (z 30 0) (z 30 2) 8 0 0) : N4) w ↔ _
      rw [sg8_0 (by omega), sg8_0 (by omega)]
    · rw [if_neg q, if_neg q]
      show rr4 ((1, sg (z 30 0) (z 30 2) 8 0 nd, sg (z 30 0) (z 30 2) 8 0 (240 + m - 11), sg (z 30 0) (z 30 2) 8 0 0) : N4) w ↔ _
      rw [show 240 + m - 11 = 240 + (m - 11) by omega, sg8_3, sg8_0 (by omega), sg8_0 (by omega), show z 30 0 + m - 11 = z 30 0 + (m - 11) by omega]
  have so : ∀ r, r < c → aff z 0 n (l r) → (l r).2.1 = 2 ∧ (l r).2.2.1 = n := fun r hr h => by
    obtain ⟨a1, a2⟩ := h
    have a2 : (l r).2.2.1 = n := by omega
    have R := (RUL_t hT ((hsq.2 (l r)).mpr ⟨r, hr, rfl⟩)).1.resolve_left (fun x => a1 x.1)
    rw [a2] at R
    exact ⟨(s_of R.2.2).1 hk, a2⟩
  constructor
  · intro h r hr ha
    exact (row (l r) (so r hr ha).1 (so r hr ha).2).mpr (h _ (List.mem_singleton.mpr rfl))
  · intro h q hq
    rw [List.mem_singleton.mp hq]
    obtain ⟨r, hr, e⟩ := (hsq.2 (4 * z 8 n + 1, 2, n, 1000)).mp (Or.inr (Or.inl ⟨n, hn, by simp [own, hk]⟩))
    have h1 : (l r).2.1 = 2 := by rw [e]
    have h2 : (l r).2.2.1 = n := by rw [e]
    exact (row (l r) h1 h2).mp (h r hr ⟨by omega, Or.inl h2⟩)
theorem ad1 (hT : TX kd pl nt z) (hsq : SQ l c (RUL z)) (n80 : z 30 0 ≤ 80) (hn : n < z 30 0) (hk : z 0 n = 1 ∨ z 0 n = 2) : (∀ q, q ∈ edA z 1 n m → rr4 q w) ↔ ∀ r, r < c → aff z 1 n (l r) → rr4 (mrow (sg (z 30 0) (z 30 2) 8 0) (hz z mn 1 n m (l r))) w := by
  have row : ∀ x : Rr, x.2.1 = 2 + z 0 n → x.2.2.1 = n → (rr4 (mrow (sg (z 30 0) (z 30 2) 8 0) (hz z mn 1 n m x)) w ↔ rr4 (if z 0 n = 1 then (6, n, 3, 0) else (6, n, 1, 0)) w) := fun x h1 h2 => by
    obtain ⟨k, s, nd, ot⟩ := x
    replace h1 : s = 2 + z 0 n := h1
    replace h2 : nd = n := h2
    subst h2
    rcases hk with hk | hk
    · rw [hk] at h1 ⊢
      subst h1
      have e : hz z mn 1 nd m (k, 2 + 1, nd, ot) = (6, nd, 3, 0) := by simp [hz, sr, hrow]
      rw [e, if_pos rfl]
      show rr4 ((6, sg (z 30 0) (z 30 2) 8 0 nd, 3, sg (z 30 0) (z 30 2) 8 0 0) : N4) w ↔ _
      rw [sg8_0 (by omega), sg8_0 (by omega)]
    · rw [hk] at h1 ⊢
      subst h1
      have e : hz z mn 1 nd m (k, 2 + 2, nd, ot) = (6, nd, 1, 0) := by simp [hz, sr, hrow]
      rw [e, if_neg (by decide)]
      show rr4 ((6, sg (z 30 0) (z 30 2) 8 0 nd, 1, sg (z 30 0) (z 30 2) 8 0 0) : N4) w ↔ _
      rw [sg8_0 (by omega), sg8_0 (by omega)]
  have so : ∀ r, r < c → aff z 1 n (l r) → (l r).2.1 = 2 + z 0 n ∧ (l r).2.2.1 = n := fun r hr h => by
    obtain ⟨a1, a2⟩ := h
    have a2 : (l r).2.2.1 = n := by omega
    have R := (RUL_t hT ((hsq.2 (l r)).mpr ⟨r, hr, rfl⟩)).1.resolve_left (fun x => a1 x.1)
    rw [a2] at R
    have := s_of R.2.2
    exact ⟨by omega, a2⟩
  constructor
  · intro h r hr ha
    exact (row (l r) (so r hr ha).1 (so r hr ha).2).mpr (h _ (List.mem_singleton.mpr rfl))
  · intro h q hq
    rw [List.mem_singleton.mp hq]
    obtain ⟨r, hr, e⟩ := (hsq.2 (4 * z 8 n + 1, 2 + z 0 n, n, 1000)).mp (Or.inr (Or.inl ⟨n, hn, by rcases hk with hk | hk <;> simp [own, hk]⟩))
    have h1 : (l r).2.1 = 2 + z 0 n := by rw [e]
    have h2 : (l r).2.2.1 = n := by rw [e]
    exact (row (l r) h1 h2).mp (h r hr ⟨by omega, Or.inl h2⟩)
theorem ad2 (hT : TX kd pl nt z) (hsq : SQ l c (RUL z)) (n80 : z 30 0 ≤ 80) (hn : n < z 30 0) (hk : z 0 n = 3) (hk2 : z 0 (z 1 n) = 3) (ne : z 1 n ≠ n) : (∀ q, q ∈ edA z 2 n m → rr4 q w) ↔ ∀ r, r < c → aff z 2 n (l r) → rr4 (mrow (sg (z 30 0) (z 30 2) 8 0) (hz z mn 2 n m (l r))) w := by
  have cd : ∀ n, n < z 30 0 → z 0 n = 3 → z 1 n < z 30 0 ∧ z 2 n < z 30 0 := fun n hn h => by
    obtain ⟨q1, q2, -⟩ := hT.2.1.2.2.1 n (Nat.zero_le _) hn
    rw [if_pos (by omega)] at q1 q2
    exact ⟨q1.2, q2.2⟩
  obtain ⟨i1, i2⟩ := cd n hn hk
  obtain ⟨i3, i4⟩ := cd _ i1 hk2
  have row1 : ∀ x : Rr, x.2.1 = 0 → x.2.2.1 = z 1 n → (rr4 (mrow (sg (z 30 0) (z 30 2) 8 0) (hz z mn 2 n m x)) w ↔ rr4 ((4, z 1 (z 1 n), z 2 n, z 1 n) : N4) w) := fun x h1 h2 => by
    obtain ⟨k, s, nd, ot⟩ := x
    replace h1 : s = 0 := h1
    replace h2 : nd = z 1 n := h2
    subst h1 h2
    have e : hz z mn 2 n m (k, 0, z 1 n, ot) = (4, 80 + z 1 (z 1 n), 80 + z 2 n, z 1 n) := by simp [hz, sr, hrow, ag, ne]
    rw [e]
    show rr4 ((4, sg (z 30 0) (z 30 2) 8 0 (80 + z 1 (z 1 n)), sg (z 30 0) (z 30 2) 8 0 (80 + z 2 n), sg (z 30 0) (z 30 2) 8 0 (z 1 n)) : N4) w ↔ _
    rw [sg8_1 (by omega), sg8_1 (by omega), sg8_0 (by omega)]
  have row2 : ∀ x : Rr, x.2.1 = 0 → x.2.2.1 = n → (rr4 (mrow (sg (z 30 0) (z 30 2) 8 0) (hz z mn 2 n m x)) w ↔ rr4 ((4, z 1 n, z 2 (z 1 n), n) : N4) w) := fun x h1 h2 => by
    obtain ⟨k, s, nd, ot⟩ := x
    replace h1 : s = 0 := h1
    replace h2 : nd = n := h2
    subst h1 h2
    have e : hz z mn 2 nd m (k, 0, nd, ot) = (4, 80 + z 1 nd, 80 + z 2 (z 1 nd), nd) := by simp [hz, sr, hrow, ag]
    rw [e]
    show rr4 ((4, sg (z 30 0) (z 30 2) 8 0 (80 + z 1 nd), sg (z 30 0) (z 30 2) 8 0 (80 + z 2 (z 1 nd)), sg (z 30 0) (z 30 2) 8 0 nd) : N4) w ↔ _
    rw [sg8_1 (by omega), sg8_1 (by omega), sg8_0 (by omega)]
  have so : ∀ r, r < c → aff z 2 n (l r) → (l r).2.1 = 0 ∧ ((l r).2.2.1 = n ∨ (l r).2.2.1 = z 1 n) := fun r hr h => by
    obtain ⟨a1, a2⟩ := h
    have a2 : (l r).2.2.1 = n ∨ (l r).2.2.1 = z 1 n := by omega
    have R := (RUL_t hT ((hsq.2 (l r)).mpr ⟨r, hr, rfl⟩)).1.resolve_left (fun x => a1 x.1)
    refine ⟨(s_of R.2.2).2.2.2.1 ?_, a2⟩
    rcases a2 with x | x <;> rw [x]
    · exact hk
    · exact hk2
  constructor
  · intro h r hr ha
    obtain ⟨x1, x2 | x2⟩ := so r hr ha
    · exact (row2 (l r) x1 x2).mpr (h _ (by simp [edA]))
    · exact (row1 (l r) x1 x2).mpr (h _ (by simp [edA]))
  · intro h q hq
    have ex : ∀ n, n < z 30 0 → z 0 n = 3 → ∃ r, r < c ∧ (l r).2.1 = 0 ∧ (l r).2.2.1 = n := fun n hn hk => by
      obtain ⟨r, hr, e⟩ := (hsq.2 (4 * z 8 n, 0, n, 1000)).mp (Or.inr (Or.inl ⟨n, hn, by simp [own, hk]⟩))
      exact ⟨r, hr, by rw [e], by rw [e]⟩
    have hq : q = (4, z 1 (z 1 n), z 2 n, z 1 n) ∨ q = (4, z 1 n, z 2 (z 1 n), n) := by simpa [edA] using hq
    rcases hq with rfl | rfl
    · obtain ⟨r, hr, x1, x2⟩ := ex _ i1 hk2
      exact (row1 (l r) x1 x2).mp (h r hr ⟨by omega, Or.inr ⟨rfl, x2⟩⟩)
    · obtain ⟨r, hr, x1, x2⟩ := ex _ hn hk
      exact (row2 (l r) x1 x2).mp (h r hr ⟨by omega, Or.inl x2⟩)
theorem ad3 (hT : TX kd pl nt z) (hsq : SQ l c (RUL z)) (n80 : z 30 0 ≤ 80) (hn : n < z 30 0) (hk : z 0 n = 12 ∨ z 0 n = 13) : (∀ q, q ∈ edA z 3 n m → rr4 q w) ↔ ∀ r, r < c → aff z 3 n (l r) → rr4 (mrow (sg (z 30 0) (z 30 2) 8 0) (hz z mn 3 n m (l r))) w := by
  obtain ⟨i1, i2⟩ : z 1 n < z 30 0 ∧ z 2 n < z 30 0 := by
    obtain ⟨q1, q2, -⟩ := hT.2.1.2.2.1 n (Nat.zero_le _) hn
    rw [if_pos (by omega)] at q1 q2
    exact ⟨q1.2, q2.2⟩
  have rowJ : ∀ x : Rr, x.2.2.1 = n → (x.2.1 = 16 → (rr4 (mrow (sg (z 30 0) (z 30 2) 8 0) (hz z mn 3 n m x)) w ↔ rr4 ((2, z 1 n, z 30 0 + z 30 2 + n, 0) : N4) w)) ∧ (x.2.1 = 17 → (rr4 (mrow (sg (z 30 0) (z 30 2) 8 0) (hz z mn 3 n m x)) w ↔ rr4 ((1, z 2 n, z 1 n, 0) : N4) w)) ∧ (x.2.1 = 18 → (rr4 (mrow (sg (z 30 0) (z 30 2) 8 0) (hz z mn 3 n m x)) w ↔ rr4 ((1, n, z 1 n, 0) : N4) w)) ∧ (x.2.1 = 21 → (rr4 (mrow (sg (z 30 0) (z 30 2) 8 0) (hz z mn 3 n m x)) w ↔ rr4 ((6, z 1 n, 1, 0) : N4) w)) ∧ (x.2.1 = 22 → (rr4 (mrow (sg (z 30 0) (z 30 2) 8 0) (hz z mn 3 n m x)) w ↔ rr4 ((6, z 2 n, 1, 0) : N4) w)) ∧ (x.2.1 = 23 → (rr4 (mrow (sg (z 30 0) (z 30 2) 8 0) (hz z mn 3 n m x)) w ↔ rr4 ((6, n, 1, 0) : N4) w)) := fun x h2 => by
    obtain ⟨k, s, nd, ot⟩ := x
    replace h2 : nd = n := h2
    subst h2
    refine ⟨fun h1 => ?_, fun h1 => ?_, fun h1 => ?_, fun h1 => ?_, fun h1 => ?_, fun h1 => ?_⟩
    · replace h1 : s = 16 := h1
      subst h1
      have e : hz z mn 3 nd m (k, 16, nd, ot) = (2, 80 + z 1 nd, 160 + nd, 0) := by simp [hz, sr, hrow, hrow2]
      rw [e]
      show rr4 ((2, sg (z 30 0) (z 30 2) 8 0 (80 + z 1 nd), sg (z 30 0) (z 30 2) 8 0 (160 + nd), sg (z 30 0) (z 30 2) 8 0 0) : N4) w ↔ _
      rw [sg8_1 (by omega), sg8_2 (by omega), sg8_0 (by omega)]
    · replace h1 : s = 17 := h1
      subst h1
      have e : hz z mn 3 nd m (k, 17, nd, ot) = (1, 80 + z 1 nd, 80 + z 2 nd, 0) := by simp [hz, sr, hrow, hrow2]
      rw [e]
      show rr4 ((1, sg (z 30 0) (z 30 2) 8 0 (80 + z 1 nd), sg (z 30 0) (z 30 2) 8 0 (80 + z 2 nd), sg (z 30 0) (z 30 2) 8 0 0) : N4) w ↔ _
      rw [sg8_1 (by omega), sg8_1 (by omega), sg8_0 (by omega)]
      exact ⟨fun h => Eq.symm h, fun h => Eq.symm h⟩
    · replace h1 : s = 18 := h1
      subst h1
      have e : hz z mn 3 nd m (k, 18, nd, ot) = (1, nd, 80 + z 1 nd, 0) := by simp [hz, sr, hrow, hrow2]
      rw [e]
      show rr4 ((1, sg (z 30 0) (z 30 2) 8 0 nd, sg (z 30 0) (z 30 2) 8 0 (80 + z 1 nd), sg (z 30 0) (z 30 2) 8 0 0) : N4) w ↔ _
      rw [sg8_0 (by omega), sg8_1 (by omega), sg8_0 (by omega)]
    · replace h1 : s = 21 := h1
      subst h1
      have e : hz z mn 3 nd m (k, 21, nd, ot) = (6, 80 + z 1 nd, 1, 0) := by simp [hz, sr, hrow, hrow2]
      rw [e]
      show rr4 ((6, sg (z 30 0) (z 30 2) 8 0 (80 + z 1 nd), 1, sg (z 30 0) (z 30 2) 8 0 0) : N4) w ↔ _
      rw [sg8_1 (by omega), sg8_0 (by omega)]
    · replace h1 : s = 22 := h1
      subst h1
      have e : hz z mn 3 nd m (k, 22, nd, ot) = (6, 80 + z 2 nd, 1, 0) := by simp [hz, sr, hrow, hrow2]
      rw [e]
      show rr4 ((6, sg (z 30 0) (z 30 2) 8 0 (80 + z 2 nd), 1, sg (z 30 0) (z 30 2) 8 0 0) : N4) w ↔ _
      rw [sg8_1 (by omega), sg8_0 (by omega)]
    · replace h1 : s = 23 := h1
      subst h1
      have e : hz z mn 3 nd m (k, 23, nd, ot) = (6, nd, 1, 0) := by simp [hz, sr, hrow, hrow2]
      rw [e]
      show rr4 ((6, sg (z 30 0) (z 30 2) 8 0 nd, 1, sg (z 30 0) (z 30 2) 8 0 0) : N4) w ↔ _
      rw [sg8_0 (by omega), sg8_0 (by omega)]
  have so : ∀ r, r < c → aff z 3 n (l r) → (l r).2.2.1 = n ∧ sok (l r).2.1 (z 0 n) := fun r hr h => by
    obtain ⟨a1, a2⟩ := h
    have a2 : (l r).2.2.1 = n := by omega
    have R := (RUL_t hT ((hsq.2 (l r)).mpr ⟨r, hr, rfl⟩)).1.resolve_left (fun x => a1 x.1)
    rw [a2] at R
    exact ⟨a2, R.2.2⟩
  have ex : ∀ x, x ∈ own z n → ∃ r, r < c ∧ l r = x := fun x hx => by
    obtain ⟨r, hr, e⟩ := (hsq.2 x).mp (Or.inr (Or.inl ⟨n, hn, hx⟩))
    exact ⟨r, hr, e⟩
  rcases hk with hk | hk
  · have eA : edA z 3 n m = [(2, z 1 n, z 30 0 + z 30 2 + n, 0), (1, z 2 n, z 1 n, 0), (1, n, z 1 n, 0)] := by simp [edA, hk]
    rw [eA]
    constructor
    · intro h r hr ha
      obtain ⟨x1, x2⟩ := so r hr ha
      obtain ⟨y1, y2, y3, -⟩ := rowJ (l r) x1
      rcases (s_of x2).2.2.2.2.1 hk with x | x | x
      · exact (y1 x).mpr (h _ (by simp))
      · exact (y2 x).mpr (h _ (by simp))
      · exact (y3 x).mpr (h _ (by simp))
    · intro h q hq
      have hq : q = (2, z 1 n, z 30 0 + z 30 2 + n, 0) ∨ q = (1, z 2 n, z 1 n, 0) ∨ q = (1, n, z 1 n, 0) := by simpa using hq
      rcases hq with rfl | rfl | rfl
      · obtain ⟨r, hr, e⟩ := ex (4 * z 8 n + 1, 16, n, 1000) (by simp [own, hk])
        exact ((rowJ (l r) (by rw [e])).1 (by rw [e])).mp (h r hr ⟨by rw [e]; show 16 ≠ 1; decide, Or.inl (by rw [e])⟩)
      · obtain ⟨r, hr, e⟩ := ex (4 * z 8 n + 2, 17, n, 1000) (by simp [own, hk])
        exact ((rowJ (l r) (by rw [e])).2.1 (by rw [e])).mp (h r hr ⟨by rw [e]; show 17 ≠ 1; decide, Or.inl (by rw [e])⟩)
      · obtain ⟨r, hr, e⟩ := ex (4 * z 8 n + 3, 18, n, 1000) (by simp [own, hk])
        exact ((rowJ (l r) (by rw [e])).2.2.1 (by rw [e])).mp (h r hr ⟨by rw [e]; show 18 ≠ 1; decide, Or.inl (by rw [e])⟩)
  · have eA : edA z 3 n m = [(6, z 1 n, 1, 0), (6, z 2 n, 1, 0), (6, n, 1, 0)] := by simp [edA, hk]
    rw [eA]
    constructor
    · intro h r hr ha
      obtain ⟨x1, x2⟩ := so r hr ha
      obtain ⟨-, -, -, y1, y2, y3⟩ := rowJ (l r) x1
      rcases (s_of x2).2.2.2.2.2 hk with x | x | x
      · exact (y1 x).mpr (h _ (by simp))
      · exact (y2 x).mpr (h _ (by simp))
      · exact (y3 x).mpr (h _ (by simp))
    · intro h q hq
      have hq : q = (6, z 1 n, 1, 0) ∨ q = (6, z 2 n, 1, 0) ∨ q = (6, n, 1, 0) := by simpa using hq
      rcases hq with rfl | rfl | rfl
      · obtain ⟨r, hr, e⟩ := ex (4 * z 8 n + 1, 21, n, 1000) (by simp [own, hk])
        exact ((rowJ (l r) (by rw [e])).2.2.2.1 (by rw [e])).mp (h r hr ⟨by rw [e]; show 21 ≠ 1; decide, Or.inl (by rw [e])⟩)
      · obtain ⟨r, hr, e⟩ := ex (4 * z 8 n + 2, 22, n, 1000) (by simp [own, hk])
        exact ((rowJ (l r) (by rw [e])).2.2.2.2.1 (by rw [e])).mp (h r hr ⟨by rw [e]; show 22 ≠ 1; decide, Or.inl (by rw [e])⟩)
      · obtain ⟨r, hr, e⟩ := ex (4 * z 8 n + 3, 23, n, 1000) (by simp [own, hk])
        exact ((rowJ (l r) (by rw [e])).2.2.2.2.2 (by rw [e])).mp (h r hr ⟨by rw [e]; show 23 ≠ 1; decide, Or.inl (by rw [e])⟩)
theorem ad4 (hT : TX kd pl nt z) (hsq : SQ l c (RUL z)) (n80 : z 30 0 ≤ 80) (hn : n < z 30 0) (hk : z 0 n = 3) : (∀ q, q ∈ edA z 4 n m → rr4 q w) ↔ ∀ r, r < c → aff z 4 n (l r) → rr4 (mrow (sg (z 30 0) (z 30 2) 8 0) (hz z mn 4 n m (l r))) w := by
  obtain ⟨i1, i2⟩ : z 1 n < z 30 0 ∧ z 2 n < z 30 0 := by
    obtain ⟨q1, q2, -⟩ := hT.2.1.2.2.1 n (Nat.zero_le _) hn
    rw [if_pos (by omega)] at q1 q2
    exact ⟨q1.2, q2.2⟩
  have row : ∀ x : Rr, x.2.1 = 0 → x.2.2.1 = n → (rr4 (mrow (sg (z 30 0) (z 30 2) 8 0) (hz z mn 4 n m x)) w ↔ rr4 ((1, n, z 1 n, 0) : N4) w) := fun x h1 h2 => by
    obtain ⟨k, s, nd, ot⟩ := x
    replace h1 : s = 0 := h1
    replace h2 : nd = n := h2
    subst h1 h2
    have e : hz z mn 4 nd m (k, 0, nd, ot) = (1, nd, 80 + z 1 nd, 0) := by simp [hz, sr, hrow]
    rw [e]
    show rr4 ((1, sg (z 30 0) (z 30 2) 8 0 nd, sg (z 30 0) (z 30 2) 8 0 (80 + z 1 nd), sg (z 30 0) (z 30 2) 8 0 0) : N4) w ↔ _
    rw [sg8_0 (by omega), sg8_1 (by omega), sg8_0 (by omega)]
  have so : ∀ r, r < c → aff z 4 n (l r) → (l r).2.1 = 0 ∧ (l r).2.2.1 = n := fun r hr h => by
    obtain ⟨a1, a2⟩ := h
    have a2 : (l r).2.2.1 = n := by omega
    have R := (RUL_t hT ((hsq.2 (l r)).mpr ⟨r, hr, rfl⟩)).1.resolve_left (fun x => a1 x.1)
    rw [a2] at R
    exact ⟨(s_of R.2.2).2.2.2.1 hk, a2⟩
  constructor
  · intro h r hr ha
    exact (row (l r) (so r hr ha).1 (so r hr ha).2).mpr (h _ (List.mem_singleton.mpr rfl))
  · intro h q hq
    rw [List.mem_singleton.mp hq]
    obtain ⟨r, hr, e⟩ := (hsq.2 (4 * z 8 n, 0, n, 1000)).mp (Or.inr (Or.inl ⟨n, hn, by simp [own, hk]⟩))
    have h1 : (l r).2.1 = 0 := by rw [e]
    have h2 : (l r).2.2.1 = n := by rw [e]
    exact (row (l r) h1 h2).mp (h r hr ⟨by omega, Or.inl h2⟩)
end CHANGE
