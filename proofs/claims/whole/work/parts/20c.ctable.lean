/-- a rule's row in the class, in numbers -/
def cF (z : Zt) (mn : Nat → Nat) (x : Rr) : Nat × Nat × Nat × Nat := match x.2.1 with
  | 0 => (4, z 1 x.2.2.1, z 2 x.2.2.1, x.2.2.1)
  | 1 => (5, z 30 0 + z 16 x.2.2.1, z 17 x.2.2.1, z 18 x.2.2.1)
  | 2 => if mn x.2.2.1 < 11 then (7, x.2.2.1, mn x.2.2.1, 0) else (1, x.2.2.1, z 30 0 + mn x.2.2.1 - 11, 0)
  | 3 => (6, x.2.2.1, 1, 0)
  | 4 => (6, x.2.2.1, 3, 0)
  | 5 => (4, x.2.2.1, z 30 0 + z 4 x.2.2.1 - 11, z 1 x.2.2.1)
  | 6 => (6, z 1 x.2.2.1, 2, 0)
  | 7 => (1, x.2.2.1, z 2 x.2.2.1, 0)
  | 8 => (1, x.2.2.1, z 3 x.2.2.1, 0)
  | 9 => (3, x.2.2.1, z 1 x.2.2.1, z 2 x.2.2.1)
  | 10 => (2, x.2.2.1, z 30 0 + z 30 2 + x.2.2.1, 0)
  | 11 => (1, x.2.2.2, z 30 0 + z 30 2 + x.2.2.1, 0)
  | 12 => (6, z 1 x.2.2.1, 2, 0)
  | 13 => (6, z 2 x.2.2.1, 2, 0)
  | 14 => (6, x.2.2.1, 2, 0)
  | 15 => (1, z 1 x.2.2.1, z 2 x.2.2.1, 0)
  | 16 => (6, z 1 x.2.2.1, 1, 0)
  | 17 => (6, z 2 x.2.2.1, 1, 0)
  | 18 => (6, x.2.2.1, 1, 0)
  | 19 => (2, z 2 x.2.2.1, z 1 x.2.2.1, 0)
  | 20 => (1, x.2.2.1, z 2 x.2.2.1, 0)
  | 21 => (2, z 1 x.2.2.1, z 30 0 + z 30 2 + x.2.2.1, 0)
  | 22 => (1, z 2 x.2.2.1, z 1 x.2.2.1, 0)
  | _ => (1, x.2.2.1, z 1 x.2.2.1, 0)
theorem s23_c {s : Nat} (h : s ≤ 23) : s = 0 ∨ s = 1 ∨ s = 2 ∨ s = 3 ∨ s = 4 ∨ s = 5 ∨ s = 6 ∨ s = 7 ∨ s = 8 ∨ s = 9 ∨ s = 10 ∨ s = 11 ∨ s = 12 ∨ s = 13 ∨ s = 14 ∨ s = 15 ∨ s = 16 ∨ s = 17 ∨ s = 18 ∨ s = 19 ∨ s = 20 ∨ s = 21 ∨ s = 22 ∨ s = 23 := by omega
theorem sr_8 {s nd : Nat} : sr 8 0 s nd = s := by
  unfold sr
  split
  · rw [if_neg (by decide), if_neg (by decide)]
  · rfl
section CTABLE
variable {kd pl : Nat → Nat} {nt c p : Nat} {z : Zt} {ky bi : Nat → Int64} {mn : Nat → Nat} {l : Nat → Rr} {I : lm_I} {L : lm_L}
theorem cC_cF {x : Rr} (hs : x.2.1 ≤ 23) : cC z mn x 1 = nI (cF z mn x).1 ∧ cC z mn x 2 = nI (cF z mn x).2.1 ∧ cC z mn x 3 = nI (cF z mn x).2.2.1 ∧ (3 ≤ (cF z mn x).1 → (cF z mn x).1 ≤ 5 → cC z mn x 4 = nI (cF z mn x).2.2.2) := by
  obtain ⟨k, s, nd, o⟩ := x
  replace hs : s ≤ 23 := hs
  rcases s23_c hs with rfl | rfl | rfl | rfl | rfl | rfl | rfl | rfl | rfl | rfl | rfl | rfl | rfl | rfl | rfl | rfl | rfl | rfl | rfl | rfl | rfl | rfl | rfl | rfl
  · exact ⟨rfl, rfl, rfl, fun _ _ => rfl⟩
  · exact ⟨rfl, rfl, rfl, fun _ _ => rfl⟩
  · show (if mn nd < 11 then row5 _ _ _ _ _ else row5 _ _ _ _ _) 1 = nI (if mn nd < 11 then _ else _ : Nat × Nat × Nat × Nat).1 ∧ (if mn nd < 11 then row5 _ _ _ _ _ else row5 _ _ _ _ _) 2 = nI (if mn nd < 11 then _ else _ : Nat × Nat × Nat × Nat).2.1 ∧ (if mn nd < 11 then row5 _ _ _ _ _ else row5 _ _ _ _ _) 3 = nI (if mn nd < 11 then _ else _ : Nat × Nat × Nat × Nat).2.2.1 ∧ (3 ≤ (if mn nd < 11 then _ else _ : Nat × Nat × Nat × Nat).1 → (if mn nd < 11 then _ else _ : Nat × Nat × Nat × Nat).1 ≤ 5 → (if mn nd < 11 then row5 _ _ _ _ _ else row5 _ _ _ _ _) 4 = nI (if mn nd < 11 then _ else _ : Nat × Nat × Nat × Nat).2.2.2)
    by_cases h : mn nd < 11
    · rw [if_pos h, if_pos h]
      exact ⟨rfl, rfl, rfl, fun _ q => absurd (show 7 ≤ 5 from q) (by decide)⟩
    · rw [if_neg h, if_neg h]
      exact ⟨rfl, rfl, rfl, fun q _ => absurd (show 3 ≤ 1 from q) (by decide)⟩
  all_goals first
    | exact ⟨rfl, rfl, rfl, fun _ q => absurd (show 6 ≤ 5 from q) (by decide)⟩
    | exact ⟨rfl, rfl, rfl, fun q _ => absurd (show 3 ≤ 1 from q) (by decide)⟩
    | exact ⟨rfl, rfl, rfl, fun q _ => absurd (show 3 ≤ 2 from q) (by decide)⟩
    | exact ⟨rfl, rfl, rfl, fun _ _ => rfl⟩
theorem sg8_0 {N B v : Nat} (h : v < 80) : sg N B 8 0 v = v := by unfold sg; rw [if_pos h, if_neg (by omega)]
theorem sg8_1 {N B v : Nat} (h : v < 80) : sg N B 8 0 (80 + v) = v := by unfold sg; rw [if_neg (by omega), if_pos (by omega)]; omega
theorem sg8_2 {N B v : Nat} (h : v < 80) : sg N B 8 0 (160 + v) = N + B + v := by unfold sg; rw [if_neg (by omega), if_neg (by omega), if_pos (by omega)]; omega
theorem sg8_3 {N B v : Nat} : sg N B 8 0 (240 + v) = N + v := by unfold sg; rw [if_neg (by omega), if_neg (by omega), if_neg (by omega)]; omega
theorem rkV {V F X Y Z : Nat} (h7 : F ≤ 7) (hX : X < V) (hY : F ≤ 4 → Y < V) (hZ : 3 ≤ F → F ≤ 5 → Z < V) (h5 : F = 5 → X + Y < V) (h6 : F = 6 → 1 ≤ Y ∧ Y ≤ 3) (hh : F = 7 → Y ≤ 10) : rok V F X Y Z := ⟨h7, fun _ => hX, fun _ => hY, hZ, h5, h6, hh⟩
/-- the class's row says what the reference's says -/
theorem cF_row (hT : TX kd pl nt z) (ht : tok (tz z mn l c)) {r : Nat} (hr : r < c) : (∀ w, rr4 (cF z mn (l r)) w ↔ rr4 (mrow (sg (z 30 0) (z 30 2) 8 0) (rowT (tz z mn l c) 8 0 0 r)) w) ∧ rok (2 * z 30 0 + z 30 2 + 1) (cF z mn (l r)).1 (cF z mn (l r)).2.1 (cF z mn (l r)).2.2.1 (cF z mn (l r)).2.2.2 ∧ 1 ≤ (cF z mn (l r)).1 := by
  obtain ⟨hN, hB, hD, hDN, hK, hno, hde, hru⟩ := ht
  obtain ⟨hs, hot⟩ := hru r hr
  unfold rowT
  rw [sr_8]
  have n80 : z 30 0 ≤ 80 := hN
  have hk4 : ∀ n, n < z 30 0 → z 0 n = 4 → 11 ≤ z 4 n := fun n hn h => ((hT.2.1.1 n hn).2.2.2.2.2.2.1 h).1
  replace hs : ((l r).2.1 = 1 ∧ (l r).2.2.1 < z 30 1) ∨ ((l r).2.1 ≠ 1 ∧ (l r).2.2.1 < z 30 0 ∧ sok (l r).2.1 (z 0 (l r).2.2.1)) := hs
  replace hot : (l r).2.1 = 11 → (l r).2.2.2 < z 30 0 := hot
  show (∀ w, rr4 (cF z mn (l r)) w ↔ rr4 (mrow (sg (z 30 0) (z 30 2) 8 0) (hrow (z 1) (z 2) (z 3) (fun i => if z 0 i = 4 then z 4 i - 11 else mn i) (z 18) (z 16) (z 17) 8 0 0 (l r).2.1 (l r).2.2.1 (l r).2.2.2)) w) ∧ rok (2 * z 30 0 + z 30 2 + 1) (cF z mn (l r)).1 (cF z mn (l r)).2.1 (cF z mn (l r)).2.2.1 (cF z mn (l r)).2.2.2 ∧ 1 ≤ (cF z mn (l r)).1
  replace hno : ∀ n, n < z 30 0 → z 0 n ≤ 13 ∧ (3 ≤ z 0 n ∧ z 0 n ≠ 7 → z 1 n < z 30 0) ∧ (3 ≤ z 0 n ∧ z 0 n ≠ 7 ∧ z 0 n ≠ 4 → z 2 n < z 30 0) ∧ (z 0 n = 5 → z 3 n < z 30 0) ∧ (z 0 n = 0 → (if z 0 n = 4 then z 4 n - 11 else mn n) < 11 + z 30 2) ∧ (z 0 n = 4 → (if z 0 n = 4 then z 4 n - 11 else mn n) < z 30 2) := hno
  replace hde : ∀ d, d < z 30 1 → z 18 d < z 30 0 ∧ z 16 d + z 17 d < z 30 2 := hde
  clear hru hN hB hD hDN hK
  generalize l r = x at hs hot ⊢
  obtain ⟨k, s, nd, ot⟩ := x
  replace hs : (s = 1 ∧ nd < z 30 1) ∨ (s ≠ 1 ∧ nd < z 30 0 ∧ sok s (z 0 nd)) := hs
  replace hot : s = 11 → ot < z 30 0 := hot
  by_cases h1 : s = 1
  · subst h1
    have hd : nd < z 30 1 := by omega
    obtain ⟨q1, q2⟩ := hde nd hd
    refine ⟨fun w => ?_, rkV (F := 5) (X := z 30 0 + z 16 nd) (Y := z 17 nd) (Z := z 18 nd) (by decide) (by omega) (fun q => by omega) (fun q1 q2 => by omega) (fun q => by omega) (fun q => by omega) (fun q => by omega), by show 1 ≤ 5; decide⟩
    have E : ((5, z 30 0 + z 16 nd, z 17 nd, z 18 nd) : Nat × Nat × Nat × Nat) = (5, sg (z 30 0) (z 30 2) 8 0 (240 + z 16 nd), z 17 nd, sg (z 30 0) (z 30 2) 8 0 (80 + z 18 nd)) := by simp (disch := omega) only [sg8_1, sg8_3]
    show rr4 ((5, z 30 0 + z 16 nd, z 17 nd, z 18 nd) : Nat × Nat × Nat × Nat) w ↔ rr4 ((5, sg (z 30 0) (z 30 2) 8 0 (240 + z 16 nd), z 17 nd, sg (z 30 0) (z 30 2) 8 0 (80 + z 18 nd)) : Nat × Nat × Nat × Nat) w
    rw [E]
  · obtain ⟨hnd, hsok⟩ : nd < z 30 0 ∧ sok s (z 0 nd) := by
      rcases hs with h | h
      · exact absurd h.1 h1
      · exact h.2
    obtain ⟨k13, b1, b2, b3, b4, b5⟩ := hno nd hnd
    obtain ⟨k23, kn1, n1, n2, n3, n4, n5⟩ := need_sok hsok (Or.inl rfl)
    have g1 := fun q => b1 (n1 q)
    have g2 := fun q => b2 (n2 q)
    have b4 : z 0 nd = 0 → mn nd < 11 + z 30 2 := fun h => by
      have := b4 h
      rw [if_neg (by omega)] at this
      exact this
    have b5 : z 0 nd = 4 → z 4 nd - 11 < z 30 2 := fun h => by
      have := b5 h
      rw [if_pos h] at this
      exact this
    clear hsok hs n1 n2
    rcases (show s = 0 ∨ s = 2 ∨ s = 3 ∨ s = 4 ∨ s = 5 ∨ s = 6 ∨ s = 7 ∨ s = 8 ∨ s = 9 ∨ s = 10 ∨ s = 11 ∨ s = 12 ∨ s = 13 ∨ s = 14 ∨ s = 15 ∨ s = 16 ∨ s = 17 ∨ s = 18 ∨ s = 19 ∨ s = 20 ∨ s = 21 ∨ s = 22 ∨ s = 23 by omega) with h | h | h | h | h | h | h | h | h | h | h | h | h | h | h | h | h | h | h | h | h | h | h <;> subst h
    · have a1 := g1 (by decide)
      have a2 := g2 (by decide)
      refine ⟨fun w => ?_, rkV (F := 4) (X := z 1 nd) (Y := z 2 nd) (Z := nd) (by decide) (by omega) (fun q => by omega) (fun q1 q2 => by omega) (fun q => by omega) (fun q => by omega) (fun q => by omega), by show 1 ≤ 4; decide⟩
      have E : ((4, z 1 nd, z 2 nd, nd) : Nat × Nat × Nat × Nat) = (4, sg (z 30 0) (z 30 2) 8 0 (80 + z 1 nd), sg (z 30 0) (z 30 2) 8 0 (80 + z 2 nd), sg (z 30 0) (z 30 2) 8 0 (nd)) := by simp (disch := omega) only [sg8_0, sg8_1, sg8_2, sg8_3]
      show rr4 ((4, z 1 nd, z 2 nd, nd) : Nat × Nat × Nat × Nat) w ↔ rr4 ((4, sg (z 30 0) (z 30 2) 8 0 (80 + z 1 nd), sg (z 30 0) (z 30 2) 8 0 (80 + z 2 nd), sg (z 30 0) (z 30 2) 8 0 (nd)) : Nat × Nat × Nat × Nat) w
      rw [E]
    · have k0 := n3 rfl
      have b4 := b4 k0
      show (∀ w, rr4 (if mn nd < 11 then _ else _) w ↔ rr4 (mrow (sg (z 30 0) (z 30 2) 8 0) (if (if z 0 nd = 4 then z 4 nd - 11 else mn nd) < 11 then (7, nd, (if z 0 nd = 4 then z 4 nd - 11 else mn nd), 0) else (1, nd, 240 + (if z 0 nd = 4 then z 4 nd - 11 else mn nd) - 11, 0))) w) ∧ rok _ (if mn nd < 11 then _ else _ : Nat × Nat × Nat × Nat).1 (if mn nd < 11 then _ else _ : Nat × Nat × Nat × Nat).2.1 (if mn nd < 11 then _ else _ : Nat × Nat × Nat × Nat).2.2.1 (if mn nd < 11 then _ else _ : Nat × Nat × Nat × Nat).2.2.2 ∧ 1 ≤ (if mn nd < 11 then _ else _ : Nat × Nat × Nat × Nat).1
      rw [if_neg (show ¬ z 0 nd = 4 by omega)]
      by_cases q : mn nd < 11
      · rw [if_pos q, if_pos q]
        refine ⟨fun w => ?_, rkV (F := 7) (X := nd) (Y := mn nd) (Z := 0) (by decide) (by omega) (fun q => by omega) (fun q1 q2 => by omega) (fun q => by omega) (fun q => by omega) (fun q => by omega), by show 1 ≤ 7; decide⟩
        have E : ((7, nd, mn nd, 0) : Nat × Nat × Nat × Nat) = (7, sg (z 30 0) (z 30 2) 8 0 nd, mn nd, sg (z 30 0) (z 30 2) 8 0 0) := by simp (disch := omega) only [sg8_0]
        show rr4 ((7, nd, mn nd, 0) : Nat × Nat × Nat × Nat) w ↔ rr4 ((7, sg (z 30 0) (z 30 2) 8 0 nd, mn nd, sg (z 30 0) (z 30 2) 8 0 0) : Nat × Nat × Nat × Nat) w
        rw [E]
      · rw [if_neg q, if_neg q]
        refine ⟨fun w => ?_, rkV (F := 1) (X := nd) (Y := z 30 0 + mn nd - 11) (Z := 0) (by decide) (by omega) (fun q => by omega) (fun q1 q2 => by omega) (fun q => by omega) (fun q => by omega) (fun q => by omega), by show 1 ≤ 1; decide⟩
        have e : 240 + mn nd - 11 = 240 + (mn nd - 11) := by omega
        have e2 : z 30 0 + mn nd - 11 = z 30 0 + (mn nd - 11) := by omega
        have E : ((1, nd, z 30 0 + mn nd - 11, 0) : Nat × Nat × Nat × Nat) = (1, sg (z 30 0) (z 30 2) 8 0 nd, sg (z 30 0) (z 30 2) 8 0 (240 + mn nd - 11), sg (z 30 0) (z 30 2) 8 0 0) := by rw [e, e2]; simp (disch := omega) only [sg8_0, sg8_3]
        show rr4 ((1, nd, z 30 0 + mn nd - 11, 0) : Nat × Nat × Nat × Nat) w ↔ rr4 ((1, sg (z 30 0) (z 30 2) 8 0 nd, sg (z 30 0) (z 30 2) 8 0 (240 + mn nd - 11), sg (z 30 0) (z 30 2) 8 0 0) : Nat × Nat × Nat × Nat) w
        rw [E]
    · refine ⟨fun w => ?_, rkV (F := 6) (X := nd) (Y := 1) (Z := 0) (by decide) (by omega) (fun q => by omega) (fun q1 q2 => by omega) (fun q => by omega) (fun q => by omega) (fun q => by omega), by show 1 ≤ 6; decide⟩
      have E : ((6, nd, 1, 0) : Nat × Nat × Nat × Nat) = (6, sg (z 30 0) (z 30 2) 8 0 (nd), 1, sg (z 30 0) (z 30 2) 8 0 (0)) := by simp (disch := omega) only [sg8_0, sg8_1, sg8_2, sg8_3]
      show rr4 ((6, nd, 1, 0) : Nat × Nat × Nat × Nat) w ↔ rr4 ((6, sg (z 30 0) (z 30 2) 8 0 (nd), 1, sg (z 30 0) (z 30 2) 8 0 (0)) : Nat × Nat × Nat × Nat) w
      rw [E]
    · refine ⟨fun w => ?_, rkV (F := 6) (X := nd) (Y := 3) (Z := 0) (by decide) (by omega) (fun q => by omega) (fun q1 q2 => by omega) (fun q => by omega) (fun q => by omega) (fun q => by omega), by show 1 ≤ 6; decide⟩
      have E : ((6, nd, 3, 0) : Nat × Nat × Nat × Nat) = (6, sg (z 30 0) (z 30 2) 8 0 (nd), 3, sg (z 30 0) (z 30 2) 8 0 (0)) := by simp (disch := omega) only [sg8_0, sg8_1, sg8_2, sg8_3]
      show rr4 ((6, nd, 3, 0) : Nat × Nat × Nat × Nat) w ↔ rr4 ((6, sg (z 30 0) (z 30 2) 8 0 (nd), 3, sg (z 30 0) (z 30 2) 8 0 (0)) : Nat × Nat × Nat × Nat) w
      rw [E]
    · have k4 := n4 rfl
      have a1 := g1 (by decide)
      have b5 := b5 k4
      have h11 := hk4 nd hnd k4
      refine ⟨fun w => ?_, rkV (F := 4) (X := nd) (Y := z 30 0 + z 4 nd - 11) (Z := z 1 nd) (by decide) (by omega) (fun q => by omega) (fun q1 q2 => by omega) (fun q => by omega) (fun q => by omega) (fun q => by omega), by show 1 ≤ 4; decide⟩
      have e2 : z 30 0 + z 4 nd - 11 = z 30 0 + (z 4 nd - 11) := by omega
      have E : ((4, nd, z 30 0 + z 4 nd - 11, z 1 nd) : Nat × Nat × Nat × Nat) = (4, sg (z 30 0) (z 30 2) 8 0 nd, sg (z 30 0) (z 30 2) 8 0 (240 + (if z 0 nd = 4 then z 4 nd - 11 else mn nd)), sg (z 30 0) (z 30 2) 8 0 (80 + z 1 nd)) := by rw [if_pos k4, e2]; simp (disch := omega) only [sg8_0, sg8_1, sg8_3]
      show rr4 ((4, nd, z 30 0 + z 4 nd - 11, z 1 nd) : Nat × Nat × Nat × Nat) w ↔ rr4 ((4, sg (z 30 0) (z 30 2) 8 0 nd, sg (z 30 0) (z 30 2) 8 0 (240 + (if z 0 nd = 4 then z 4 nd - 11 else mn nd)), sg (z 30 0) (z 30 2) 8 0 (80 + z 1 nd)) : Nat × Nat × Nat × Nat) w
      rw [E]
    · have a1 := g1 (by decide)
      refine ⟨fun w => ?_, rkV (F := 6) (X := z 1 nd) (Y := 2) (Z := 0) (by decide) (by omega) (fun q => by omega) (fun q1 q2 => by omega) (fun q => by omega) (fun q => by omega) (fun q => by omega), by show 1 ≤ 6; decide⟩
      have E : ((6, z 1 nd, 2, 0) : Nat × Nat × Nat × Nat) = (6, sg (z 30 0) (z 30 2) 8 0 (80 + z 1 nd), 2, sg (z 30 0) (z 30 2) 8 0 (0)) := by simp (disch := omega) only [sg8_0, sg8_1, sg8_2, sg8_3]
      show rr4 ((6, z 1 nd, 2, 0) : Nat × Nat × Nat × Nat) w ↔ rr4 ((6, sg (z 30 0) (z 30 2) 8 0 (80 + z 1 nd), 2, sg (z 30 0) (z 30 2) 8 0 (0)) : Nat × Nat × Nat × Nat) w
      rw [E]
    · have a2 := g2 (by decide)
      refine ⟨fun w => ?_, rkV (F := 1) (X := nd) (Y := z 2 nd) (Z := 0) (by decide) (by omega) (fun q => by omega) (fun q1 q2 => by omega) (fun q => by omega) (fun q => by omega) (fun q => by omega), by show 1 ≤ 1; decide⟩
      have E : ((1, nd, z 2 nd, 0) : Nat × Nat × Nat × Nat) = (1, sg (z 30 0) (z 30 2) 8 0 (nd), sg (z 30 0) (z 30 2) 8 0 (80 + z 2 nd), sg (z 30 0) (z 30 2) 8 0 (0)) := by simp (disch := omega) only [sg8_0, sg8_1, sg8_2, sg8_3]
      show rr4 ((1, nd, z 2 nd, 0) : Nat × Nat × Nat × Nat) w ↔ rr4 ((1, sg (z 30 0) (z 30 2) 8 0 (nd), sg (z 30 0) (z 30 2) 8 0 (80 + z 2 nd), sg (z 30 0) (z 30 2) 8 0 (0)) : Nat × Nat × Nat × Nat) w
      rw [E]
    · have a3 := b3 (n5 rfl)
      refine ⟨fun w => ?_, rkV (F := 1) (X := nd) (Y := z 3 nd) (Z := 0) (by decide) (by omega) (fun q => by omega) (fun q1 q2 => by omega) (fun q => by omega) (fun q => by omega) (fun q => by omega), by show 1 ≤ 1; decide⟩
      have E : ((1, nd, z 3 nd, 0) : Nat × Nat × Nat × Nat) = (1, sg (z 30 0) (z 30 2) 8 0 (nd), sg (z 30 0) (z 30 2) 8 0 (80 + z 3 nd), sg (z 30 0) (z 30 2) 8 0 (0)) := by simp (disch := omega) only [sg8_0, sg8_1, sg8_2, sg8_3]
      show rr4 ((1, nd, z 3 nd, 0) : Nat × Nat × Nat × Nat) w ↔ rr4 ((1, sg (z 30 0) (z 30 2) 8 0 (nd), sg (z 30 0) (z 30 2) 8 0 (80 + z 3 nd), sg (z 30 0) (z 30 2) 8 0 (0)) : Nat × Nat × Nat × Nat) w
      rw [E]
    · have a1 := g1 (by decide)
      have a2 := g2 (by decide)
      refine ⟨fun w => ?_, rkV (F := 3) (X := nd) (Y := z 1 nd) (Z := z 2 nd) (by decide) (by omega) (fun q => by omega) (fun q1 q2 => by omega) (fun q => by omega) (fun q => by omega) (fun q => by omega), by show 1 ≤ 3; decide⟩
      have E : ((3, nd, z 1 nd, z 2 nd) : Nat × Nat × Nat × Nat) = (3, sg (z 30 0) (z 30 2) 8 0 (nd), sg (z 30 0) (z 30 2) 8 0 (80 + z 1 nd), sg (z 30 0) (z 30 2) 8 0 (80 + z 2 nd)) := by simp (disch := omega) only [sg8_0, sg8_1, sg8_2, sg8_3]
      show rr4 ((3, nd, z 1 nd, z 2 nd) : Nat × Nat × Nat × Nat) w ↔ rr4 ((3, sg (z 30 0) (z 30 2) 8 0 (nd), sg (z 30 0) (z 30 2) 8 0 (80 + z 1 nd), sg (z 30 0) (z 30 2) 8 0 (80 + z 2 nd)) : Nat × Nat × Nat × Nat) w
      rw [E]
    · refine ⟨fun w => ?_, rkV (F := 2) (X := nd) (Y := z 30 0 + z 30 2 + nd) (Z := 0) (by decide) (by omega) (fun q => by omega) (fun q1 q2 => by omega) (fun q => by omega) (fun q => by omega) (fun q => by omega), by show 1 ≤ 2; decide⟩
      have E : ((2, nd, z 30 0 + z 30 2 + nd, 0) : Nat × Nat × Nat × Nat) = (2, sg (z 30 0) (z 30 2) 8 0 (nd), sg (z 30 0) (z 30 2) 8 0 (160 + nd), sg (z 30 0) (z 30 2) 8 0 (0)) := by simp (disch := omega) only [sg8_0, sg8_1, sg8_2, sg8_3]
      show rr4 ((2, nd, z 30 0 + z 30 2 + nd, 0) : Nat × Nat × Nat × Nat) w ↔ rr4 ((2, sg (z 30 0) (z 30 2) 8 0 (nd), sg (z 30 0) (z 30 2) 8 0 (160 + nd), sg (z 30 0) (z 30 2) 8 0 (0)) : Nat × Nat × Nat × Nat) w
      rw [E]
    · have a4 := hot rfl
      refine ⟨fun w => ?_, rkV (F := 1) (X := ot) (Y := z 30 0 + z 30 2 + nd) (Z := 0) (by decide) (by omega) (fun q => by omega) (fun q1 q2 => by omega) (fun q => by omega) (fun q => by omega) (fun q => by omega), by show 1 ≤ 1; decide⟩
      have E : ((1, ot, z 30 0 + z 30 2 + nd, 0) : Nat × Nat × Nat × Nat) = (1, sg (z 30 0) (z 30 2) 8 0 (80 + ot), sg (z 30 0) (z 30 2) 8 0 (160 + nd), sg (z 30 0) (z 30 2) 8 0 (0)) := by simp (disch := omega) only [sg8_0, sg8_1, sg8_2, sg8_3]
      show rr4 ((1, ot, z 30 0 + z 30 2 + nd, 0) : Nat × Nat × Nat × Nat) w ↔ rr4 ((1, sg (z 30 0) (z 30 2) 8 0 (80 + ot), sg (z 30 0) (z 30 2) 8 0 (160 + nd), sg (z 30 0) (z 30 2) 8 0 (0)) : Nat × Nat × Nat × Nat) w
      rw [E]
    · have a1 := g1 (by decide)
      refine ⟨fun w => ?_, rkV (F := 6) (X := z 1 nd) (Y := 2) (Z := 0) (by decide) (by omega) (fun q => by omega) (fun q1 q2 => by omega) (fun q => by omega) (fun q => by omega) (fun q => by omega), by show 1 ≤ 6; decide⟩
      have E : ((6, z 1 nd, 2, 0) : Nat × Nat × Nat × Nat) = (6, sg (z 30 0) (z 30 2) 8 0 (80 + z 1 nd), 2, sg (z 30 0) (z 30 2) 8 0 (0)) := by simp (disch := omega) only [sg8_0, sg8_1, sg8_2, sg8_3]
      show rr4 ((6, z 1 nd, 2, 0) : Nat × Nat × Nat × Nat) w ↔ rr4 ((6, sg (z 30 0) (z 30 2) 8 0 (80 + z 1 nd), 2, sg (z 30 0) (z 30 2) 8 0 (0)) : Nat × Nat × Nat × Nat) w
      rw [E]
    · have a2 := g2 (by decide)
      refine ⟨fun w => ?_, rkV (F := 6) (X := z 2 nd) (Y := 2) (Z := 0) (by decide) (by omega) (fun q => by omega) (fun q1 q2 => by omega) (fun q => by omega) (fun q => by omega) (fun q => by omega), by show 1 ≤ 6; decide⟩
      have E : ((6, z 2 nd, 2, 0) : Nat × Nat × Nat × Nat) = (6, sg (z 30 0) (z 30 2) 8 0 (80 + z 2 nd), 2, sg (z 30 0) (z 30 2) 8 0 (0)) := by simp (disch := omega) only [sg8_0, sg8_1, sg8_2, sg8_3]
      show rr4 ((6, z 2 nd, 2, 0) : Nat × Nat × Nat × Nat) w ↔ rr4 ((6, sg (z 30 0) (z 30 2) 8 0 (80 + z 2 nd), 2, sg (z 30 0) (z 30 2) 8 0 (0)) : Nat × Nat × Nat × Nat) w
      rw [E]
    · refine ⟨fun w => ?_, rkV (F := 6) (X := nd) (Y := 2) (Z := 0) (by decide) (by omega) (fun q => by omega) (fun q1 q2 => by omega) (fun q => by omega) (fun q => by omega) (fun q => by omega), by show 1 ≤ 6; decide⟩
      have E : ((6, nd, 2, 0) : Nat × Nat × Nat × Nat) = (6, sg (z 30 0) (z 30 2) 8 0 (nd), 2, sg (z 30 0) (z 30 2) 8 0 (0)) := by simp (disch := omega) only [sg8_0, sg8_1, sg8_2, sg8_3]
      show rr4 ((6, nd, 2, 0) : Nat × Nat × Nat × Nat) w ↔ rr4 ((6, sg (z 30 0) (z 30 2) 8 0 (nd), 2, sg (z 30 0) (z 30 2) 8 0 (0)) : Nat × Nat × Nat × Nat) w
      rw [E]
    · have a1 := g1 (by decide)
      have a2 := g2 (by decide)
      refine ⟨fun w => ?_, rkV (F := 1) (X := z 1 nd) (Y := z 2 nd) (Z := 0) (by decide) (by omega) (fun q => by omega) (fun q1 q2 => by omega) (fun q => by omega) (fun q => by omega) (fun q => by omega), by show 1 ≤ 1; decide⟩
      have E : ((1, z 1 nd, z 2 nd, 0) : Nat × Nat × Nat × Nat) = (1, sg (z 30 0) (z 30 2) 8 0 (80 + z 1 nd), sg (z 30 0) (z 30 2) 8 0 (80 + z 2 nd), sg (z 30 0) (z 30 2) 8 0 (0)) := by simp (disch := omega) only [sg8_0, sg8_1, sg8_2, sg8_3]
      show rr4 ((1, z 1 nd, z 2 nd, 0) : Nat × Nat × Nat × Nat) w ↔ rr4 ((1, sg (z 30 0) (z 30 2) 8 0 (80 + z 1 nd), sg (z 30 0) (z 30 2) 8 0 (80 + z 2 nd), sg (z 30 0) (z 30 2) 8 0 (0)) : Nat × Nat × Nat × Nat) w
      rw [E]
    · have a1 := g1 (by decide)
      refine ⟨fun w => ?_, rkV (F := 6) (X := z 1 nd) (Y := 1) (Z := 0) (by decide) (by omega) (fun q => by omega) (fun q1 q2 => by omega) (fun q => by omega) (fun q => by omega) (fun q => by omega), by show 1 ≤ 6; decide⟩
      have E : ((6, z 1 nd, 1, 0) : Nat × Nat × Nat × Nat) = (6, sg (z 30 0) (z 30 2) 8 0 (80 + z 1 nd), 1, sg (z 30 0) (z 30 2) 8 0 (0)) := by simp (disch := omega) only [sg8_0, sg8_1, sg8_2, sg8_3]
      show rr4 ((6, z 1 nd, 1, 0) : Nat × Nat × Nat × Nat) w ↔ rr4 ((6, sg (z 30 0) (z 30 2) 8 0 (80 + z 1 nd), 1, sg (z 30 0) (z 30 2) 8 0 (0)) : Nat × Nat × Nat × Nat) w
      rw [E]
    · have a2 := g2 (by decide)
      refine ⟨fun w => ?_, rkV (F := 6) (X := z 2 nd) (Y := 1) (Z := 0) (by decide) (by omega) (fun q => by omega) (fun q1 q2 => by omega) (fun q => by omega) (fun q => by omega) (fun q => by omega), by show 1 ≤ 6; decide⟩
      have E : ((6, z 2 nd, 1, 0) : Nat × Nat × Nat × Nat) = (6, sg (z 30 0) (z 30 2) 8 0 (80 + z 2 nd), 1, sg (z 30 0) (z 30 2) 8 0 (0)) := by simp (disch := omega) only [sg8_0, sg8_1, sg8_2, sg8_3]
      show rr4 ((6, z 2 nd, 1, 0) : Nat × Nat × Nat × Nat) w ↔ rr4 ((6, sg (z 30 0) (z 30 2) 8 0 (80 + z 2 nd), 1, sg (z 30 0) (z 30 2) 8 0 (0)) : Nat × Nat × Nat × Nat) w
      rw [E]
    · refine ⟨fun w => ?_, rkV (F := 6) (X := nd) (Y := 1) (Z := 0) (by decide) (by omega) (fun q => by omega) (fun q1 q2 => by omega) (fun q => by omega) (fun q => by omega) (fun q => by omega), by show 1 ≤ 6; decide⟩
      have E : ((6, nd, 1, 0) : Nat × Nat × Nat × Nat) = (6, sg (z 30 0) (z 30 2) 8 0 (nd), 1, sg (z 30 0) (z 30 2) 8 0 (0)) := by simp (disch := omega) only [sg8_0, sg8_1, sg8_2, sg8_3]
      show rr4 ((6, nd, 1, 0) : Nat × Nat × Nat × Nat) w ↔ rr4 ((6, sg (z 30 0) (z 30 2) 8 0 (nd), 1, sg (z 30 0) (z 30 2) 8 0 (0)) : Nat × Nat × Nat × Nat) w
      rw [E]
    · have a1 := g1 (by decide)
      have a2 := g2 (by decide)
      refine ⟨fun w => ?_, rkV (F := 2) (X := z 2 nd) (Y := z 1 nd) (Z := 0) (by decide) (by omega) (fun q => by omega) (fun q1 q2 => by omega) (fun q => by omega) (fun q => by omega) (fun q => by omega), by show 1 ≤ 2; decide⟩
      have E : ((2, z 2 nd, z 1 nd, 0) : Nat × Nat × Nat × Nat) = (2, sg (z 30 0) (z 30 2) 8 0 (80 + z 2 nd), sg (z 30 0) (z 30 2) 8 0 (80 + z 1 nd), sg (z 30 0) (z 30 2) 8 0 (0)) := by simp (disch := omega) only [sg8_0, sg8_1, sg8_2, sg8_3]
      show rr4 ((2, z 2 nd, z 1 nd, 0) : Nat × Nat × Nat × Nat) w ↔ rr4 ((2, sg (z 30 0) (z 30 2) 8 0 (80 + z 2 nd), sg (z 30 0) (z 30 2) 8 0 (80 + z 1 nd), sg (z 30 0) (z 30 2) 8 0 (0)) : Nat × Nat × Nat × Nat) w
      rw [E]
    · have a2 := g2 (by decide)
      refine ⟨fun w => ?_, rkV (F := 1) (X := nd) (Y := z 2 nd) (Z := 0) (by decide) (by omega) (fun q => by omega) (fun q1 q2 => by omega) (fun q => by omega) (fun q => by omega) (fun q => by omega), by show 1 ≤ 1; decide⟩
      have E : ((1, nd, z 2 nd, 0) : Nat × Nat × Nat × Nat) = (1, sg (z 30 0) (z 30 2) 8 0 (nd), sg (z 30 0) (z 30 2) 8 0 (80 + z 2 nd), sg (z 30 0) (z 30 2) 8 0 (0)) := by simp (disch := omega) only [sg8_0, sg8_1, sg8_2, sg8_3]
      show rr4 ((1, nd, z 2 nd, 0) : Nat × Nat × Nat × Nat) w ↔ rr4 ((1, sg (z 30 0) (z 30 2) 8 0 (nd), sg (z 30 0) (z 30 2) 8 0 (80 + z 2 nd), sg (z 30 0) (z 30 2) 8 0 (0)) : Nat × Nat × Nat × Nat) w
      rw [E]
    · have a1 := g1 (by decide)
      refine ⟨fun w => ?_, rkV (F := 2) (X := z 1 nd) (Y := z 30 0 + z 30 2 + nd) (Z := 0) (by decide) (by omega) (fun q => by omega) (fun q1 q2 => by omega) (fun q => by omega) (fun q => by omega) (fun q => by omega), by show 1 ≤ 2; decide⟩
      have E : ((2, z 1 nd, z 30 0 + z 30 2 + nd, 0) : Nat × Nat × Nat × Nat) = (2, sg (z 30 0) (z 30 2) 8 0 (80 + z 1 nd), sg (z 30 0) (z 30 2) 8 0 (160 + nd), sg (z 30 0) (z 30 2) 8 0 (0)) := by simp (disch := omega) only [sg8_0, sg8_1, sg8_2, sg8_3]
      show rr4 ((2, z 1 nd, z 30 0 + z 30 2 + nd, 0) : Nat × Nat × Nat × Nat) w ↔ rr4 ((2, sg (z 30 0) (z 30 2) 8 0 (80 + z 1 nd), sg (z 30 0) (z 30 2) 8 0 (160 + nd), sg (z 30 0) (z 30 2) 8 0 (0)) : Nat × Nat × Nat × Nat) w
      rw [E]
    · have a1 := g1 (by decide)
      have a2 := g2 (by decide)
      refine ⟨fun w => ?_, rkV (F := 1) (X := z 2 nd) (Y := z 1 nd) (Z := 0) (by decide) (by omega) (fun q => by omega) (fun q1 q2 => by omega) (fun q => by omega) (fun q => by omega) (fun q => by omega), by show 1 ≤ 1; decide⟩
      show w (z 2 nd) = w (z 1 nd) ↔ w (sg (z 30 0) (z 30 2) 8 0 (80 + z 1 nd)) = w (sg (z 30 0) (z 30 2) 8 0 (80 + z 2 nd))
      rw [sg8_1 (by omega), sg8_1 (by omega)]
      exact ⟨Eq.symm, Eq.symm⟩
    · have a1 := g1 (by decide)
      refine ⟨fun w => ?_, rkV (F := 1) (X := nd) (Y := z 1 nd) (Z := 0) (by decide) (by omega) (fun q => by omega) (fun q1 q2 => by omega) (fun q => by omega) (fun q => by omega) (fun q => by omega), by show 1 ≤ 1; decide⟩
      have E : ((1, nd, z 1 nd, 0) : Nat × Nat × Nat × Nat) = (1, sg (z 30 0) (z 30 2) 8 0 (nd), sg (z 30 0) (z 30 2) 8 0 (80 + z 1 nd), sg (z 30 0) (z 30 2) 8 0 (0)) := by simp (disch := omega) only [sg8_0, sg8_1, sg8_2, sg8_3]
      show rr4 ((1, nd, z 1 nd, 0) : Nat × Nat × Nat × Nat) w ↔ rr4 ((1, sg (z 30 0) (z 30 2) 8 0 (nd), sg (z 30 0) (z 30 2) 8 0 (80 + z 1 nd), sg (z 30 0) (z 30 2) 8 0 (0)) : Nat × Nat × Nat × Nat) w
      rw [E]
end CTABLE
