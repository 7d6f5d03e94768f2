section CHANGE3
variable {kd pl : Nat → Nat} {nt c p : Nat} {z : Zt} {ky bi : Nat → Int64} {mn : Nat → Nat} {l : Nat → Rr} {cs n m : Nat} {A : Nat → Bool} {w : Nat → Ty}
theorem sw_o {N B v : Nat} (hv : v < 80) (h : v ≠ n) : sg N B cs n v = v := by unfold sg; rw [if_pos hv, if_neg (by omega)]
theorem sw_n {N B : Nat} (hv : n < 80) (h5 : 5 ≤ cs) (h7 : cs ≤ 7) : sg N B cs n n = 2 * N + B := by unfold sg; rw [if_pos hv, if_pos ⟨⟨h5, h7⟩, rfl⟩]
theorem sw_1 {N B v : Nat} (h : v < 80) : sg N B cs n (80 + v) = v := by unfold sg; rw [if_neg (by omega), if_pos (by omega)]; omega
theorem sw_2 {N B v : Nat} (h : v < 80) : sg N B cs n (160 + v) = N + B + v := by unfold sg; rw [if_neg (by omega), if_neg (by omega), if_pos (by omega)]; omega
theorem sw_3 {N B v : Nat} : sg N B cs n (240 + v) = N + v := by unfold sg; rw [if_neg (by omega), if_neg (by omega), if_neg (by omega)]; omega
theorem gW_p {V : Nat} {g : Rr → N4} {x : Rr} (h : owr x = n) : gW n V g x = ((g x).1, (if (g x).2.1 = n then V else (g x).2.1), (g x).2.2.1, (if (g x).1 = 4 ∧ (g x).2.2.2 = n then V else (g x).2.2.2)) := by unfold gW; rw [if_pos h]
theorem gW_t {V F X Y Z : Nat} {g : Rr → N4} {x : Rr} (cf : g x = (F, X, Y, Z)) (h : owr x = n) : gW n V g x = (F, (if X = n then V else X), Y, (if F = 4 ∧ Z = n then V else Z)) := by rw [gW_p h, cf]
theorem gW_q {V : Nat} {g : Rr → N4} {x : Rr} (h : owr x ≠ n) : gW n V g x = g x := by unfold gW; rw [if_neg h]
/-- a wrapped row -/
theorem gW_row (hx : TXX kd pl nt z) (hsq : SQ l c (RUL z)) (ht : tok (tz z mn l c)) (h5 : 5 ≤ cs) (h7 : cs ≤ 7) (hn : n < z 30 0) {r : Nat} (hr : r < c) : rr4 (gW n (2 * z 30 0 + z 30 2) (cF z mn) (l r)) w ↔ rr4 (mrow (sg (z 30 0) (z 30 2) cs n) (hz z mn cs n m (l r))) w := by
  have hT := hx.1
  have n80 : z 30 0 ≤ 80 := ht.1
  have R := (hsq.2 (l r)).mpr ⟨r, hr, rfl⟩
  obtain ⟨hs, hot⟩ := RUL_t hT R
  have hk4 : ∀ n, n < z 30 0 → z 0 n = 4 → 11 ≤ z 4 n := fun n hn h => ((hT.2.1.1 n hn).2.2.2.2.2.2.1 h).1
  have hne : (l r).2.1 = 11 → (l r).2.2.2 ≠ (l r).2.2.1 := fun h => by
    rcases R with ⟨d, hd, e⟩ | ⟨k, hk, hm⟩ | ⟨e, he, e5, e7, ee⟩
    · rw [e] at h; exact absurd h (by show (1 : Nat) ≠ 11; decide)
    · exact absurd h (own_sok (hT.2.1.1 k hk).1.1 hm).2.1
    · rw [ee]
      show e ≠ z 5 e
      intro q
      rcases hT.2.1.2.1 e he with x | x
      · omega
      · have := x.2.2.2
        rw [← q] at this
        omega
  obtain ⟨-, -, -, -, -, hno, hde, -⟩ := ht
  replace hno : ∀ n, n < z 30 0 → z 0 n ≤ 13 ∧ (3 ≤ z 0 n ∧ z 0 n ≠ 7 → z 1 n < z 30 0) ∧ (3 ≤ z 0 n ∧ z 0 n ≠ 7 ∧ z 0 n ≠ 4 → z 2 n < z 30 0) ∧ (z 0 n = 5 → z 3 n < z 30 0) ∧ (z 0 n = 0 → (if z 0 n = 4 then z 4 n - 11 else mn n) < 11 + z 30 2) ∧ (z 0 n = 4 → (if z 0 n = 4 then z 4 n - 11 else mn n) < z 30 2) := hno
  replace hde : ∀ d, d < z 30 1 → z 18 d < z 30 0 ∧ z 16 d + z 17 d < z 30 2 := hde
  rw [hz_w h5]
  unfold hz
  rw [sr_8]
  clear R hsq hr
  generalize l r = x at hs hot hne ⊢
  obtain ⟨k, s, nd, ot⟩ := x
  replace hs : (s = 1 ∧ nd < z 30 1) ∨ (s ≠ 1 ∧ nd < z 30 0 ∧ sok s (z 0 nd)) := hs
  replace hot : s = 11 → ot < z 30 0 := hot
  replace hne : s = 11 → ot ≠ nd := hne
  show rr4 (gW n (2 * z 30 0 + z 30 2) (cF z mn) (k, s, nd, ot)) w ↔ rr4 (mrow (sg (z 30 0) (z 30 2) cs n) (hrow (z 1) (z 2) (z 3) (fun i => if z 0 i = 4 then z 4 i - 11 else mn i) (z 18) (z 16) (z 17) 8 0 0 s nd ot)) w
  by_cases h1 : s = 1
  · subst h1
    have hd : nd < z 30 1 := by omega
    obtain ⟨q1, q2⟩ := hde nd hd
    rw [gW_q (show owr (k, 1, nd, ot) ≠ n by show (if (1 : Nat) = 1 then 1000 else nd) ≠ n; rw [if_pos rfl]; omega)]
    show rr4 ((5, z 30 0 + z 16 nd, z 17 nd, z 18 nd) : N4) w ↔ rr4 ((5, sg (z 30 0) (z 30 2) cs n (240 + z 16 nd), z 17 nd, sg (z 30 0) (z 30 2) cs n (80 + z 18 nd)) : N4) w
    rw [sw_3, sw_1 (by omega)]
  · obtain ⟨hnd, hsok⟩ : nd < z 30 0 ∧ sok s (z 0 nd) := by
      rcases hs with h | h
      · exact absurd h.1 h1
      · exact h.2
    obtain ⟨k13, b1, b2, b3, b4, b5⟩ := hno nd hnd
    obtain ⟨k23, kn1, n1, n2, n3, n4, n5⟩ := need_sok hsok (Or.inl rfl)
    have g1 := fun q => b1 (n1 q)
    have g2 := fun q => b2 (n2 q)
    have b4 : z 0 nd = 0 → mn nd < 11 + z 30 2 := fun h => by
      have := b4 h
      rw [if_neg (by omega)] at this
      exact this
    have b5 : z 0 nd = 4 → z 4 nd - 11 < z 30 2 := fun h => by
      have := b5 h
      rw [if_pos h] at this
      exact this
    have ow : owr (k, s, nd, ot) = nd := by show (if s = 1 then 1000 else nd) = nd; rw [if_neg h1]
    have c7 : z 0 nd ≠ 7 → (z 1 nd < z 30 0 → z 1 nd ≠ nd) ∧ (z 2 nd < z 30 0 → z 2 nd ≠ nd) ∧ (z 3 nd < z 30 0 → z 3 nd ≠ nd) := fun h => ch_ne hx hnd h
    have e1 : (s = 0 ∨ s = 5 ∨ s = 6 ∨ s = 12 ∨ s = 9 ∨ s = 15 ∨ s = 16 ∨ s = 19 ∨ 21 ≤ s) → z 1 nd ≠ nd := fun q => (c7 (n1 q).2).1 (g1 q)
    have e2 : (s = 0 ∨ s = 7 ∨ s = 20 ∨ s = 9 ∨ s = 13 ∨ s = 15 ∨ s = 17 ∨ s = 19 ∨ s = 22) → z 2 nd ≠ nd := fun q => (c7 (n2 q).2.1).2.1 (g2 q)
    have hnn : n < 80 := by omega
    have wn := sw_n (n := n) (N := z 30 0) (B := z 30 2) hnn h5 h7
    clear hs n1 n2 c7 hno hde
    rcases (show s = 0 ∨ s = 2 ∨ s = 3 ∨ s = 4 ∨ s = 5 ∨ s = 6 ∨ s = 7 ∨ s = 8 ∨ s = 9 ∨ s = 10 ∨ s = 11 ∨ s = 12 ∨ s = 13 ∨ s = 14 ∨ s = 15 ∨ s = 16 ∨ s = 17 ∨ s = 18 ∨ s = 19 ∨ s = 20 ∨ s = 21 ∨ s = 22 ∨ s = 23 by omega) with h | h | h | h | h | h | h | h | h | h | h | h | h | h | h | h | h | h | h | h | h | h | h <;> subst h
    · have a1 := g1 (by decide)
      have ne1 := e1 (by decide)
      have a2 := g2 (by decide)
      have ne2 := e2 (by decide)
      by_cases qn : nd = n
      · rw [gW_t (F := 4) (X := z 1 nd) (Y := z 2 nd) (Z := nd) rfl (ow.trans qn)]
        show rr4 ((4, (if z 1 nd = n then 2 * z 30 0 + z 30 2 else z 1 nd), z 2 nd, (if 4 = 4 ∧ nd = n then 2 * z 30 0 + z 30 2 else nd)) : N4) w ↔ rr4 ((4, sg (z 30 0) (z 30 2) cs n (80 + z 1 nd), sg (z 30 0) (z 30 2) cs n (80 + z 2 nd), sg (z 30 0) (z 30 2) cs n nd) : N4) w
        rw [if_neg (fun x => ne1 (x.trans qn.symm)), if_pos ⟨rfl, qn⟩, sw_1 (by omega), sw_1 (by omega), qn, wn]
      · rw [gW_q (by rw [ow]; exact qn)]
        show rr4 ((4, z 1 nd, z 2 nd, nd) : N4) w ↔ rr4 ((4, sg (z 30 0) (z 30 2) cs n (80 + z 1 nd), sg (z 30 0) (z 30 2) cs n (80 + z 2 nd), sg (z 30 0) (z 30 2) cs n nd) : N4) w
        rw [sw_o (by omega) qn, sw_1 (by omega), sw_1 (by omega)]
    · have k0 := n3 rfl
      have b4 := b4 k0
      have cf : cF z mn (k, 2, nd, ot) = if mn nd < 11 then (7, nd, mn nd, 0) else (1, nd, z 30 0 + mn nd - 11, 0) := rfl
      have hm : hrow (z 1) (z 2) (z 3) (fun i => if z 0 i = 4 then z 4 i - 11 else mn i) (z 18) (z 16) (z 17) 8 0 0 2 nd ot = if mn nd < 11 then (7, nd, mn nd, 0) else (1, nd, 240 + mn nd - 11, 0) := by
        show (if (if z 0 nd = 4 then z 4 nd - 11 else mn nd) < 11 then (7, nd, (if z 0 nd = 4 then z 4 nd - 11 else mn nd), 0) else (1, nd, 240 + (if z 0 nd = 4 then z 4 nd - 11 else mn nd) - 11, 0)) = _
        rw [if_neg (show ¬ z 0 nd = 4 by omega)]
      rw [hm]
      by_cases q : mn nd < 11
      · rw [if_pos q] at cf ⊢
        by_cases qn : nd = n
        · rw [gW_p (ow.trans qn), cf]
          show rr4 ((7, (if nd = n then 2 * z 30 0 + z 30 2 else nd), mn nd, _) : N4) w ↔ rr4 ((7, sg (z 30 0) (z 30 2) cs n nd, mn nd, _) : N4) w
          rw [if_pos qn, qn, wn]
          exact Iff.rfl
        · rw [gW_q (by rw [ow]; exact qn), cf]
          show rr4 ((7, nd, mn nd, _) : N4) w ↔ rr4 ((7, sg (z 30 0) (z 30 2) cs n nd, mn nd, _) : N4) w
          rw [sw_o (by omega) qn]
          exact Iff.rfl
      · rw [if_neg q] at cf ⊢
        have e240 : 240 + mn nd - 11 = 240 + (mn nd - 11) := by omega
        have eN : z 30 0 + mn nd - 11 = z 30 0 + (mn nd - 11) := by omega
        by_cases qn : nd = n
        · rw [gW_p (ow.trans qn), cf]
          show rr4 ((1, (if nd = n then 2 * z 30 0 + z 30 2 else nd), z 30 0 + mn nd - 11, _) : N4) w ↔ rr4 ((1, sg (z 30 0) (z 30 2) cs n nd, sg (z 30 0) (z 30 2) cs n (240 + mn nd - 11), _) : N4) w
          rw [if_pos qn, e240, eN, sw_3, qn, wn]
          exact Iff.rfl
        · rw [gW_q (by rw [ow]; exact qn), cf]
          show rr4 ((1, nd, z 30 0 + mn nd - 11, _) : N4) w ↔ rr4 ((1, sg (z 30 0) (z 30 2) cs n nd, sg (z 30 0) (z 30 2) cs n (240 + mn nd - 11), _) : N4) w
          rw [sw_o (by omega) qn, e240, eN, sw_3]
          exact Iff.rfl
    · by_cases qn : nd = n
      · rw [gW_p (ow.trans qn)]
        show rr4 ((6, (if nd = n then 2 * z 30 0 + z 30 2 else nd), 1, _) : N4) w ↔ rr4 ((6, sg (z 30 0) (z 30 2) cs n nd, 1, _) : N4) w
        rw [if_pos qn, qn, wn]
        exact Iff.rfl
      · rw [gW_q (by rw [ow]; exact qn)]
        show rr4 ((6, nd, 1, _) : N4) w ↔ rr4 ((6, sg (z 30 0) (z 30 2) cs n nd, 1, _) : N4) w
        rw [sw_o (by omega) qn]
        exact Iff.rfl
    · by_cases qn : nd = n
      · rw [gW_p (ow.trans qn)]
        show rr4 ((6, (if nd = n then 2 * z 30 0 + z 30 2 else nd), 3, _) : N4) w ↔ rr4 ((6, sg (z 30 0) (z 30 2) cs n nd, 3, _) : N4) w
        rw [if_pos qn, qn, wn]
        exact Iff.rfl
      · rw [gW_q (by rw [ow]; exact qn)]
        show rr4 ((6, nd, 3, _) : N4) w ↔ rr4 ((6, sg (z 30 0) (z 30 2) cs n nd, 3, _) : N4) w
        rw [sw_o (by omega) qn]
        exact Iff.rfl
    · have k4 := n4 rfl
      have a1 := g1 (by decide)
      have ne1 := e1 (by decide)
      have b5 := b5 k4
      have h11 := hk4 nd hnd k4
      have eN : z 30 0 + z 4 nd - 11 = z 30 0 + (z 4 nd - 11) := by omega
      have hm : hrow (z 1) (z 2) (z 3) (fun i => if z 0 i = 4 then z 4 i - 11 else mn i) (z 18) (z 16) (z 17) 8 0 0 5 nd ot = (4, nd, 240 + (z 4 nd - 11), 80 + z 1 nd) := by
        show (4, nd, 240 + (if z 0 nd = 4 then z 4 nd - 11 else mn nd), 80 + z 1 nd) = _
        rw [if_pos k4]
      rw [hm]
      by_cases qn : nd = n
      · rw [gW_t (F := 4) (X := nd) (Y := z 30 0 + z 4 nd - 11) (Z := z 1 nd) rfl (ow.trans qn)]
        show rr4 ((4, (if nd = n then 2 * z 30 0 + z 30 2 else nd), z 30 0 + z 4 nd - 11, (if 4 = 4 ∧ z 1 nd = n then 2 * z 30 0 + z 30 2 else z 1 nd)) : N4) w ↔ rr4 ((4, sg (z 30 0) (z 30 2) cs n nd, sg (z 30 0) (z 30 2) cs n (240 + (z 4 nd - 11)), sg (z 30 0) (z 30 2) cs n (80 + z 1 nd)) : N4) w
        rw [if_pos qn, if_neg (fun x => ne1 (x.2.trans qn.symm)), eN, sw_3, sw_1 (by omega), qn, wn]
      · rw [gW_q (by rw [ow]; exact qn)]
        show rr4 ((4, nd, z 30 0 + z 4 nd - 11, z 1 nd) : N4) w ↔ rr4 ((4, sg (z 30 0) (z 30 2) cs n nd, sg (z 30 0) (z 30 2) cs n (240 + (z 4 nd - 11)), sg (z 30 0) (z 30 2) cs n (80 + z 1 nd)) : N4) w
        rw [sw_o (by omega) qn, eN, sw_3, sw_1 (by omega)]
    · have a1 := g1 (by decide)
      have ne1 := e1 (by decide)
      by_cases qn : nd = n
      · rw [gW_p (ow.trans qn)]
        show rr4 ((6, (if z 1 nd = n then 2 * z 30 0 + z 30 2 else z 1 nd), 2, _) : N4) w ↔ rr4 ((6, sg (z 30 0) (z 30 2) cs n (80 + z 1 nd), 2, _) : N4) w
        rw [if_neg (fun x => ne1 (x.trans qn.symm)), sw_1 (by omega)]
        exact Iff.rfl
      · rw [gW_q (by rw [ow]; exact qn)]
        show rr4 ((6, z 1 nd, 2, _) : N4) w ↔ rr4 ((6, sg (z 30 0) (z 30 2) cs n (80 + z 1 nd), 2, _) : N4) w
        rw [sw_1 (by omega)]
        exact Iff.rfl
    · have a2 := g2 (by decide)
      have ne2 := e2 (by decide)
      by_cases qn : nd = n
      · rw [gW_p (ow.trans qn)]
        show rr4 ((1, (if nd = n then 2 * z 30 0 + z 30 2 else nd), z 2 nd, _) : N4) w ↔ rr4 ((1, sg (z 30 0) (z 30 2) cs n nd, sg (z 30 0) (z 30 2) cs n (80 + z 2 nd), _) : N4) w
        rw [if_pos qn, sw_1 (by omega), qn, wn]
        exact Iff.rfl
      · rw [gW_q (by rw [ow]; exact qn)]
        show rr4 ((1, nd, z 2 nd, _) : N4) w ↔ rr4 ((1, sg (z 30 0) (z 30 2) cs n nd, sg (z 30 0) (z 30 2) cs n (80 + z 2 nd), _) : N4) w
        rw [sw_o (by omega) qn, sw_1 (by omega)]
        exact Iff.rfl
    · have a3 := b3 (n5 rfl)
      by_cases qn : nd = n
      · rw [gW_p (ow.trans qn)]
        show rr4 ((1, (if nd = n then 2 * z 30 0 + z 30 2 else nd), z 3 nd, _) : N4) w ↔ rr4 ((1, sg (z 30 0) (z 30 2) cs n nd, sg (z 30 0) (z 30 2) cs n (80 + z 3 nd), _) : N4) w
        rw [if_pos qn, sw_1 (by omega), qn, wn]
        exact Iff.rfl
      · rw [gW_q (by rw [ow]; exact qn)]
        show rr4 ((1, nd, z 3 nd, _) : N4) w ↔ rr4 ((1, sg (z 30 0) (z 30 2) cs n nd, sg (z 30 0) (z 30 2) cs n (80 + z 3 nd), _) : N4) w
        rw [sw_o (by omega) qn, sw_1 (by omega)]
        exact Iff.rfl
    · have a1 := g1 (by decide)
      have ne1 := e1 (by decide)
      have a2 := g2 (by decide)
      have ne2 := e2 (by decide)
      by_cases qn : nd = n
      · rw [gW_t (F := 3) (X := nd) (Y := z 1 nd) (Z := z 2 nd) rfl (ow.trans qn)]
        show rr4 ((3, (if nd = n then 2 * z 30 0 + z 30 2 else nd), z 1 nd, (if 3 = 4 ∧ z 2 nd = n then 2 * z 30 0 + z 30 2 else z 2 nd)) : N4) w ↔ rr4 ((3, sg (z 30 0) (z 30 2) cs n nd, sg (z 30 0) (z 30 2) cs n (80 + z 1 nd), sg (z 30 0) (z 30 2) cs n (80 + z 2 nd)) : N4) w
        rw [if_pos qn, if_neg (fun x => absurd x.1 (by decide)), sw_1 (by omega), sw_1 (by omega), qn, wn]
      · rw [gW_q (by rw [ow]; exact qn)]
        show rr4 ((3, nd, z 1 nd, z 2 nd) : N4) w ↔ rr4 ((3, sg (z 30 0) (z 30 2) cs n nd, sg (z 30 0) (z 30 2) cs n (80 + z 1 nd), sg (z 30 0) (z 30 2) cs n (80 + z 2 nd)) : N4) w
        rw [sw_o (by omega) qn, sw_1 (by omega), sw_1 (by omega)]
    · by_cases qn : nd = n
      · rw [gW_p (ow.trans qn)]
        show rr4 ((2, (if nd = n then 2 * z 30 0 + z 30 2 else nd), z 30 0 + z 30 2 + nd, _) : N4) w ↔ rr4 ((2, sg (z 30 0) (z 30 2) cs n nd, sg (z 30 0) (z 30 2) cs n (160 + nd), _) : N4) w
        rw [if_pos qn, sw_2 (by omega), qn, wn]
        exact Iff.rfl
      · rw [gW_q (by rw [ow]; exact qn)]
        show rr4 ((2, nd, z 30 0 + z 30 2 + nd, _) : N4) w ↔ rr4 ((2, sg (z 30 0) (z 30 2) cs n nd, sg (z 30 0) (z 30 2) cs n (160 + nd), _) : N4) w
        rw [sw_o (by omega) qn, sw_2 (by omega)]
        exact Iff.rfl
    · have ao := hot rfl
      have neo := hne rfl
      by_cases qn : nd = n
      · rw [gW_p (ow.trans qn)]
        show rr4 ((1, (if ot = n then 2 * z 30 0 + z 30 2 else ot), z 30 0 + z 30 2 + nd, _) : N4) w ↔ rr4 ((1, sg (z 30 0) (z 30 2) cs n (80 + ot), sg (z 30 0) (z 30 2) cs n (160 + nd), _) : N4) w
        rw [if_neg (fun x => neo (x.trans qn.symm)), sw_1 (by omega), sw_2 (by omega)]
        exact Iff.rfl
      · rw [gW_q (by rw [ow]; exact qn)]
        show rr4 ((1, ot, z 30 0 + z 30 2 + nd, _) : N4) w ↔ rr4 ((1, sg (z 30 0) (z 30 2) cs n (80 + ot), sg (z 30 0) (z 30 2) cs n (160 + nd), _) : N4) w
        rw [sw_1 (by omega), sw_2 (by omega)]
        exact Iff.rfl
    · have a1 := g1 (by decide)
      have ne1 := e1 (by decide)
      by_cases qn : nd = n
      · rw [gW_p (ow.trans qn)]
        show rr4 ((6, (if z 1 nd = n then 2 * z 30 0 + z 30 2 else z 1 nd), 2, _) : N4) w ↔ rr4 ((6, sg (z 30 0) (z 30 2) cs n (80 + z 1 nd), 2, _) : N4) w
        rw [if_neg (fun x => ne1 (x.trans qn.symm)), sw_1 (by omega)]
        exact Iff.rfl
      · rw [gW_q (by rw [ow]; exact qn)]
        show rr4 ((6, z 1 nd, 2, _) : N4) w ↔ rr4 ((6, sg (z 30 0) (z 30 2) cs n (80 + z 1 nd), 2, _) : N4) w
        rw [sw_1 (by omega)]
        exact Iff.rfl
    · have a2 := g2 (by decide)
      have ne2 := e2 (by decide)
      by_cases qn : nd = n
      · rw [gW_p (ow.trans qn)]
        show rr4 ((6, (if z 2 nd = n then 2 * z 30 0 + z 30 2 else z 2 nd), 2, _) : N4) w ↔ rr4 ((6, sg (z 30 0) (z 30 2) cs n (80 + z 2 nd), 2, _) : N4) w
        rw [if_neg (fun x => ne2 (x.trans qn.symm)), sw_1 (by omega)]
        exact Iff.rfl
      · rw [gW_q (by rw [ow]; exact qn)]
        show rr4 ((6, z 2 nd, 2, _) : N4) w ↔ rr4 ((6, sg (z 30 0) (z 30 2) cs n (80 + z 2 nd), 2, _) : N4) w
        rw [sw_1 (by omega)]
        exact Iff.rfl
    · by_cases qn : nd = n
      · rw [gW_p (ow.trans qn)]
        show rr4 ((6, (if nd = n then 2 * z 30 0 + z 30 2 else nd), 2, _) : N4) w ↔ rr4 ((6, sg (z 30 0) (z 30 2) cs n nd, 2, _) : N4) w
        rw [if_pos qn, qn, wn]
        exact Iff.rfl
      · rw [gW_q (by rw [ow]; exact qn)]
        show rr4 ((6, nd, 2, _) : N4) w ↔ rr4 ((6, sg (z 30 0) (z 30 2) cs n nd, 2, _) : N4) w
        rw [sw_o (by omega) qn]
        exact Iff.rfl
    · have a1 := g1 (by decide)
      have ne1 := e1 (by decide)
      have a2 := g2 (by decide)
      have ne2 := e2 (by decide)
      by_cases qn : nd = n
      · rw [gW_p (ow.trans qn)]
        show rr4 ((1, (if z 1 nd = n then 2 * z 30 0 + z 30 2 else z 1 nd), z 2 nd, _) : N4) w ↔ rr4 ((1, sg (z 30 0) (z 30 2) cs n (80 + z 1 nd), sg (z 30 0) (z 30 2) cs n (80 + z 2 nd), _) : N4) w
        rw [if_neg (fun x => ne1 (x.trans qn.symm)), sw_1 (by omega), sw_1 (by omega)]
        exact Iff.rfl
      · rw [gW_q (by rw [ow]; exact qn)]
        show rr4 ((1, z 1 nd, z 2 nd, _) : N4) w ↔ rr4 ((1, sg (z 30 0) (z 30 2) cs n (80 + z 1 nd), sg (z 30 0) (z 30 2) cs n (80 + z 2 nd), _) : N4) w
        rw [sw_1 (by omega), sw_1 (by omega)]
        exact Iff.rfl
    · have a1 := g1 (by decide)
      have ne1 := e1 (by decide)
      by_cases qn : nd = n
      · rw [gW_p (ow.trans qn)]
        show rr4 ((6, (if z 1 nd = n then 2 * z 30 0 + z 30 2 else z 1 nd), 1, _) : N4) w ↔ rr4 ((6, sg (z 30 0) (z 30 2) cs n (80 + z 1 nd), 1, _) : N4) w
        rw [if_neg (fun x => ne1 (x.trans qn.symm)), sw_1 (by omega)]
        exact Iff.rfl
      · rw [gW_q (by rw [ow]; exact qn)]
        show rr4 ((6, z 1 nd, 1, _) : N4) w ↔ rr4 ((6, sg (z 30 0) (z 30 2) cs n (80 + z 1 nd), 1, _) : N4) w
        rw [sw_1 (by omega)]
        exact Iff.rfl
    · have a2 := g2 (by decide)
      have ne2 := e2 (by decide)
      by_cases qn : nd = n
      · rw [gW_p (ow.trans qn)]
        show rr4 ((6, (if z 2 nd = n then 2 * z 30 0 + z 30 2 else z 2 nd), 1, _) : N4) w ↔ rr4 ((6, sg (z 30 0) (z 30 2) cs n (80 + z 2 nd), 1, _) : N4) w
        rw [if_neg (fun x => ne2 (x.trans qn.symm)), sw_1 (by omega)]
        exact Iff.rfl
      · rw [gW_q (by rw [ow]; exact qn)]
        show rr4 ((6, z 2 nd, 1, _) : N4) w ↔ rr4 ((6, sg (z 30 0) (z 30 2) cs n (80 + z 2 nd), 1, _) : N4) w
        rw [sw_1 (by omega)]
        exact Iff.rfl
    · by_cases qn : nd = n
      · rw [gW_p (ow.trans qn)]
        show rr4 ((6, (if nd = n then 2 * z 30 0 + z 30 2 else nd), 1, _) : N4) w ↔ rr4 ((6, sg (z 30 0) (z 30 2) cs n nd, 1, _) : N4) w
        rw [if_pos qn, qn, wn]
        exact Iff.rfl
      · rw [gW_q (by rw [ow]; exact qn)]
        show rr4 ((6, nd, 1, _) : N4) w ↔ rr4 ((6, sg (z 30 0) (z 30 2) cs n nd, 1, _) : N4) w
        rw [sw_o (by omega) qn]
        exact Iff.rfl
    · have a1 := g1 (by decide)
      have ne1 := e1 (by decide)
      have a2 := g2 (by decide)
      have ne2 := e2 (by decide)
      by_cases qn : nd = n
      · rw [gW_p (ow.trans qn)]
        show rr4 ((2, (if z 2 nd = n then 2 * z 30 0 + z 30 2 else z 2 nd), z 1 nd, _) : N4) w ↔ rr4 ((2, sg (z 30 0) (z 30 2) cs n (80 + z 2 nd), sg (z 30 0) (z 30 2) cs n (80 + z 1 nd), _) : N4) w
        rw [if_neg (fun x => ne2 (x.trans qn.symm)), sw_1 (by omega), sw_1 (by omega)]
        exact Iff.rfl
      · rw [gW_q (by rw [ow]; exact qn)]
        show rr4 ((2, z 2 nd, z 1 nd, _) : N4) w ↔ rr4 ((2, sg (z 30 0) (z 30 2) cs n (80 + z 2 nd), sg (z 30 0) (z 30 2) cs n (80 + z 1 nd), _) : N4) w
        rw [sw_1 (by omega), sw_1 (by omega)]
        exact Iff.rfl
    · have a2 := g2 (by decide)
      have ne2 := e2 (by decide)
      by_cases qn : nd = n
      · rw [gW_p (ow.trans qn)]
        show rr4 ((1, (if nd = n then 2 * z 30 0 + z 30 2 else nd), z 2 nd, _) : N4) w ↔ rr4 ((1, sg (z 30 0) (z 30 2) cs n nd, sg (z 30 0) (z 30 2) cs n (80 + z 2 nd), _) : N4) w
        rw [if_pos qn, sw_1 (by omega), qn, wn]
        exact Iff.rfl
      · rw [gW_q (by rw [ow]; exact qn)]
        show rr4 ((1, nd, z 2 nd, _) : N4) w ↔ rr4 ((1, sg (z 30 0) (z 30 2) cs n nd, sg (z 30 0) (z 30 2) cs n (80 + z 2 nd), _) : N4) w
        rw [sw_o (by omega) qn, sw_1 (by omega)]
        exact Iff.rfl
    · have a1 := g1 (by decide)
      have ne1 := e1 (by decide)
      by_cases qn : nd = n
      · rw [gW_p (ow.trans qn)]
        show rr4 ((2, (if z 1 nd = n then 2 * z 30 0 + z 30 2 else z 1 nd), z 30 0 + z 30 2 + nd, _) : N4) w ↔ rr4 ((2, sg (z 30 0) (z 30 2) cs n (80 + z 1 nd), sg (z 30 0) (z 30 2) cs n (160 + nd), _) : N4) w
        rw [if_neg (fun x => ne1 (x.trans qn.symm)), sw_1 (by omega), sw_2 (by omega)]
        exact Iff.rfl
      · rw [gW_q (by rw [ow]; exact qn)]
        show rr4 ((2, z 1 nd, z 30 0 + z 30 2 + nd, _) : N4) w ↔ rr4 ((2, sg (z 30 0) (z 30 2) cs n (80 + z 1 nd), sg (z 30 0) (z 30 2) cs n (160 + nd), _) : N4) w
        rw [sw_1 (by omega), sw_2 (by omega)]
        exact Iff.rfl
    · have a1 := g1 (by decide)
      have ne1 := e1 (by decide)
      have a2 := g2 (by decide)
      have ne2 := e2 (by decide)
      by_cases qn : nd = n
      · rw [gW_p (ow.trans qn)]
        show rr4 ((1, (if z 2 nd = n then 2 * z 30 0 + z 30 2 else z 2 nd), z 1 nd, _) : N4) w ↔ rr4 ((1, sg (z 30 0) (z 30 2) cs n (80 + z 1 nd), sg (z 30 0) (z 30 2) cs n (80 + z 2 nd), _) : N4) w
        rw [if_neg (fun x => ne2 (x.trans qn.symm)), sw_1 (by omega), sw_1 (by omega)]
        exact ⟨fun h => Eq.symm h, fun h => Eq.symm h⟩
      · rw [gW_q (by rw [ow]; exact qn)]
        show rr4 ((1, z 2 nd, z 1 nd, _) : N4) w ↔ rr4 ((1, sg (z 30 0) (z 30 2) cs n (80 + z 1 nd), sg (z 30 0) (z 30 2) cs n (80 + z 2 nd), _) : N4) w
        rw [sw_1 (by omega), sw_1 (by omega)]
        exact ⟨fun h => Eq.symm h, fun h => Eq.symm h⟩
    · have a1 := g1 (by decide)
      have ne1 := e1 (by decide)
      by_cases qn : nd = n
      · rw [gW_p (ow.trans qn)]
        show rr4 ((1, (if nd = n then 2 * z 30 0 + z 30 2 else nd), z 1 nd, _) : N4) w ↔ rr4 ((1, sg (z 30 0) (z 30 2) cs n nd, sg (z 30 0) (z 30 2) cs n (80 + z 1 nd), _) : N4) w
        rw [if_pos qn, sw_1 (by omega), qn, wn]
        exact Iff.rfl
      · rw [gW_q (by rw [ow]; exact qn)]
        show rr4 ((1, nd, z 1 nd, _) : N4) w ↔ rr4 ((1, sg (z 30 0) (z 30 2) cs n nd, sg (z 30 0) (z 30 2) cs n (80 + z 1 nd), _) : N4) w
        rw [sw_o (by omega) qn, sw_1 (by omega)]
        exact Iff.rfl
/-- a wrap -/
theorem eqC5 (hx : TXX kd pl nt z) (hsq : SQ l c (RUL z)) (ht : tok (tz z mn l c)) (hc : CHG z cs n m) (h5 : 5 ≤ cs) : eqv (z 30 0) (z 30 2) (sg (z 30 0) (z 30 2) cs n) (tu (z 30 0) (z 30 2) n) (ECS z mn l c cs n m) (mMS (tz z mn l c) A cs n m (fun _ => nI 1)) := by
  have n80 : z 30 0 ≤ 80 := ht.1
  have hk := CHG_ok hx.1 ht hc
  have h7 := hc.1
  have hn := hc.2.1
  have eg : edG z mn cs n = gW n (2 * z 30 0 + z 30 2) (cF z mn) := by unfold edG; rw [if_neg (by omega), if_neg (by omega), if_neg (by omega)]
  have wn := sw_n (n := n) (N := z 30 0) (B := z 30 2) (show n < 80 by omega) h5 h7
  have w1 := sw_1 (n := n) (cs := cs) (N := z 30 0) (B := z 30 2) (show n < 80 by omega)
  have vo : ∀ j, j ≠ n → vrow cs n j = (1, 80 + j, j, 0) := fun j hj => by unfold vrow; rw [if_neg (fun x => hj x.2)]
  have vn : vrow cs n n = (if cs = 5 then (2, 80 + n, n, 0) else if cs = 6 then (6, 80 + n, 3, 0) else (2, n, 80 + n, 0)) := by unfold vrow; rw [if_pos ⟨⟨h5, h7⟩, rfl⟩]
  have g1 : ∀ i, i < c → 1 ≤ (gW n (2 * z 30 0 + z 30 2) (cF z mn) (l i)).1 := fun i hi => by
    have := (cF_row hx.1 ht hi).2.2
    unfold gW
    split
    · exact this
    · exact this
  have ad : ∀ w w' : Nat → Ty, w' (80 + n) = w n → w' n = w (2 * z 30 0 + z 30 2) → (rr4 (vrow cs n n) w' ↔ ∀ q, q ∈ edA z cs n m → rr4 q w) := fun w w' q1 q2 => by
    rw [vn]
    rcases (show cs = 5 ∨ cs = 6 ∨ cs = 7 by omega) with rfl | rfl | rfl
    · have e : edA z 5 n m = [(2, n, 2 * z 30 0 + z 30 2, 0)] := rfl
      rw [if_pos rfl, e]
      constructor
      · intro h q hq
        rw [List.mem_singleton.mp hq]
        show w n = con 4 (w (2 * z 30 0 + z 30 2)) _
        rw [← q1, ← q2]
        exact h
      · intro h
        have h : w n = con 4 (w (2 * z 30 0 + z 30 2)) _ := h _ (List.mem_singleton.mpr rfl)
        show w' (80 + n) = con 4 (w' n) _
        rw [q1, q2]
        exact h
    · have e : edA z 6 n m = [(6, n, 3, 0)] := rfl
      rw [if_neg (by decide), if_pos rfl, e]
      constructor
      · intro h q hq
        rw [List.mem_singleton.mp hq]
        show w n = con 3 (w n) (w n)
        rw [← q1]
        exact h
      · intro h
        have h : w n = con 3 (w n) (w n) := h _ (List.mem_singleton.mpr rfl)
        show w' (80 + n) = con 3 (w' (80 + n)) (w' (80 + n))
        rw [q1]
        exact h
    · have e : edA z 7 n m = [(2, 2 * z 30 0 + z 30 2, n, 0)] := rfl
      rw [if_neg (by decide), if_neg (by decide), e]
      constructor
      · intro h q hq
        rw [List.mem_singleton.mp hq]
        show w (2 * z 30 0 + z 30 2) = con 4 (w n) _
        rw [← q1, ← q2]
        exact h
      · intro h
        have h : w (2 * z 30 0 + z 30 2) = con 4 (w n) _ := h _ (List.mem_singleton.mpr rfl)
        show w' n = con 4 (w' (80 + n)) _
        rw [q1, q2]
        exact h
  refine ⟨fun w hw => ⟨fun j hj => ?_, fun r hr h1 h2 => ?_⟩, fun w hw => ?_⟩
  · replace hj : j < z 30 0 := hj
    by_cases q : j = n
    · rw [q]
      exact (ad w _ (by show w (sg _ _ cs n (80 + n)) = w n; rw [w1]) (by show w (sg _ _ cs n n) = _; rw [wn])).mpr hw.2
    · rw [vo j q]
      show w (sg (z 30 0) (z 30 2) cs n (80 + j)) = w (sg (z 30 0) (z 30 2) cs n j)
      rw [sw_1 (by omega), sw_o (by omega) q]
  · refine (row_map ht hk hr).mp ?_
    have := hw.1 r hr
    rw [eg] at this
    exact (gW_row hx hsq ht h5 h7 hn hr).mp (this (g1 r hr))
  · have ag := vrow_tu (N := z 30 0) (B := z 30 2) (cs := cs) (cn := n) (w := w) n80 (fun _ => hn) hw.1
    refine ⟨⟨fun i hi _ => ?_, ?_⟩, ag⟩
    · rw [eg]
      have q : rr4 (rowT (tz z mn l c) cs n m i) w := hw.2 i hi (by show nI 1 ≠ 0; decide) (fun g => absurd g.1 (by omega))
      exact (gW_row (m := m) hx hsq ht h5 h7 hn hi).mpr ((row_map ht hk hi).mpr ((rr4_agr (row_v ht hk hi) ag).mpr q))
    · refine (ad _ w ?_ ?_).mp (hw.1 n hn)
      · have := ag (80 + n) (Or.inr (Or.inl ⟨by omega, by omega⟩))
        rw [w1] at this
        exact this.symm
      · have := ag n (Or.inl hn)
        rw [wn] at this
        exact this.symm
/-- a change of a text: both ask the same -/
theorem eqC (hx : TXX kd pl nt z) (hsq : SQ l c (RUL z)) (ht : tok (tz z mn l c)) (hc : CHG z cs n m) (hA : cs = 4 → ∀ k, k < z 30 0 → (A k = true ↔ (n < k ∧ k ≤ z 12 n))) : eqv (z 30 0) (z 30 2) (sg (z 30 0) (z 30 2) cs n) (tu (z 30 0) (z 30 2) n) (ECS z mn l c cs n m) (mMS (tz z mn l c) A cs n m (fun _ => nI 1)) := by
  by_cases h : cs ≤ 4
  · exact eqC4 hx hsq ht hc h hA
  · exact eqC5 hx hsq ht hc (by omega)
end CHANGE3
