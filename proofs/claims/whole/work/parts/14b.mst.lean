/-! ===== the reference's parser: its state in memory ===== -/
def oM (z : Zt) (v : Nat) : Int32 := if v < 1000 then nI (z 6 v) else -9
def sM (z : Zt) (s : Nat) : Int32 := if 11 ≤ s ∧ s < 1000 ∧ z 22 (s - 11) = 2 then nI (s - 11) else -9
/-- the draft's row of node n, with what stands above it -/
def mN (pl : Nat → Nat) (ky : Nat → Int64) (I : lm_I) (L : lm_L) (z : Zt) (n : Nat) (av : Int32) : Prop :=
  (I 99 (z 6 n) = nI (z 0 n) ∧ I 100 (z 6 n) = nI (z 7 n) ∧ I 102 (z 6 n) = (if z 0 n = 7 then -9 else oM z (z 1 n)) ∧ I 103 (z 6 n) = oM z (z 2 n) ∧ I 104 (z 6 n) = oM z (z 3 n) ∧ I 105 (z 6 n) = av ∧ I 106 (z 6 n) = sM z (z 10 n) ∧ I 107 (z 6 n) = nI (z 14 n) ∧ I 109 (z 6 n) = nI (z 13 n)) ∧
  (z 0 n = 0 → L 101 (z 6 n) = ky (z 8 n)) ∧ (z 0 n = 4 → L 101 (z 6 n) = (nI (z 4 n - 11)).toInt64) ∧
  (z 0 n = 5 → z 5 (z 1 n) = n ∧ I 108 (z 6 (z 1 n)) = nI (pl (z 9 (z 2 n))) ∧ I 108 (z 6 (z 2 n)) = nI (pl (z 9 (z 3 n)))) ∧
  (z 5 n < 1000 → z 0 (z 5 n) = 7 → I 108 (z 6 n) = nI (pl (z 9 n)))
def SGm (pl : Nat → Nat) (ky : Nat → Int64) (I : lm_I) (L : lm_L) (z : Zt) (lo hi r : Nat) (av : Int32) : Prop := ∀ n, lo ≤ n → n < hi → mN pl ky I L z n (if n = r then av else oM z (z 5 n))
def mST (tp : Nat → Nat) (n : Nat) (I : lm_I) (L : lm_L) (d : Nat) (z : Zt) : Prop :=
  (tpM I tp n ∧ tkm I L (xk tp n (z 30 4)) (xp tp n (z 30 4)) (xy tp n (z 30 4)) (tq tp n (z 30 4 + 1))) ∧
  (I 96 9 = nI (z 30 3) ∧ I 96 21 = nI (z 30 2) ∧ I 96 27 = nI (z 30 5) ∧ I 96 28 = nI (z 30 1) ∧ I 96 46 = nI 0 ∧ I 96 38 = nI d ∧ I 96 31 = nI (d + 1) ∧ I 96 41 = sM z (z 30 6)) ∧
  (∀ b, b < z 30 2 → L 110 b = xy tp n (z 20 b) ∧ I 111 b = nI (xp tp n (z 20 b)) ∧ I 112 b = nI (z 22 b) ∧ I 113 b = nI (z 23 b) ∧ I 114 b = (if z 22 b = 2 then sM z (z 21 b) else -9) ∧ (z 21 b = 1000 ∨ z 21 b < 11 + b))
/-- what a draft's refusal keeps -/
def frD (I I' : lm_I) (L L' : lm_L) : Prop := (∀ o, o ≠ 96 → (o < 99 ∨ 124 < o) → I' o = I o) ∧ (∀ k, (k < 4 ∨ k = 8 ∨ (10 ≤ k ∧ k ≤ 20) ∨ (22 ≤ k ∧ k ≤ 26) ∨ k = 29 ∨ k = 30 ∨ (32 ≤ k ∧ k ≤ 37) ∨ k = 44 ∨ k = 45 ∨ 48 ≤ k) → I' 96 k = I 96 k) ∧ (∀ o, o ≠ 96 → o ≠ 101 → o ≠ 110 → L' o = L o) ∧ (∀ k, k ≠ 8 → L' 96 k = L 96 k)
/-- what a part of the parse keeps: nodes below M, binders below B, open frames below op, operators below oc -/
def frP (M B op oc : Nat) (I I' : lm_I) (L L' : lm_L) : Prop := frD I I' L L' ∧ (I' 115 = I 115 ∧ I' 116 = I 116 ∧ I' 96 28 = I 96 28) ∧ ((∀ o m, 99 ≤ o → o ≤ 109 → m < M → I' o m = I o m) ∧ (∀ o m, 110 ≤ o → o ≤ 114 → m < B → I' o m = I o m) ∧ (∀ o m, 117 ≤ o → o ≤ 122 → m < op → I' o m = I o m) ∧ (∀ o m, 123 ≤ o → o ≤ 124 → m < oc → I' o m = I o m)) ∧ (∀ m, m < M → L' 101 m = L 101 m) ∧ (∀ m, m < B → L' 110 m = L 110 m)
section MST
variable {kd pl : Nat → Nat} {ky : Nat → Int64} {z z' : Zt} {lo hi r i j a b n v s M B op oc M2 B2 op2 oc2 : Nat} {av av' : Int32} {I I' I1 I2 : lm_I} {L L' L1 L2 : lm_L}
theorem oM_lt (h : v < 1000) : oM z v = nI (z 6 v) := if_pos h
theorem oM_no : oM z 1000 = -9 := rfl
theorem oM_eq (h : v < 1000 → z' 6 v = z 6 v) : oM z' v = oM z v := by
  unfold oM
  by_cases s : v < 1000
  · rw [if_pos s, if_pos s, h s]
  · rw [if_neg s, if_neg s]
theorem sM_eq (h : 11 ≤ s → s < 1000 → z' 22 (s - 11) = z 22 (s - 11)) : sM z' s = sM z s := by
  unfold sM
  by_cases q : 11 ≤ s ∧ s < 1000
  · rw [h q.1 q.2]
  · rw [if_neg (fun w => q ⟨w.1, w.2.1⟩), if_neg (fun w => q ⟨w.1, w.2.1⟩)]
theorem frD.rf : frD I I L L := ⟨fun _ _ _ => rfl, fun _ _ => rfl, fun _ _ _ _ => rfl, fun _ _ => rfl⟩
theorem frD.tr (h : frD I I1 L L1) (h2 : frD I1 I2 L1 L2) : frD I I2 L L2 := ⟨fun o p q => (h2.1 o p q).trans (h.1 o p q), fun k q => (h2.2.1 k q).trans (h.2.1 k q), fun o p q w => (h2.2.2.1 o p q w).trans (h.2.2.1 o p q w), fun k q => (h2.2.2.2 k q).trans (h.2.2.2 k q)⟩
theorem frP.rf : frP M B op oc I I L L := ⟨frD.rf, ⟨rfl, rfl, rfl⟩, ⟨fun _ _ _ _ _ => rfl, fun _ _ _ _ _ => rfl, fun _ _ _ _ _ => rfl, fun _ _ _ _ _ => rfl⟩, fun _ _ => rfl, fun _ _ => rfl⟩
theorem frP.tr (h : frP M B op oc I I1 L L1) (h2 : frP M2 B2 op2 oc2 I1 I2 L1 L2) (hM : M ≤ M2) (hB : B ≤ B2) (ho : op ≤ op2) (hc : oc ≤ oc2) : frP M B op oc I I2 L L2 := by
  obtain ⟨a1, ⟨a2, a3, a4⟩, ⟨a5, a6, a7, a8⟩, a9, a10⟩ := h
  obtain ⟨b1, ⟨b2, b3, b4⟩, ⟨b5, b6, b7, b8⟩, b9, b10⟩ := h2
  exact ⟨a1.tr b1, ⟨b2.trans a2, b3.trans a3, b4.trans a4⟩, ⟨fun o m p q w => (b5 o m p q (by omega)).trans (a5 o m p q w), fun o m p q w => (b6 o m p q (by omega)).trans (a6 o m p q w), fun o m p q w => (b7 o m p q (by omega)).trans (a7 o m p q w), fun o m p q w => (b8 o m p q (by omega)).trans (a8 o m p q w)⟩, fun m w => (b9 m (by omega)).trans (a9 m w), fun m w => (b10 m (by omega)).trans (a10 m w)⟩
theorem frP.le (h : frP M2 B2 op2 oc2 I I1 L L1) (hM : M ≤ M2) (hB : B ≤ B2) (ho : op ≤ op2) (hc : oc ≤ oc2) : frP M B op oc I I1 L L1 := frP.tr frP.rf h hM hB ho hc
/-- only numbers of the object change -/
def frK (I I' : lm_I) (L L' : lm_L) : Prop := (∀ o, o ≠ 96 → I' o = I o) ∧ (∀ k, (k < 4 ∨ k = 8 ∨ (10 ≤ k ∧ k ≤ 20) ∨ (22 ≤ k ∧ k ≤ 26) ∨ (28 ≤ k ∧ k ≤ 30) ∨ (32 ≤ k ∧ k ≤ 37) ∨ k = 44 ∨ k = 45 ∨ 48 ≤ k) → I' 96 k = I 96 k) ∧ ∀ o k, ¬ (o = 96 ∧ k = 8) → L' o k = L o k
theorem frK.m (h : frK I I' L L') : frP M B op oc I I' L L' := by
  obtain ⟨h1, h2, h3⟩ := h
  exact ⟨⟨fun o p q => h1 o p, fun k q => h2 k (by omega), fun o p _ _ => funext fun k => h3 o k (fun w => p w.1), fun k q => h3 96 k (fun w => q w.2)⟩, ⟨h1 115 (by decide), h1 116 (by decide), h2 28 (by omega)⟩, ⟨fun o m p q _ => by rw [h1 o (by omega)], fun o m p q _ => by rw [h1 o (by omega)], fun o m p q _ => by rw [h1 o (by omega)], fun o m p q _ => by rw [h1 o (by omega)]⟩, fun m _ => h3 101 m (by omega), fun m _ => h3 110 m (by omega)⟩
theorem frN_k (h : frN I I') (h2 : frNL L L') : frK I I' L L' := ⟨h.1, fun k q => h.2 k (by omega) (by omega) (by omega) (by omega), h2⟩
theorem frK.rf : frK I I L L := ⟨fun _ _ => rfl, fun _ _ => rfl, fun _ _ _ => rfl⟩
theorem frK.tr (h : frK I I1 L L1) (h2 : frK I1 I2 L1 L2) : frK I I2 L L2 := ⟨fun o p => (h2.1 o p).trans (h.1 o p), fun k q => (h2.2.1 k q).trans (h.2.1 k q), fun o k q => (h2.2.2 o k q).trans (h.2.2 o k q)⟩
/-- a closed part, carried on; its root may get a parent -/
theorem SGm_mv (h : SGm pl ky I L z lo hi r av) (sg : SEG kd pl z lo hi r i j a b) (ch : CHD kd z lo hi) (rt : RT z z' lo hi r)
    (hI : ∀ o m, 99 ≤ o → o ≤ 109 → a ≤ m → m < b → (m ≠ z 6 r ∨ (o ≠ 105 ∧ o ≠ 108 ∧ o ≠ 109)) → I' o m = I o m) (hL : ∀ m, a ≤ m → m < b → L' 101 m = L 101 m) (h22 : ∀ k, k < z 30 2 → z' 22 k = z 22 k)
    (h105 : I' 105 (z 6 r) = av') (h109 : I' 109 (z 6 r) = nI (z' 13 r)) (h108 : z' 5 r < 1000 → z' 0 (z' 5 r) = 7 → I' 108 (z 6 r) = nI (pl (z' 9 r))) : SGm pl ky I' L' z' lo hi r av' := by
  obtain ⟨⟨s1, s2, s3⟩, s5, nd, par, -, -⟩ := sg
  intro n n1 n2
  obtain ⟨⟨c1, c2, c3, c4, c5, c6, c7, c8, c9⟩, d1, d2, d3, d4⟩ := h n n1 n2
  obtain ⟨-, ⟨t5, t6, t7⟩, -, -, t8, t9, t10, t11⟩ := nd n n1 n2
  obtain ⟨q1, q2, q3, -⟩ := ch n n1 n2
  have g : ∀ c, c < 16 → c ≠ 5 → c ≠ 9 → c ≠ 11 → c ≠ 13 → z' c n = z c n := fun c c1 c2 c3 c4 c5 => rt c n c1 n1 n2 (Or.inr ⟨c2, c3, c4, c5⟩)
  have g0 := g 0 (by decide) (by decide) (by decide) (by decide) (by decide)
  have g1 := g 1 (by decide) (by decide) (by decide) (by decide) (by decide)
  have g2 := g 2 (by decide) (by decide) (by decide) (by decide) (by decide)
  have g3 := g 3 (by decide) (by decide) (by decide) (by decide) (by decide)
  have g4 := g 4 (by decide) (by decide) (by decide) (by decide) (by decide)
  have g6 := g 6 (by decide) (by decide) (by decide) (by decide) (by decide)
  have g7 := g 7 (by decide) (by decide) (by decide) (by decide) (by decide)
  have g8 := g 8 (by decide) (by decide) (by decide) (by decide) (by decide)
  have g10 := g 10 (by decide) (by decide) (by decide) (by decide) (by decide)
  have g14 := g 14 (by decide) (by decide) (by decide) (by decide) (by decide)
  have e6 : ∀ m, lo ≤ m → m < hi → z' 6 m = z 6 m := fun m m1 m2 => rt 6 m (by decide) m1 m2 (Or.inr ⟨by decide, by decide, by decide, by decide⟩)
  have inj : ∀ m, lo ≤ m → m < hi → m ≠ r → z 6 m ≠ z 6 r := fun m m1 m2 m3 e => by
    have u1 := (nd m m1 m2).2.1.2.2
    have u2 := (nd r s1 s2).2.1.2.2
    rw [e, u2] at u1
    exact m3 u1.symm
  have rng : ∀ m, lo ≤ m → m < hi → a ≤ z 6 m ∧ z 6 m < b := fun m m1 m2 => ⟨(nd m m1 m2).2.1.1, (nd m m1 m2).2.1.2.1⟩
  have esc : sM z' (z 10 n) = sM z (z 10 n) := sM_eq (fun _ _ => h22 _ (by omega))
  have e1 : (if z 0 n = 7 then -9 else oM z' (z 1 n)) = (if z 0 n = 7 then -9 else oM z (z 1 n) : Int32) := by
    by_cases k7 : z 0 n = 7
    · rw [if_pos k7, if_pos k7]
    · rw [if_neg k7, if_neg k7]
      refine oM_eq (fun w => ?_)
      split at q1
      · exact e6 _ q1.1 q1.2
      · have := q1 k7; omega
  have e2 : oM z' (z 2 n) = oM z (z 2 n) := oM_eq (fun w => by
    split at q2
    · exact e6 _ q2.1 q2.2
    · omega)
  have e3 : oM z' (z 3 n) = oM z (z 3 n) := oM_eq (fun w => by
    split at q3
    · exact e6 _ q3.1.1 q3.1.2
    · omega)
  have kI : ∀ o, 99 ≤ o → o ≤ 109 → o ≠ 105 → o ≠ 108 → o ≠ 109 → I' o (z 6 n) = I o (z 6 n) := fun o o1 o2 o3 o4 o5 => hI o _ o1 o2 t5 t6 (Or.inr ⟨o3, o4, o5⟩)
  have A1 : z 0 n = 5 → z' 5 (z 1 n) = n ∧ I' 108 (z' 6 (z 1 n)) = nI (pl (z' 9 (z 2 n))) ∧ I' 108 (z' 6 (z 2 n)) = nI (pl (z' 9 (z 3 n))) := fun k5 => by
    obtain ⟨w1, w2, w3⟩ := d3 k5
    rw [if_pos (by omega)] at q1 q2 q3
    obtain ⟨v1, v2, v3⟩ := q3
    have r1 : z 1 n ≠ r := fun u => by rw [u, s5] at w1; omega
    have r2 : z 2 n ≠ r := fun u => by rw [u, s5] at v2; omega
    have r3 : z 3 n ≠ r := fun u => by rw [u, s5] at v3; omega
    rw [rt 5 (z 1 n) (by decide) q1.1 q1.2 (Or.inl r1), e6 _ q1.1 q1.2, e6 _ q2.1 q2.2, rt 9 (z 2 n) (by decide) q2.1 q2.2 (Or.inl r2), rt 9 (z 3 n) (by decide) v1.1 v1.2 (Or.inl r3)]
    have u1 := rng _ q1.1 q1.2
    have u2 := rng _ q2.1 q2.2
    rw [hI 108 _ (by decide) (by decide) u1.1 u1.2 (Or.inl (inj _ q1.1 q1.2 r1)), hI 108 _ (by decide) (by decide) u2.1 u2.2 (Or.inl (inj _ q2.1 q2.2 r2))]
    exact ⟨w1, w2, w3⟩
  unfold mN
  rw [g0, g1, g2, g3, g4, g6, g7, g8, g10, g14, esc, e1, e2, e3, kI 99 (by decide) (by decide) (by decide) (by decide) (by decide), kI 100 (by decide) (by decide) (by decide) (by decide) (by decide), kI 102 (by decide) (by decide) (by decide) (by decide) (by decide), kI 103 (by decide) (by decide) (by decide) (by decide) (by decide), kI 104 (by decide) (by decide) (by decide) (by decide) (by decide), kI 106 (by decide) (by decide) (by decide) (by decide) (by decide), kI 107 (by decide) (by decide) (by decide) (by decide) (by decide), hL _ t5 t6]
  by_cases nr : n = r
  · rw [if_pos nr]
    subst nr
    exact ⟨⟨c1, c2, c3, c4, c5, h105, c7, c8, h109⟩, d1, d2, A1, h108⟩
  · rw [if_neg nr]
    rw [if_neg nr] at c6
    have p := par n n1 n2 nr
    have z5 := rt 5 n (by decide) n1 n2 (Or.inl nr)
    have z9 := rt 9 n (by decide) n1 n2 (Or.inl nr)
    have z13 := rt 13 n (by decide) n1 n2 (Or.inl nr)
    have i1 := inj n n1 n2 nr
    rw [z5, z9, z13, hI 105 _ (by decide) (by decide) t5 t6 (Or.inl i1), hI 108 _ (by decide) (by decide) t5 t6 (Or.inl i1), hI 109 _ (by decide) (by decide) t5 t6 (Or.inl i1), rt 0 (z 5 n) (by decide) p.1 p.2.1 (Or.inr ⟨by decide, by decide, by decide, by decide⟩), oM_eq (fun _ => e6 _ p.1 p.2.1)]
    exact ⟨⟨c1, c2, c3, c4, c5, c6, c7, c8, c9⟩, d1, d2, A1, d4⟩
end MST
