/-! ===== rules: which ones a text has ===== -/
abbrev Rr : Type := Nat × Nat × Nat × Nat
def own (z : Zt) (n : Nat) : List Rr :=
  if z 0 n = 0 then [(4 * z 8 n + 1, 2, n, 1000)] else if z 0 n = 1 then [(4 * z 8 n + 1, 3, n, 1000)] else if z 0 n = 2 then [(4 * z 8 n + 1, 4, n, 1000)] else if z 0 n = 3 then [(4 * z 8 n, 0, n, 1000)] else if z 0 n = 4 then [(4 * z 8 n + 1, 5, n, 1000)]
  else if z 0 n = 5 then [(4 * z 8 n + 1, 6, n, 1000), (4 * z 9 (z 2 n) + 1, 7, n, 1000), (4 * z 9 (z 3 n) + 1, 8, n, 1000)] else if z 0 n = 6 then [(4 * z 8 n + 1, 9, n, 1000)] else if z 0 n = 7 then [(4 * z 8 n + 1, 10, n, 1000)]
  else if z 0 n = 8 then [(4 * z 8 n + 1, 12, n, 1000), (4 * z 8 n + 2, 13, n, 1000), (4 * z 8 n + 3, 14, n, 1000)] else if z 0 n = 9 then [(4 * z 8 n + 1, 15, n, 1000), (4 * z 8 n + 2, 14, n, 1000)] else if z 0 n = 10 then [(4 * z 8 n + 1, 16, n, 1000), (4 * z 8 n + 2, 17, n, 1000), (4 * z 8 n + 3, 14, n, 1000)]
  else if z 0 n = 11 then [(4 * z 8 n + 1, 19, n, 1000), (4 * z 8 n + 2, 20, n, 1000)] else if z 0 n = 12 then [(4 * z 8 n + 1, 16, n, 1000), (4 * z 8 n + 2, 17, n, 1000), (4 * z 8 n + 3, 18, n, 1000)] else [(4 * z 8 n + 1, 21, n, 1000), (4 * z 8 n + 2, 22, n, 1000), (4 * z 8 n + 3, 23, n, 1000)]
def dclR (z : Zt) (d : Nat) : Rr := (4 * z 20 (z 16 d) + 1, 1, d, 1000)
def prtR (z : Zt) (e : Nat) : Rr := (4 * z 9 e + 2, 11, z 5 e, e)
def RUL (z : Zt) (x : Rr) : Prop := (∃ d, d < z 30 1 ∧ x = dclR z d) ∨ (∃ n, n < z 30 0 ∧ x ∈ own z n) ∨ (∃ e, e < z 30 0 ∧ z 5 e < 1000 ∧ z 0 (z 5 e) = 7 ∧ x = prtR z e)
def soR (k o : Nat) : Nat := if k = 0 then 2 else if k = 1 then 3 else if k = 2 then 4 else if k = 4 then 5 else if k = 5 then 6 else if k = 6 then 9 else if k = 7 then 10 else if k = 8 then 11 + o else if k = 9 then 16 - o else if k = 10 then (if o = 3 then 14 else 15 + o) else if k = 11 then 18 + o else if k = 12 then 15 + o else 20 + o
/-- the rule at a token -/
def rof (kd : Nat → Nat) (z : Zt) (t o : Nat) : Rr := if o = 0 then (4 * t, 0, z 33 t, 1000) else if kd t = 20 then (4 * t + 1, 7, z 5 (z 34 t), 1000) else if kd t = 21 then (4 * t + 1, 8, z 5 (z 34 t), 1000) else if o = 2 ∧ (kd t = 7 ∨ kd t = 19) then (4 * t + 2, 11, z 5 (z 34 t), z 34 t) else if 2000 ≤ z 32 t then (4 * t + 1, 1, z 32 t - 2000, 1000) else (4 * t + o, soR (kd t) o, z 32 t, 1000)
section RULES
variable {kd pl : Nat → Nat} {nt : Nat} {z : Zt} {x y : Rr}
theorem rof_own {t o n : Nat} (h32 : z 32 t = n) (hn : n < 1000) (h0 : o ≠ 0) (hk : kd t ≠ 20 ∧ kd t ≠ 21) (h2 : ¬ (o = 2 ∧ (kd t = 7 ∨ kd t = 19))) : rof kd z t o = (4 * t + o, soR (kd t) o, n, 1000) := by
  unfold rof
  rw [if_neg h0, if_neg hk.1, if_neg hk.2, if_neg h2, if_neg (by omega), h32]
theorem RUL_rof (hT : TX kd pl nt z) (h : RUL z x) : x = rof kd z (x.1 / 4) (x.1 % 4) ∧ x.1 / 4 < z 30 4 := by
  obtain ⟨⟨hw, h03⟩, ⟨t1, t2, t3, t4, t5, t6, t7⟩, t8, t9, t10⟩ := hT
  have h80 : z 30 0 ≤ 80 := by have := hw.2.1; omega
  rcases h with ⟨d, hd, rfl⟩ | ⟨n, hn, hx⟩ | ⟨e, he, h5, h7, rfl⟩
  · obtain ⟨-, ⟨d3, d4, d5⟩, d6⟩ := t8 d hd
    have k0 := (d6 0 (by omega)).1
    rw [Nat.add_zero] at k0
    unfold dclR
    simp only
    rw [show (4 * z 20 (z 16 d) + 1) / 4 = z 20 (z 16 d) by omega, show (4 * z 20 (z 16 d) + 1) % 4 = 1 by omega]
    refine ⟨?_, by omega⟩
    unfold rof
    rw [if_neg (by decide), if_neg (by omega), if_neg (by omega), if_neg (by omega), if_pos (by omega), d4, Nat.add_sub_cancel_left]
  · obtain ⟨⟨a1, a2, a3⟩, -, a6, -, -⟩ := t1 n hn
    obtain ⟨q1, q2, q3, q4⟩ := t3 n (by omega) hn
    have ow : ∀ o s, 1 ≤ o → o ≤ 3 → z 0 n ≠ 3 → (o = 2 → z 0 n ≠ 7) → soR (z 0 n) o = s → ((4 * z 8 n + o, s, n, 1000) : Rr) = rof kd z ((4 * z 8 n + o) / 4) ((4 * z 8 n + o) % 4) ∧ (4 * z 8 n + o) / 4 < z 30 4 := fun o s o1 o3 k3 k7 hs => by
      rw [if_neg k3] at a6
      rw [show (4 * z 8 n + o) / 4 = z 8 n by omega, show (4 * z 8 n + o) % 4 = o by omega, rof_own a6.1 (by omega) (by omega) (by omega) (by omega), a6.2, hs]
      exact ⟨rfl, a3⟩
    unfold own at hx
    by_cases k0 : z 0 n = 0
    · rw [if_pos k0] at hx
      rcases List.mem_singleton.mp hx with rfl
      exact ow 1 2 (by omega) (by omega) (by omega) (by omega) (by rw [k0]; rfl)
    rw [if_neg k0] at hx
    by_cases k1 : z 0 n = 1
    · rw [if_pos k1] at hx
      rcases List.mem_singleton.mp hx with rfl
      exact ow 1 3 (by omega) (by omega) (by omega) (by omega) (by rw [k1]; rfl)
    rw [if_neg k1] at hx
    by_cases k2 : z 0 n = 2
    · rw [if_pos k2] at hx
      rcases List.mem_singleton.mp hx with rfl
      exact ow 1 4 (by omega) (by omega) (by omega) (by omega) (by rw [k2]; rfl)
    rw [if_neg k2] at hx
    by_cases k3 : z 0 n = 3
    · rw [if_pos k3] at hx
      rcases List.mem_singleton.mp hx with rfl
      rw [if_pos k3] at a6
      simp only
      rw [show (4 * z 8 n) / 4 = z 8 n by omega, show (4 * z 8 n) % 4 = 0 by omega]
      unfold rof
      rw [if_pos rfl, a6.1]
      exact ⟨rfl, a3⟩
    rw [if_neg k3] at hx
    by_cases k4 : z 0 n = 4
    · rw [if_pos k4] at hx
      rcases List.mem_singleton.mp hx with rfl
      exact ow 1 5 (by omega) (by omega) (by omega) (by omega) (by rw [k4]; rfl)
    rw [if_neg k4] at hx
    by_cases k5 : z 0 n = 5
    · rw [if_pos k5] at hx
      rw [if_pos (by omega)] at q2
      rw [if_pos k5] at q3
      obtain ⟨u1, ⟨u2, u3, u4⟩, u5, u6, u7⟩ := q3
      rcases List.mem_cons.mp hx with rfl | hx
      · exact ow 1 6 (by omega) (by omega) (by omega) (by omega) (by rw [k5]; rfl)
      rcases List.mem_cons.mp hx with rfl | hx
      · obtain ⟨b1, b2⟩ := (t1 (z 2 n) q2.2).2.2.2.1 u3
        simp only
        rw [show (4 * z 9 (z 2 n) + 1) / 4 = z 9 (z 2 n) by omega, show (4 * z 9 (z 2 n) + 1) % 4 = 1 by omega]
        unfold rof
        rw [if_neg (by decide), if_pos u4, b2, u2]
        exact ⟨rfl, b1⟩
      · rcases List.mem_singleton.mp hx with rfl
        obtain ⟨b1, b2⟩ := (t1 (z 3 n) u1.2).2.2.2.1 u6
        simp only
        rw [show (4 * z 9 (z 3 n) + 1) / 4 = z 9 (z 3 n) by omega, show (4 * z 9 (z 3 n) + 1) % 4 = 1 by omega]
        unfold rof
        rw [if_neg (by decide), if_neg (by omega), if_pos u7, b2, u5]
        exact ⟨rfl, b1⟩
    rw [if_neg k5] at hx
    by_cases k6 : z 0 n = 6
    · rw [if_pos k6] at hx
      rcases List.mem_singleton.mp hx with rfl
      exact ow 1 9 (by omega) (by omega) (by omega) (by omega) (by rw [k6]; rfl)
    rw [if_neg k6] at hx
    by_cases k7 : z 0 n = 7
    · rw [if_pos k7] at hx
      rcases List.mem_singleton.mp hx with rfl
      exact ow 1 10 (by omega) (by omega) (by omega) (by omega) (by rw [k7]; rfl)
    rw [if_neg k7] at hx
    by_cases k8 : z 0 n = 8
    · rw [if_pos k8] at hx
      rcases List.mem_cons.mp hx with rfl | hx
      · exact ow 1 12 (by omega) (by omega) (by omega) (by omega) (by rw [k8]; rfl)
      rcases List.mem_cons.mp hx with rfl | hx
      · exact ow 2 13 (by omega) (by omega) (by omega) (by omega) (by rw [k8]; rfl)
      · rcases List.mem_singleton.mp hx with rfl
        exact ow 3 14 (by omega) (by omega) (by omega) (by omega) (by rw [k8]; rfl)
    rw [if_neg k8] at hx
    by_cases k9 : z 0 n = 9
    · rw [if_pos k9] at hx
      rcases List.mem_cons.mp hx with rfl | hx
      · exact ow 1 15 (by omega) (by omega) (by omega) (by omega) (by rw [k9]; rfl)
      · rcases List.mem_singleton.mp hx with rfl
        exact ow 2 14 (by omega) (by omega) (by omega) (by omega) (by rw [k9]; rfl)
    rw [if_neg k9] at hx
    by_cases k10 : z 0 n = 10
    · rw [if_pos k10] at hx
      rcases List.mem_cons.mp hx with rfl | hx
      · exact ow 1 16 (by omega) (by omega) (by omega) (by omega) (by rw [k10]; rfl)
      rcases List.mem_cons.mp hx with rfl | hx
      · exact ow 2 17 (by omega) (by omega) (by omega) (by omega) (by rw [k10]; rfl)
      · rcases List.mem_singleton.mp hx with rfl
        exact ow 3 14 (by omega) (by omega) (by omega) (by omega) (by rw [k10]; rfl)
    rw [if_neg k10] at hx
    by_cases k11 : z 0 n = 11
    · rw [if_pos k11] at hx
      rcases List.mem_cons.mp hx with rfl | hx
      · exact ow 1 19 (by omega) (by omega) (by omega) (by omega) (by rw [k11]; rfl)
      · rcases List.mem_singleton.mp hx with rfl
        exact ow 2 20 (by omega) (by omega) (by omega) (by omega) (by rw [k11]; rfl)
    rw [if_neg k11] at hx
    by_cases k12 : z 0 n = 12
    · rw [if_pos k12] at hx
      rcases List.mem_cons.mp hx with rfl | hx
      · exact ow 1 16 (by omega) (by omega) (by omega) (by omega) (by rw [k12]; rfl)
      rcases List.mem_cons.mp hx with rfl | hx
      · exact ow 2 17 (by omega) (by omega) (by omega) (by omega) (by rw [k12]; rfl)
      · rcases List.mem_singleton.mp hx with rfl
        exact ow 3 18 (by omega) (by omega) (by omega) (by omega) (by rw [k12]; rfl)
    rw [if_neg k12] at hx
    have k13 : z 0 n = 13 := by omega
    rcases List.mem_cons.mp hx with rfl | hx
    · exact ow 1 21 (by omega) (by omega) (by omega) (by omega) (by rw [k13]; rfl)
    rcases List.mem_cons.mp hx with rfl | hx
    · exact ow 2 22 (by omega) (by omega) (by omega) (by omega) (by rw [k13]; rfl)
    · rcases List.mem_singleton.mp hx with rfl
      exact ow 3 23 (by omega) (by omega) (by omega) (by omega) (by rw [k13]; rfl)
  · have p5 : z 5 e < z 30 0 := by
      rcases t2 e he with ⟨_, b⟩ | ⟨_, b, _⟩
      · omega
      · exact b
    obtain ⟨es, e1, e2, e3, e4⟩ := t6 (z 5 e) p5 h7
    have em := (e4 e (by omega) he).mp rfl
    obtain ⟨-, -, f1, f2⟩ := e3 e em
    obtain ⟨b1, b2⟩ := (t1 e he).2.2.2.1 f1
    unfold prtR
    simp only
    rw [show (4 * z 9 e + 2) / 4 = z 9 e by omega, show (4 * z 9 e + 2) % 4 = 2 by omega]
    unfold rof
    rw [if_neg (by decide), if_neg (by omega), if_neg (by omega), if_pos ⟨rfl, f2⟩, b2]
    exact ⟨rfl, b1⟩
theorem RUL_inj (hT : TX kd pl nt z) (hx : RUL z x) (hy : RUL z y) (h : x.1 = y.1) : x = y := by
  rw [(RUL_rof hT hx).1, (RUL_rof hT hy).1, h]
end RULES
/-! ===== a sequence of rules by their keys ===== -/
def SQ (l : Nat → Rr) (c : Nat) (M : Rr → Prop) : Prop := (∀ i j, i < j → j < c → (l i).1 < (l j).1) ∧ (∀ x, M x ↔ ∃ i, i < c ∧ l i = x)
def insR (l : Nat → Rr) (p : Nat) (x : Rr) : Nat → Rr := fun j => if j < p then l j else if j = p then x else l (j - 1)
section SEQ
variable {l l' : Nat → Rr} {c c' p : Nat} {M M' : Rr → Prop} {x : Rr}
theorem SQ_0 (h : ∀ x, ¬ M x) : SQ l 0 M := ⟨fun i j _ h => by omega, fun x => ⟨fun q => absurd q (h x), fun ⟨i, q, _⟩ => by omega⟩⟩
theorem SQ_eq (h : SQ l c M) (he : ∀ x, M x ↔ M' x) : SQ l c M' := ⟨h.1, fun x => (he x).symm.trans (h.2 x)⟩
theorem SQ_ins (h : SQ l c M) (hp : p ≤ c) (h1 : ∀ i, i < p → (l i).1 < x.1) (h2 : ∀ i, p ≤ i → i < c → x.1 < (l i).1) : SQ (insR l p x) (c + 1) (fun y => M y ∨ y = x) := by
  have lo : ∀ j, j < p → insR l p x j = l j := fun j hj => if_pos hj
  have at' : insR l p x p = x := by unfold insR; rw [if_neg (by omega), if_pos rfl]
  have hi : ∀ j, p < j → insR l p x j = l (j - 1) := fun j hj => by unfold insR; rw [if_neg (by omega), if_neg (by omega)]
  refine ⟨fun i j hij hj => ?_, fun y => ⟨fun q => ?_, fun ⟨i, q1, q2⟩ => ?_⟩⟩
  · rcases Nat.lt_trichotomy i p with s | s | s <;> rcases Nat.lt_trichotomy j p with s2 | s2 | s2
    · rw [lo i s, lo j s2]; exact h.1 i j hij (by omega)
    · rw [lo i s, s2, at']; exact h1 i s
    · rw [lo i s, hi j s2]
      by_cases e : i = j - 1
      · omega
      · exact h.1 i (j - 1) (by omega) (by omega)
    · omega
    · omega
    · rw [s, at', hi j s2]; exact h2 (j - 1) (by omega) (by omega)
    · omega
    · omega
    · rw [hi i s, hi j s2]; exact h.1 (i - 1) (j - 1) (by omega) (by omega)
  · rcases q with q | q
    · obtain ⟨i, i1, i2⟩ := (h.2 y).mp q
      by_cases s : i < p
      · exact ⟨i, by omega, by rw [lo i s]; exact i2⟩
      · exact ⟨i + 1, by omega, by rw [hi (i + 1) (by omega), Nat.add_sub_cancel]; exact i2⟩
    · exact ⟨p, by omega, by rw [at', q]⟩
  · rcases Nat.lt_trichotomy i p with s | s | s
    · rw [lo i s] at q2; exact Or.inl ((h.2 y).mpr ⟨i, by omega, q2⟩)
    · rw [s, at'] at q2; exact Or.inr q2.symm
    · rw [hi i s] at q2; exact Or.inl ((h.2 y).mpr ⟨i - 1, by omega, q2⟩)
/-- a set has one such sequence -/
theorem SQ_un (h : SQ l c M) (h' : SQ l' c' M) : c = c' ∧ ∀ i, i < c → l i = l' i := by
  have key : ∀ i, i < c → i < c' → l i = l' i := by
    intro i
    induction i using Nat.strongRecOn with
    | ind i ih =>
      intro hi hi'
      obtain ⟨j, j1, j2⟩ := (h'.2 (l i)).mp ((h.2 _).mpr ⟨i, hi, rfl⟩)
      obtain ⟨k, k1, k2⟩ := (h.2 (l' i)).mp ((h'.2 _).mpr ⟨i, hi', rfl⟩)
      have ji : i ≤ j := by
        rcases Nat.lt_or_ge j i with s | s
        · have e := ih j s (by omega) (by omega)
          have := h.1 j i s hi
          rw [e, j2] at this
          omega
        · exact s
      have ki : i ≤ k := by
        rcases Nat.lt_or_ge k i with s | s
        · have e := ih k s (by omega) (by omega)
          have := h'.1 k i s hi'
          rw [← e, k2] at this
          omega
        · exact s
      by_cases e : j = i
      · rw [e] at j2; exact j2.symm
      · have a := h'.1 i j (by omega) j1
        rw [j2] at a
        by_cases e2 : k = i
        · rw [e2] at k2; exact k2
        · have b := h.1 i k (by omega) k1
          rw [k2] at b
          omega
  have ec : c = c' := by
    rcases Nat.lt_trichotomy c c' with s | s | s
    · obtain ⟨j, j1, j2⟩ := (h.2 (l' c)).mp ((h'.2 _).mpr ⟨c, s, rfl⟩)
      have e := key j j1 (by omega)
      have := h'.1 j c (by omega) s
      rw [← e, j2] at this
      omega
    · exact s
    · obtain ⟨j, j1, j2⟩ := (h'.2 (l c')).mp ((h.2 _).mpr ⟨c', s, rfl⟩)
      have e := key j (by omega) j1
      have := h.1 j c' (by omega) s
      rw [e, j2] at this
      omega
  exact ⟨ec, fun i hi => key i hi (by omega)⟩
end SEQ
