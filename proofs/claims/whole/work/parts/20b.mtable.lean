/-- the reference holds the table -/
def mTB (I : lm_I) (t : Nat → Nat → Nat) (lv : Nat → Nat) : Prop := nodM I (tN t) (tB t) (t 0) (t 1) (t 2) (t 3) (t 4) ∧ decM I (tN t) (tD t) (tB t) (t 11) (t 12) (t 13) (t 14) (t 15) ∧ ruleM I (tN t) (tD t) (tK t) (t 0) (t 17) (t 18) (t 19) ∧ parM I (tN t) (t 5) lv
section MTABLE
variable {kd pl : Nat → Nat} {nt c : Nat} {z : Zt} {ky bi : Nat → Int64} {l : Nat → Rr} {I : lm_I} {L : lm_L}
theorem bnd_iff (hT : TX kd pl nt z) {d b : Nat} (hd : d < z 30 1) (hb : b < z 30 2) : (z 22 b = 1 ∧ z 23 b = d) ↔ (z 16 d < b ∧ b ≤ z 16 d + z 17 d) := by
  have B := hT.2.2.2.2 b hb
  have D := fun d hd => (hT.2.2.1 d hd).2.2
  constructor
  · rintro ⟨h1, h2⟩
    obtain ⟨a1, a2, a3⟩ := B
    rw [h2] at a1 a2 a3
    rcases a3 with q | q
    · refine ⟨?_, q⟩
      have := (D d hd (b - z 16 d) (by omega)).2.2.2.1
      rw [show z 16 d + (b - z 16 d) = b by omega] at this
      by_cases s : b = z 16 d
      · rw [if_pos (by omega)] at this; omega
      · omega
    · omega
  · rintro ⟨h1, h2⟩
    have := (D d hd (b - z 16 d) (by omega)).2.2.2
    rw [show z 16 d + (b - z 16 d) = b by omega, if_neg (by omega)] at this
    exact this
theorem b22_le (hT : TX kd pl nt z) {b : Nat} (hb : b < z 30 2) : z 22 b ≤ 2 := by
  obtain ⟨a1, a2, a3⟩ := hT.2.2.2.2 b hb
  rcases a3 with q | q
  · have := ((hT.2.2.1 _ a1).2.2 (b - z 16 (z 23 b)) (by omega)).2.2.2.1
    rw [show z 16 (z 23 b) + (b - z 16 (z 23 b)) = b by omega] at this
    split at this <;> omega
  · omega
theorem oN_1000 : oN 1000 = -9 := rfl
theorem mSE_tb (hx : TXX kd pl nt z) (hsq : SQ l c (RUL z)) (hse : mSE pl ky (mgm ky bi z) I L z l c) (hno : ∀ n, n < z 30 0 → mgz ky bi z n = mgm ky bi z n ∧ (z 0 n = 0 → mgz ky bi z n ≠ 1000)) : mTB I (tz z (mnz ky bi z) l c) (lvz z) := by
  have hB := mnz_B hx.1 hx.2.2.2.1 (fun n hn h0 => (hno n hn).2 h0)
  have ht := tz_tok hx hsq hB
  obtain ⟨hT, hc, hD, ho, hb, hc2⟩ := id hx
  obtain ⟨tn1, tn2, tn3, tn4, tn5, tn6, tn7, tn8⟩ := ht
  obtain ⟨sn, ⟨s48, s49, s50, s51⟩, sb, sd, sr⟩ := hse
  have n80 : z 30 0 ≤ 80 := by have := hT.1.1.2.1; have := hT.1.2; omega
  have B22 : z 30 2 ≤ 22 := tn2
  refine ⟨⟨s49, tn1, fun n hn => ?_⟩, ⟨s50, tn2, tn3, tn4, fun d hd => ⟨(sd d hd).1, (sd d hd).2, tn7 d hd⟩, fun b hb' => ⟨(sb b hb').2.1, (sb b hb').2.2.1, b22_le hT hb', ?_⟩, fun d hd b hb' => bnd_iff hT hd hb'⟩, ⟨sr.1, by have : c ≤ 160 := tn5; show c ≤ 168; omega, fun r hr => ?_⟩, fun k hk => ?_⟩
  · replace hn : n < z 30 0 := hn
    obtain ⟨⟨i0, i7, i1, i2, i3⟩, i5, im, -⟩ := sn n hn
    obtain ⟨q1, q2, q3, -⟩ := hT.2.1.2.2.1 n (Nat.zero_le _) hn
    obtain ⟨k1, k2⟩ := tn6 n hn
    refine ⟨i0, k1, ?_, ?_, ?_, ?_, k2⟩
    · show I 127 n = oI (3 ≤ z 0 n ∧ z 0 n ≠ 7) (z 1 n)
      rw [i1]
      unfold oI
      by_cases h7 : z 0 n = 7
      · rw [if_pos h7, if_neg (by omega)]
      · rw [if_neg h7]
        by_cases h3 : 3 ≤ z 0 n ∧ z 0 n ≠ 7
        · rw [if_pos h3] at q1 ⊢
          exact if_pos (by omega)
        · rw [if_neg h3] at q1 ⊢
          rw [q1 h7, oN_1000]
    · show I 128 n = oI (3 ≤ z 0 n ∧ z 0 n ≠ 7 ∧ z 0 n ≠ 4) (z 2 n)
      rw [i2]
      unfold oI
      by_cases h3 : 3 ≤ z 0 n ∧ z 0 n ≠ 7 ∧ z 0 n ≠ 4
      · rw [if_pos h3] at q2 ⊢
        exact if_pos (by omega)
      · rw [if_neg h3] at q2 ⊢
        rw [q2, oN_1000]
    · show I 129 n = oI (z 0 n = 5) (z 3 n)
      rw [i3]
      unfold oI
      by_cases h3 : z 0 n = 5
      · rw [if_pos h3] at q3 ⊢
        exact if_pos (by omega)
      · rw [if_neg h3] at q3 ⊢
        rw [q3, oN_1000]
    · show I 131 n = oI (z 0 n = 0 ∨ z 0 n = 4) (if z 0 n = 4 then z 4 n - 11 else mnz ky bi z n)
      rw [im]
      unfold oI
      by_cases h0 : z 0 n = 0
      · rw [if_pos h0, if_pos (Or.inl h0), if_neg (by omega)]
        have := hB n hn h0
        unfold mnz at this ⊢
        rw [if_pos h0] at this ⊢
        rw [(hno n hn).1] at this ⊢
        exact if_pos (by omega)
      · rw [if_neg h0]
        by_cases h4 : z 0 n = 4
        · rw [if_pos h4, if_pos (Or.inr h4), if_pos h4]
        · rw [if_neg h4, if_neg (by omega)]
  · have := (hT.2.2.2.2 b hb').1
    have := hT.1.1.2.2.2
    show z 23 b ≤ 6
    omega
  · obtain ⟨r1, r2, r3, -⟩ := sr.2 r hr
    obtain ⟨e1, e2⟩ := tn8 r hr
    refine ⟨r1, r2, e1, fun q => ⟨?_, e2 q⟩⟩
    replace q : (l r).2.1 = 11 := q
    rw [r3, if_pos q]
    rfl
  · replace hk : k < z 30 0 := hk
    have i5 := (sn k hk).2.1
    show I 130 k = oI (z 5 k < z 30 0) (z 5 k) ∧ (z 5 k < z 30 0 → lvz z (z 5 k) < lvz z k)
    rw [i5]
    rcases hT.2.1.2.1 k hk with q | q
    · rw [q.2]
      exact ⟨by unfold oI; rw [if_neg (by omega)]; rfl, fun h => by omega⟩
    · exact ⟨by unfold oI; rw [if_pos q.2.1]; exact if_pos (by omega), fun _ => q.2.2.2⟩
end MTABLE
