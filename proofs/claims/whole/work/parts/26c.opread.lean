section OPREAD
variable {kd pl : Nat → Nat} {nt e p p' c n : Nat} {S : lm_S} {I I1 I2 : lm_I} {L L1 L2 : lm_L} {R R1 : lm_R} {z : Zt} {ky bi : Nat → Int64} {mn tp : Nat → Nat} {l : Nat → Rr} {f : N3 → Bool} {σ : HS}
theorem rmn_1000 {P : Nat → Bool} {pl : Nat → Nat} : ∀ (m i v : Nat), (∀ k, i ≤ k → k < i + m → pl k ≤ 240) → rmn P pl i m v = 1000 → v = 1000 ∧ ∀ k, i ≤ k → k < i + m → P k = false := by
  intro m
  induction m with
  | zero => intro i v _ h; exact ⟨h, fun k h1 h2 => absurd h2 (by omega)⟩
  | succ m ih =>
    intro i v hp h
    have h : rmn P pl (i + 1) m (if P i = true ∧ (v = 1000 ∨ pl i < v) then pl i else v) = 1000 := h
    obtain ⟨a, b⟩ := ih (i + 1) _ (fun k h1 h2 => hp k (by omega) (by omega)) h
    have p0 := hp i (Nat.le_refl _) (by omega)
    by_cases q : P i = true ∧ (v = 1000 ∨ pl i < v)
    · rw [if_pos q] at a
      omega
    · rw [if_neg q] at a
      refine ⟨a, fun k h1 h2 => ?_⟩
      by_cases y : k = i
      · rw [y]
        cases hP : P i with
        | false => rfl
        | true => exact absurd ⟨hP, Or.inl a⟩ q
      · exact b k (by omega) (by omega)
def frFq (p' : Nat) (I I2 : lm_I) (L L2 : lm_L) : Prop := (∀ o, o ≠ 0 → ¬ (p' ≤ o ∧ o ≤ p' + 33) → o ≠ 96 → (o < 99 ∨ 124 < o) → I2 o = I o) ∧ (∀ k, k ≠ 1 → I2 0 k = I 0 k) ∧ I2 0 1 = nI 0 ∧ (∀ k, (k = 0 ∨ k = 2 ∨ k = 3 ∨ 48 ≤ k) → I2 96 k = I 96 k) ∧ I2 96 1 = nI 0 ∧ (∀ o, ¬ (p' ≤ o ∧ o ≤ p' + 33) → o ≠ 96 → o ≠ 101 → o ≠ 110 → L2 o = L o) ∧ ∀ k, k < 11 → L2 (p' + 21) k = L (p' + 21) k
theorem frFq_of (hp' : p' = 2 ∨ p' = 36) (a : frRd p' I I1 L L1) (b : frRf I I1) (d : frR0 I1 I2 L1 L2) (h1 : I2 96 1 = nI 0) : frFq p' I I2 L L2 := by
  refine ⟨fun o o1 o2 o3 o4 => ?_, fun k hk => ?_, ?_, fun k hk => ?_, h1, fun o o1 o2 o3 o4 => ?_, fun k hk => ?_⟩
  · rw [d.1 o o3 o4]
    by_cases q : o = 77
    · rw [q]; exact b.2.1
    · by_cases q2 : o = 78
      · rw [q2]; exact b.2.2.1
      · by_cases q3 : o = 80
        · rw [q3]; exact b.2.2.2
        · exact a.1 o o1 (by omega) q q2 q3
  · rw [d.1 0 (by decide) (by omega)]
    by_cases q : k = 4
    · rw [q]; exact b.1
    · exact a.2.1 k hk q
  · rw [d.1 0 (by decide) (by omega)]; exact a.2.2.1
  · rw [d.2.1 k hk, a.1 96 (by decide) (by omega) (by decide) (by decide) (by decide)]
  · rw [d.2.2.1 o o2 o3 o4, a.2.2.2.1 o (by omega)]
  · rw [d.2.2.1 (p' + 21) (by omega) (by omega) (by omega), a.2.2.2.2 k hk]
theorem BAS_F (hB : BAS p p' bi tp n S I L R) (g : frFq p' I I2 L L2) : BAS p p' bi tp 0 S I2 L2 R := by
  obtain ⟨a, b, ⟨⟨k1, k2⟩, c2⟩, ⟨t1, t2, t3⟩, d, ⟨o, o1, ⟨o2, o3⟩, o4, o5⟩, h84, h85⟩ := hB
  have hpp := b.2.1
  refine ⟨a, b, ⟨⟨k1, fun j hj => by rw [g.1 (lm_B + 10) (by show 1000000 + 10 ≠ 0; omega) (by show ¬ (p' ≤ 1000000 + 10 ∧ 1000000 + 10 ≤ p' + 33); omega) (by show 1000000 + 10 ≠ 96; omega) (Or.inr (by show 124 < 1000000 + 10; omega))]; exact k2 j hj⟩, fun r hr => by rw [g.1 88 (by decide) (by omega) (by decide) (by omega)]; exact c2 r hr⟩, ⟨⟨Nat.zero_le _, fun j hj => absurd hj (Nat.not_lt_zero _)⟩, ⟨Nat.zero_le _, g.2.2.2.2.1, fun j hj => absurd hj (Nat.not_lt_zero _)⟩, g.2.2.1⟩, fun k hk => ?_, ⟨o, o1, ⟨by rw [g.1 90 (by decide) (by omega) (by decide) (by omega)]; exact o2, fun j hj => by rw [g.1 91 (by decide) (by omega) (by decide) (by omega)]; exact o3 j hj⟩, by rw [g.2.2.2.1 3 (by omega)]; exact o4, fun j hj => by rw [g.1 98 (by decide) (by omega) (by decide) (by omega)]; exact o5 j hj⟩, by rw [g.2.2.2.1 84 (by omega)]; exact h84, by rw [g.2.2.2.1 85 (by omega)]; exact h85⟩
  obtain ⟨x1, x2, x3⟩ := d k hk
  exact ⟨by rw [g.2.2.2.2.2.1 (p + 21) (by omega) (by omega) (by omega) (by omega)]; exact x1, by rw [g.2.2.2.2.2.2 k hk]; exact x2, by rw [g.2.2.2.2.2.1 140 (by omega) (by decide) (by decide) (by decide)]; exact x3⟩
/-- a read that fails changes no text -/
theorem INV_F (hB : BAS p p' bi tp n S I L R) (hY : NTX I p ∨ ∃ kd pl nt ky z mn l c f σ, YTX kd pl nt ky bi p z mn l c f σ S I L R) (g : frFq p' I I2 L L2) : INV (S, I2, L2, R) := by
  have hB2 := BAS_F hB g
  have hpp := hB.2.1.2.1
  refine ⟨p, p', bi, tp, 0, hB2, ?_⟩
  rcases hY with ⟨⟨a1, a2⟩, ⟨b1, b2, b3, b4⟩, d1, d2, d3⟩ | ⟨kd, pl, nt, ky, z, mn, l, c, f, σ, hY⟩
  · left
    show NTX I2 p
    refine ⟨⟨by rw [g.2.1 4 (by decide)]; exact a1, by rw [g.2.2.2.1 48 (by omega)]; exact a2⟩, ⟨?_, ?_, ?_, ?_⟩, ?_, ?_, ?_⟩
    · rw [g.1 (p + 7) (by omega) (by omega) (by omega) (by omega)]; exact b1
    · rw [g.1 (p + 20) (by omega) (by omega) (by omega) (by omega)]; exact b2
    · rw [g.1 (p + 20) (by omega) (by omega) (by omega) (by omega)]; exact b3
    · rw [g.1 (p + 27) (by omega) (by omega) (by omega) (by omega)]; exact b4
    · rw [g.1 77 (by omega) (by omega) (by omega) (by omega)]; exact d1
    · rw [g.1 77 (by omega) (by omega) (by omega) (by omega)]; exact d2
    · rw [g.1 77 (by omega) (by omega) (by omega) (by omega)]; exact d3
  · refine Or.inr ⟨kd, pl, nt, ky, z, mn, l, c, f, σ, YTX_fr4 hY (fun o ho => g.1 o (by omega) (by omega) (by omega) (by omega)) (g.2.1 4 (by decide)) (fun k hk => g.2.2.2.1 k (by omega)) hB2.2.2.2.2.2.2.1 hB2.2.2.2.2.2.2.2 (fun k hk => ⟨(hB2.2.2.2.2.1 k hk).1, (hB2.2.2.2.2.1 k hk).2.2⟩) ⟨g.2.2.2.2.2.1 134 (by omega) (by decide) (by decide) (by decide), g.2.2.2.2.2.1 (p + 21) (by omega) (by omega) (by omega) (by omega)⟩ ⟨CHs_fr hY.2.2.2.1.1 (fun o a b => g.1 o (by omega) (by omega) (by omega) (by omega)), MHs_fr hY.2.2.2.1.2.1 (fun k a b => g.2.2.2.1 k (by omega)) (g.1 154 (by omega) (by omega) (by omega) (by omega)) (g.1 155 (by omega) (by omega) (by omega) (by omega)), hY.2.2.2.1.2.2⟩ (MDc_fr hY.2.2.2.2.1 (g.1 80 (by omega) (by omega) (by omega) (by omega)) (g.1 89 (by omega) (by omega) (by omega) (by omega))) (MDm_fr hY.2.2.2.2.2 (g.2.2.2.1 99 (by omega)) (g.1 158 (by omega) (by omega) (by omega) (by omega)) (g.1 159 (by omega) (by omega) (by omega) (by omega)) (g.1 160 (by omega) (by omega) (by omega) (by omega)))⟩
/-- the same text in both, behind a read -/
theorem YTX_new (hp' : p' = 2 ∨ p' = 36) (ht : tko kd pl nt) (hx : TXX kd pl nt z) (hfl : flw pl ky bi z = 1000) (hOK : cOK pl ky bi I L p' z l c) (hR0 : R 0 2 = .ref p') (hse : mSE pl ky (mgm ky bi z) I L z l c) (hnw : mNW I c) (hs : frRs I) (h88 : ∀ r, r < 168 → I 88 r = nI 1) (hbi : ∀ k, k < 11 → L (p' + 21) k = bi k ∧ L 140 k = bi k) (h84 : I 96 84 = -9) (h85 : ∃ cn, cn < 80 ∧ I 96 85 = nI cn) : ∃ f σ, YTX kd pl nt ky bi p' z (mnz ky bi z) l c f σ S I L R := by
  have hT := hx.1
  have ho := hx.2.2.2.1
  have hsq := hOK.2.2.2.2.2
  obtain ⟨v, w, -, -, hw2, -, hno⟩ := fault_eq (ky := ky) (bi := bi) ht hT ho
  have hw : w = 1000 := by rw [← hw2]; exact hfl
  have hno := hno hw
  have hw3 : ∀ b, b < z 30 2 → wrM (kbz ky z) bi (z 22) (z 23) b = false := fun b hb => (rmn_1000 (z 30 2) 0 _ (fun k _ _ => (ht.2.2.2 _).2) hfl).2 b (Nat.zero_le _) (by omega)
  have hmn := mnz_B (ky := ky) (bi := bi) hT ho (fun n hn h0 => (hno n hn).2 h0)
  have tk := tz_tok (mn := mnz ky bi z) hx hsq hmn
  have mt := mSE_tb hx hsq hse hno
  have D1 := hx.2.2.1
  have DN := D_le hT
  have wd := hT.1.1.2.2.2
  have B22 : z 30 2 ≤ 22 := tk.2.1
  have D6 : z 30 1 ≤ 6 := tk.2.2.1
  have c1 : 1 ≤ c := by
    obtain ⟨i, hi, -⟩ := (hsq.2 (dclR z 0)).mp (Or.inl ⟨0, by omega, rfl⟩)
    omega
  obtain ⟨s1, s2, s3, s4, s5⟩ := id hse
  obtain ⟨hbl, hnd, hb, hk, hra, -⟩ := id hOK
  have hB := hT.2.2.2.2
  obtain ⟨f, hf⟩ := FTf_ex z (mnz ky bi z) l c
  refine ⟨f, ((fun _ => 1000), (fun _ => 0), 0, 1000, 0, nI 0), ⟨⟨⟨⟨hp', hR0⟩, ⟨hT, tk⟩, ⟨c_rtab hx hmn hOK, cost_T hx hsq⟩, mt, h84, h85⟩, ⟨hx, ht, hsq⟩, hbl, hra⟩, ⟨⟨D6, B22, hnd.1.1, hnd.1.2⟩, fun k hk => (hbi k hk).1, hb, fun d hd => ⟨(hnd.2.2 d hd).1, ?_⟩⟩, ⟨hx, hsq, tk, hw3, hmn⟩, ⟨mt, fun n hn => ?_, ⟨⟨by omega, fun b hb => ?_⟩, fun k hk => (hbi k hk).2, Or.inr ⟨rfl, s2.2.2.1, s3⟩⟩, h84, h85⟩, hf, h88, hs.1, s2.1⟩, ⟨by omega, by omega, c1⟩, ⟨hnd.1.1, s2.2.2.2, s5, fun k hk => (s1 k hk).1.2.1⟩, ⟨⟨⟨hs.2.2.1.1, hs.2.2.1.2.1, hs.2.2.1.2.2.1, hs.2.2.1.2.2.2⟩, hs.2.1, fun r hr q => absurd q (by show ¬ 1000 < 1000; decide)⟩, ⟨⟨hnw.1.1, hnw.1.2.1, hnw.1.2.2.1, hnw.1.2.2.2.1, fun q => absurd q (by show ¬ 1000 < 1000; decide)⟩, hnw.2, fun r hr q => absurd q (by show ¬ 1000 < 1000; decide)⟩, ⟨⟨fun _ => Or.inl rfl, fun _ _ => rfl, fun s hs => absurd hs (Nat.not_lt_zero _), Nat.zero_le _⟩, Or.inl rfl⟩⟩, Or.inl hs.2.2.2, Or.inl hnw.1.2.2.2.2⟩
  · have := (hT.2.2.1 d hd).2.1.1
    omega
  · obtain ⟨-, -, -, q1, q2, q3⟩ := s1 n hn
    exact ⟨q1, q2, q3⟩
  · obtain ⟨b1, b2, b3⟩ := hB b hb
    refine ⟨?_, by omega⟩
    rcases b3 with q | q
    · have := (hT.2.2.1 _ b1).2.2 (b - z 16 (z 23 b)) (by omega)
      rw [show z 16 (z 23 b) + (b - z 16 (z 23 b)) = b by omega] at this
      have := this.2.2.2.1
      split at this <;> omega
    · omega
end OPREAD
