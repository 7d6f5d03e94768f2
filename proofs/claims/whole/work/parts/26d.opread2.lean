section OPREAD2
variable {kd pl : Nat → Nat} {nt p p' c n : Nat} {S : lm_S} {I I1 I2 : lm_I} {L L1 L2 : lm_L} {R R1 : lm_R} {z : Zt} {ky bi : Nat → Int64} {mn tp : Nat → Nat} {l : Nat → Rr} {f : N3 → Bool} {σ : HS}
theorem cOK_L (h : cOK pl ky bi I L p z l c) (h1 : L2 (p + 21) = L (p + 21)) (h2 : L2 (p + 17) = L (p + 17)) : cOK pl ky bi I L2 p z l c := by
  obtain ⟨a, b, d, e, g, i⟩ := h
  exact ⟨a, b, fun b hb => by rw [h1]; exact d b hb, fun n hn h0 => by rw [h2]; exact e n hn h0, g, i⟩
theorem mSE_l {a : Nat → Rr} {mg : Nat → Nat} (h : mSE pl ky mg I L z a c) (e : ∀ i, i < c → l i = a i) : mSE pl ky mg I L z l c := by
  obtain ⟨h1, h2, h3, h4, h5, h6⟩ := h
  exact ⟨h1, h2, h3, h4, h5, fun i hi => by rw [e i hi]; exact h6 i hi⟩
/-- a read that goes through -/
theorem INV_R (hB : BAS p p' bi tp n S I L R) (ht : tko (xk tp n) (xp tp n) nt) (hx : TXX (xk tp n) (xp tp n) nt z) (hfl : flw (xp tp n) (xy tp n) bi z = 1000) (hOK : cOK (xp tp n) (xy tp n) bi I1 L1 p' z l c) (a : frRd p' I I1 L L1) (hs : frRs I1) (sw : swR p p' R R1) {m : Nat → Rr} (hse : mSE (xp tp n) (xy tp n) (mgm (xy tp n) bi z) I2 L2 z m c) (hm : ∀ i, i < c → l i = m i) (hnw : mNW I2 c) (d : frR1 I1 I2 L1 L2) (h1 : I2 96 1 = nI 0) : INV (S, I2, L2, R1) := by
  obtain ⟨b1, ⟨b2, hpp, b3, b4⟩, ⟨⟨k1, k2⟩, c2⟩, -, d1, ⟨o, o1, ⟨o2, o3⟩, o4, o5⟩, h84, h85⟩ := hB
  have hp' : p' = 2 ∨ p' = 36 := by omega
  have F : ∀ o, o ≠ 0 → ¬ (p' ≤ o ∧ o ≤ p' + 33) → o ≠ 96 → o ≠ 77 → o ≠ 78 → o ≠ 80 → (o < 99 ∨ 161 < o) → I2 o = I o := fun o x1 x2 x3 x4 x5 x6 x7 => by rw [d.1 o x3 (by omega), a.1 o x1 (by omega) x4 x5 x6]
  have i96 : I1 96 = I 96 := a.1 96 (by decide) (by omega) (by decide) (by decide) (by decide)
  have h84' : I2 96 84 = -9 := by rw [d.2.1 84 (by omega), i96]; exact h84
  have h85' : ∃ cn, cn < 80 ∧ I2 96 85 = nI cn := by rw [d.2.1 85 (by omega), i96]; exact h85
  have l21 : L2 (p' + 21) = L1 (p' + 21) := d.2.2.1 _ (by omega) (by omega) (by omega) (by omega)
  have hbi : ∀ k, k < 11 → L2 (p' + 21) k = bi k ∧ L2 (p + 21) k = bi k ∧ L2 140 k = bi k := fun k hk => by
    obtain ⟨x1, x2, x3⟩ := d1 k hk
    exact ⟨by rw [l21, a.2.2.2.2 k hk]; exact x2, by rw [d.2.2.1 (p + 21) (by omega) (by omega) (by omega) (by omega), a.2.2.2.1 (p + 21) (by omega)]; exact x1, by rw [d.2.2.1 140 (by decide) (by decide) (by decide) (by decide), a.2.2.2.1 140 (by omega)]; exact x3⟩
  have h88 : ∀ r, r < 168 → I2 88 r = nI 1 := fun r hr => by rw [F 88 (by decide) (by omega) (by decide) (by decide) (by decide) (by decide) (by omega)]; exact c2 r hr
  have hB2 : BAS p' p bi tp 0 S I2 L2 R1 := by
    refine ⟨b1, ⟨swR_refs sw b2, by omega, sw.1, sw.2.1⟩, ⟨⟨k1, fun j hj => ?_⟩, h88⟩, ⟨⟨Nat.zero_le _, fun j hj => absurd hj (Nat.not_lt_zero _)⟩, ⟨Nat.zero_le _, h1, fun j hj => absurd hj (Nat.not_lt_zero _)⟩, ?_⟩, hbi, ⟨o, o1, ⟨?_, fun j hj => ?_⟩, ?_, fun j hj => ?_⟩, h84', h85'⟩
    · rw [F (lm_B + 10) (by show 1000000 + 10 ≠ 0; omega) (by show ¬ (p' ≤ 1000000 + 10 ∧ 1000000 + 10 ≤ p' + 33); omega) (by show 1000000 + 10 ≠ 96; omega) (by show 1000000 + 10 ≠ 77; omega) (by show 1000000 + 10 ≠ 78; omega) (by show 1000000 + 10 ≠ 80; omega) (Or.inr (by show 161 < 1000000 + 10; omega))]
      exact k2 j hj
    · rw [d.1 0 (by decide) (by omega)]; exact a.2.2.1
    · rw [F 90 (by decide) (by omega) (by decide) (by decide) (by decide) (by decide) (by omega)]; exact o2
    · rw [F 91 (by decide) (by omega) (by decide) (by decide) (by decide) (by decide) (by omega)]; exact o3 j hj
    · rw [d.2.1 3 (by omega), i96]; exact o4
    · rw [F 98 (by decide) (by omega) (by decide) (by decide) (by decide) (by decide) (by omega)]; exact o5 j hj
  have G : ∀ o, o < 99 → o ≠ 96 → I2 o = I1 o := fun o x y => d.1 o y (by omega)
  have hs2 : frRs I2 := ⟨by rw [G 0 (by omega) (by decide)]; exact hs.1, fun r hr => by rw [G 78 (by omega) (by decide)]; exact hs.2.1 r hr, by rw [G 77 (by omega) (by decide)]; exact hs.2.2.1, by rw [G 80 (by omega) (by decide)]; exact hs.2.2.2⟩
  have hOK2 : cOK (xp tp n) (xy tp n) bi I2 L2 p' z l c := cOK_L (cOK_fr (kd := xk tp n) hp' hOK (fun o x1 x2 => G o (by omega) (by omega))) l21 (d.2.2.1 _ (by omega) (by omega) (by omega) (by omega))
  obtain ⟨f, σ, hY⟩ := YTX_new (S := S) hp' ht hx hfl hOK2 sw.1 (mSE_l hse hm) hnw hs2 h88 (fun k hk => ⟨(hbi k hk).1, (hbi k hk).2.2⟩) h84' h85'
  exact ⟨p', p, bi, tp, 0, hB2, Or.inr ⟨_, _, _, _, _, _, _, _, f, σ, hY⟩⟩
/-- read of both -/
theorem op_read (hI : INV (S, I, L, R)) : lc 1000 125 [.ref 0] (S, I, L, R) (fun v M1 => ∃ r : Int32, v = some (.int r) ∧ (M1.1.2.2 96).1 = 10 ∧ lc 1000 181 [.ref 96] M1 (fun v2 M2 => v2 = some (.int r) ∧ INV M2)) := by
  obtain ⟨p, p', bi, tp, n, hB, hY⟩ := hI
  replace hB : BAS p p' bi tp n S I L R := hB
  replace hY : NTX I p ∨ ∃ kd pl nt ky z mn l c f σ, YTX kd pl nt ky bi p z mn l c f σ S I L R := hY
  have hS := hB.1.1
  have hR := hB.2.1.1
  have hpp := hB.2.1.2.1
  have hp : p = 2 ∨ p = 36 := by omega
  have hp' : p' = 2 ∨ p' = 36 := by omega
  have sh : (S.2.2 96).1 = 10 := by rw [sh_96 hS]
  have tm := hB.2.2.2.1.2.1
  have tm' : ∀ I1, I1 96 = I 96 → I1 97 = I 97 → tpM I1 tp n := fun I1 x y => ⟨tm.1, by rw [x]; exact tm.2.1, fun j hj => by rw [y]; exact tm.2.2 j hj⟩
  refine c_125 (e := 547) hS hR hp hp' hB.2.1.2.2.1 hB.2.1.2.2.2 hB.2.2.2.1.2.2 hB.2.2.2.1.1 (fun k hk => (hB.2.2.2.2.1 k hk).2.1) (fun nt ht => ?_)
  obtain ⟨pr, hpr⟩ : ∃ pr : Nat → Bool, ∀ i, i ≤ nt → (pr i = true ↔ prP (xk tp n) (nt + 1) i) := ⟨fun i => @decide (prP (xk tp n) (nt + 1) i) (Classical.propDecidable _), fun i _ => @decide_eq_true_iff _ (Classical.propDecidable _)⟩
  refine ⟨pr, hpr, ?_⟩
  have go : ∀ (I1 : lm_I) (L1 : lm_L) (R1 : lm_R) (Q2 : Option Value → lm_M → Prop), lp_refs R1 → frRd p' I I1 L L1 → mPQ tp n bi nt S R1 Q2 I1 L1 (sT (xk tp n) (xp tp n) pr 148 7 z00) → lc 1000 181 [.ref 96] (S, I1, L1, R1) Q2 := fun I1 L1 R1 Q2 hR1 a hq => k_181 (e := 992) hS hR1 (tm' I1 (a.1 96 (by decide) (by omega) (by decide) (by decide) (by decide)) (a.1 97 (by decide) (by omega) (by decide) (by decide) (by decide))) ht hpr (fun k hk => by rw [a.2.2.2.1 140 (by omega)]; exact (hB.2.2.2.2.1 k hk).2.2) hq
  cases hx : sT (xk tp n) (xp tp n) pr 148 7 z00 with
  | inl t =>
    rw [hx] at go
    intro t240 I1 L1 a b
    exact ⟨_, rfl, sh, go I1 L1 R _ hR a (fun _ I2 L2 d h1 => ⟨rfl, INV_F hB hY (frFq_of hp' a b d h1)⟩)⟩
  | inr q =>
    rw [hx] at go
    intro hX
    show if flw (xp tp n) (xy tp n) bi q.2 = 1000 then _ else _
    by_cases fl : flw (xp tp n) (xy tp n) bi q.2 = 1000
    · rw [if_pos fl]
      intro I1 L1 R1 l c hOK a hs sw
      refine ⟨_, rfl, sh, go I1 L1 R1 _ (swR_refs sw hR) a (fun hX' => ?_)⟩
      show if flw (xp tp n) (xy tp n) bi q.2 = 1000 then _ else _
      rw [if_pos fl]
      intro I2 L2 m c' hse hsq hnw d h1
      obtain ⟨ec, em⟩ := SQ_un hOK.2.2.2.2.2 hsq
      subst ec
      exact ⟨rfl, INV_R hB ht hX fl hOK a hs sw hse em hnw d h1⟩
    · rw [if_neg fl]
      intro f240 I1 L1 a b
      refine ⟨_, rfl, sh, go I1 L1 R _ hR a (fun hX' => ?_)⟩
      show if flw (xp tp n) (xy tp n) bi q.2 = 1000 then _ else _
      rw [if_neg fl]
      exact fun _ I2 L2 d h1 => ⟨rfl, INV_F hB hY (frFq_of hp' a b d h1)⟩
end OPREAD2
