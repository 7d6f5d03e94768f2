section MBIN
variable {tp : Nat → Nat} {n nt e k d oc base lt l cR w c1 : Nat} {S : lm_S} {I I' I1 I2 I3 : lm_I} {L L' L1 L2 L3 : lm_L} {R : lm_R} {Q : Option Value → lm_M → Prop} {z z' zL zR : Zt}
/-- an operator and what stands to its right -/
theorem m_bin (hS : lp_shape S) (hR : lp_refs R) (ht : tko (xk tp n) (xp tp n) nt) (hw : WFz nt d z) (hL : PSI (xk tp n) (xp tp n) nt z l d w zL) (g : mX tp n c1 d oc I1 L1 z w zL) (hc1 : 1 ≤ c1) (hk : xk tp n (zL 30 4) = k) (hlk : lvo k = l) (hl1 : 1 ≤ l) (h121 : I1 121 d = nI base) (hoc : base ≤ oc ∧ oc ≤ zL 30 3) (hT : tpO I1 base oc lt (zL 30 3)) (hl : lt < l ∨ (lt = 3 ∧ l = 3))
    (hcR : 1 ≤ cR) (X : Zt → Rs) (hP : ∀ z, WFz nt d z → z 30 4 = zL 30 4 + 1 → PST (xk tp n) (xp tp n) nt z cR d (X z))
    (hrec : ∀ z I L Q oc, WFz nt d z → z 30 4 = zL 30 4 + 1 → mE tp n d base oc l I L z → mQ tp n (e + 6) S R Q cR d oc z I L (X z) → hdQ (e + 6) S R Q I L)
    (h80 : 80 ≤ zL 30 3 → mF S R Q I1 L1 (xp tp n (zL 30 4)))
    (hfail : ∀ t, zL 30 3 < 80 → X (adv (zk (xp tp n) zL k d)) = .inl t → mF S R Q I1 L1 t)
    (hdoom : ∀ r zR, zL 30 3 < 80 → X (adv (zk (xp tp n) zL k d)) = .inr (r, zR) → (cR ≤ 2 ∨ l = 2) → lvo (xk tp n (zR 30 4)) = 2 → mF S R Q I1 L1 (xp tp n (zR 30 4)))
    (hlv : ∀ kR, lvo kR < cR ∨ lvo kR = 0 → (¬ l = 2 ∨ lvo kR ≠ 2) → lvo kR < l ∨ (lvo kR = l ∧ (l = 1 ∨ l = 4)))
    (hgo : ∀ r zR I3 L3, zL 30 3 < 80 → X (adv (zk (xp tp n) zL k d)) = .inr (r, zR) → mX tp n (l + 1) d oc I3 L3 z (zL 30 0) (zlk (zlk zR 1 (zL 30 0) w) 2 (zL 30 0) r) → lvo (xk tp n (zR 30 4)) < l ∨ (lvo (xk tp n (zR 30 4)) = l ∧ (l = 1 ∨ l = 4)) → frP (z 30 3) (z 30 2) (d + 1) oc I1 I3 L1 L3 → hdQ (e + 6) S R Q I3 L3) : hdQ (e + 6) S R Q I1 L1 := by
  obtain ⟨g1, ⟨g39, g40, g43, ww, -, g47, ww0⟩, gS, -, -⟩ := g
  have ww0 := ww0 hc1
  subst ww0
  have hwL := wf_psi hw hL
  have h8 := lvo_k (show lvo k ≠ 0 by omega)
  have hw1 := hL.2.2.1.1
  have w3 := hL.1.1.2.2.1
  have w2 := hL.1.1.2.2.2.1
  have n0 := hL.1.1.2.1
  have nw := (hL.2.2.1.2.2.1 w hw1.1 hw1.2.1).2.1
  have hp := (ht.2.2.2 (zL 30 4)).2
  have v3 := hwL.2.1
  by_cases c80 : zL 30 3 < 80
  · refine h_sit hS hR g1 hwL.2.2.2.1 hk h8 g47 g39 (by omega) h121 g43 hoc c80 ⟨hwL.2.2.2.2.1.2.2.1, hwL.2.2.2.2.1.2.2.2⟩ hp hT (by omega) (fun I' L' g' nwm fa f => ?_)
    obtain ⟨a43, a123, a124, a39, a40, a42⟩ := fa
    obtain ⟨⟨x0, x1, x2, x3, x4, x5, x6⟩, -, -⟩ := zka_f (pl := xp tp n) (z := zL) (d := d) k (by omega)
    have hwA := wf_k (k := k) ht hwL c80 (by omega) (by rw [hk]; omega)
    have hr0 := hP _ hwA x4
    refine hrec _ I' L' Q (oc + 1) hwA x4 ⟨g', ⟨a39, by rw [a40]; exact g40, a43, by rw [f.2.2.1.2.2.1 121 d (by decide) (by decide) (by omega)]; exact h121⟩, ⟨by omega, by omega, Or.inr ⟨by omega, zL 30 3, k, by rw [Nat.add_sub_cancel]; exact a123, by omega, nwm.1.1, h8, hlk⟩⟩, 0, by omega, a42, Or.inl rfl⟩ ?_
    cases hx : X (adv (zk (xp tp n) zL k d)) with
    | inl t => exact (hfail t c80 hx).fr f.1
    | inr q =>
      obtain ⟨r, zR⟩ := q
      rw [hx] at hr0
      have hr0 : PSI (xk tp n) (xp tp n) nt (adv (zk (xp tp n) zL k d)) cR d r zR := hr0
      show if cR ≤ 2 ∧ lvo (xk tp n (zR 30 4)) = 2 then mF S R Q I' L' (xp tp n (zR 30 4)) else _
      split
      · rename_i hh
        exact (hdoom r zR c80 hx (Or.inl hh.1) hh.2).fr f.1
      · intro I2 L2 mx f2
        have mx : mX tp n cR d (oc + 1) I2 L2 (adv (zk (xp tp n) zL k d)) r zR := mx
        obtain ⟨b1, ⟨b39, b40, b43, wv, wv1, b47, wv0⟩, bS, bb, bl⟩ := mx
        have hwR := wf_psi hwA hr0
        have hrr := hr0.2.2.1.1
        have itR := hr0.2.1.1
        rw [x0] at hrr
        have w3R := hr0.1.1.2.2.1
        rw [x3] at w3R
        have nr := (hr0.2.2.1.2.2.1 r (by omega) hrr.2.1).2.1
        rw [x3] at nr
        have k23 := (ht.2.2.2 (zR 30 4)).1
        have v3R := hwR.2.1
        have i121 : I2 121 d = nI base := by rw [f2.2.2.1.2.2.1 121 d (by decide) (by decide) (by omega), f.2.2.1.2.2.1 121 d (by decide) (by decide) (by omega)]; exact h121
        have i123 : I2 123 oc = nI (zL 30 3) := by rw [f2.2.2.1.2.2.2 123 oc (by decide) (by decide) (by omega)]; exact a123
        have i124 : I2 124 oc = nI (zL 6 w) := by rw [f2.2.2.1.2.2.2 124 oc (by decide) (by decide) (by omega)]; exact a124
        have i99 : I2 99 (zL 30 3) = nI k := by rw [f2.2.2.1.1 99 _ (by decide) (by decide) (by omega)]; exact nwm.1.1
        have wv00 : wv = 0 := wv0 hcR
        subst wv00
        by_cases two : l = 2 ∧ lvo (xk tp n (zR 30 4)) = 2
        · have hT2 : tpO I2 base (oc + 1) 2 (zR 30 3) := Or.inr ⟨by omega, zL 30 3, k, by rw [Nat.add_sub_cancel]; exact i123, by omega, i99, h8, by omega⟩
          refine h_sit2 hS hR b1 hwR.2.2.2.1 rfl two.2 b47 b39 (by omega) i121 b43 (by omega) hwR.2.1 hT2 ?_
          exact hdoom r zR c80 hx (Or.inr two.1) two.2 I2 L2 b1.1.2.1 (f.1.tr f2.1)
        · have hv := hlv _ bl (by omega)
          have tk := mST_tM b1 k23
          have fL : frP (zL 30 3) (zL 30 2) (d + 1) oc I1 I2 L1 L2 := f.tr f2 (by omega) (by omega) (Nat.le_refl _) (by omega)
          have hTT : tpO I2 base oc lt (zR 30 3) := tpO_fr hT fL (Nat.le_refl _) (by omega)
          have hgo := fun I3 => hgo r zR I3 L2 c80 hx
          refine red1 (M := zR 30 3) hS hR tk bb b47 b1.2.1.2.2.2.2.2.2.1 (by have := hwR.2.2.2.1; omega) i121 b43 ⟨hoc.1, by omega⟩ i123 (by omega) i99 h8 i124 (by omega) b39 (by omega) hwR.2.1 (by rw [hlk]; exact hv) hTT (hgo _ ⟨?_, ⟨?_, ?_, ?_, 0, by omega, ?_, fun _ => rfl⟩, ?_, bb, ?_⟩ hv ?_)
          · exact mST_z (mST_rd b1) (fun v _ _ => rfl) (fun c b p q => by
              show (if c = 5 ∧ b = r then _ else if c = 2 ∧ b = zL 30 0 then _ else if c = 5 ∧ b = w then _ else if c = 1 ∧ b = zL 30 0 then _ else zR c b) = zR c b
              rw [if_neg (by omega), if_neg (by omega), if_neg (by omega), if_neg (by omega)])
          · rw [(rdM_f (I := I2) (o := zL 30 3) (w := zL 6 w) (cv := zR 6 r) (oc := oc)).2.2.1.2]
            have e6 : zlk (zlk zR 1 (zL 30 0) w) 2 (zL 30 0) r 6 (zL 30 0) = zR 6 (zL 30 0) := rfl
            rw [e6, hr0.1.2.1 6 _ (by decide) (by omega)]
            have := (zka_f (pl := xp tp n) (z := zL) (d := d) k (by omega)).2.1.1.2.1
            rw [this]
          · rw [(rdM_f (I := I2) (o := zL 30 3) (w := zL 6 w) (cv := zR 6 r) (oc := oc)).2.1 40 (by decide) (by decide)]; exact b40
          · exact (rdM_f (I := I2) (o := zL 30 3) (w := zL 6 w) (cv := zR 6 r) (oc := oc)).2.2.1.1
          · rw [(rdM_f (I := I2) (o := zL 30 3) (w := zL 6 w) (cv := zR 6 r) (oc := oc)).2.1 47 (by decide) (by decide)]; exact b47
          · obtain ⟨q1, q2, q3, q4, q5, q6, q7⟩ := rdM_f (I := I2) (o := zL 30 3) (w := zL 6 w) (cv := zR 6 r) (oc := oc)
            have row : ∀ o, 99 ≤ o → o ≤ 109 → I2 o (zL 30 3) = I' o (zL 30 3) := fun o p q => f2.2.2.1.1 o _ p q (by omega)
            obtain ⟨⟨u1, u2, u3, u4, u5⟩, u6, u7, u8, u9, u10⟩ := nwm
            refine masm_bin (zR := zR) (l := l) (cR := cR) (k := k) ht hw hL (Or.inr ⟨rfl, h8⟩) hr0 gS bS (fun o m p q hm hh => ?_) (fun m hm => fL.2.2.2.1 m hm) (fun o m p q hm hh => ?_) (fun m hm => rfl) q7 ⟨?_, ?_, q5.1, q5.2, ?_, ?_, ?_, ?_, ?_⟩ rfl
            · rw [← fL.2.2.1.1 o m p q hm]
              by_cases s1 : o = 102
              · subst s1; exact (q4 m (by omega)).1
              · by_cases s2 : o = 103
                · subst s2; exact (q4 m (by omega)).2
                · by_cases s3 : o = 105
                  · subst s3; exact q6 m (by omega) (by omega)
                  · rw [q1 o (by omega) s1 s2 s3]
            · by_cases s1 : o = 102
              · subst s1; exact (q4 m (by omega)).1
              · by_cases s2 : o = 103
                · subst s2; exact (q4 m (by omega)).2
                · by_cases s3 : o = 105
                  · subst s3; exact q6 m (by omega) (by omega)
                  · rw [q1 o (by omega) s1 s2 s3]
            · rw [q1 99 (by decide) (by decide) (by decide) (by decide)]; exact i99
            · rw [q1 100 (by decide) (by decide) (by decide) (by decide), row 100 (by decide) (by decide)]; exact u2
            · rw [q1 104 (by decide) (by decide) (by decide) (by decide), row 104 (by decide) (by decide)]; exact u8
            · rw [q6 _ (by omega) (by omega), row 105 (by decide) (by decide)]; exact u9
            · rw [q1 106 (by decide) (by decide) (by decide) (by decide), row 106 (by decide) (by decide)]; exact u3
            · rw [q1 107 (by decide) (by decide) (by decide) (by decide), row 107 (by decide) (by decide)]; exact u4
            · rw [q1 109 (by decide) (by decide) (by decide) (by decide), row 109 (by decide) (by decide)]; exact u5
          · show lvo (xk tp n (zR 30 4)) < l + 1 ∨ _
            omega
          · exact (fL.le w3 w2 (Nat.le_refl _) (Nat.le_refl _)).tr (frP_rd (by omega) (by omega) (by omega)) (Nat.le_refl _) (Nat.le_refl _) (Nat.le_refl _) (Nat.le_refl _)
  · refine h_sitf hS hR g1 hwL.2.2.2.1 hk h8 g47 g39 (by omega) h121 g43 hoc (by omega) hT (by omega) (fun I' a b => h80 (by omega) I' _ a b)
end MBIN
