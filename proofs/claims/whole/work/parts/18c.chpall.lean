section CHPALL
variable {kd pl : Nat → Nat} {pr : Nat → Bool} {nt d : Nat} {rec : Nat → Nat → Zt → Rs} {z : Zt}
theorem K_lpL (ht : tko kd pl nt) {l : Nat} (hl : l = 1 ∨ l = 4) (hP : ∀ z, WFz nt d z → PST kd pl nt z (l + 1) d (rec (l + 1) d z)) (hK : ∀ z q, WFz nt d z → rec (l + 1) d z = .inr q → CHP q.2 (z 30 0) (q.2 30 0)) (hw : WFz nt d z) : ∀ (m w : Nat) (zL : Zt) (q : Nat × Zt), PSI kd pl nt z l d w zL → CHP zL (z 30 0) (zL 30 0) → lpL kd pl rec l d m w zL = .inr q → CHP q.2 (z 30 0) (q.2 30 0) := by
  intro m
  induction m with
  | zero => intro w zL q h c hq; cases hq; exact c
  | succ m ih =>
    intro w zL q h c hq
    unfold lpL at hq
    split at hq
    · cases hq; exact c
    · rename_i h1
      split at hq
      · exact (flt_r hq).elim
      · rename_i h2
        have h1 : lvo (kd (zL 30 4)) = l := Classical.not_not.mp h1
        have hk := lvo_k (k := kd (zL 30 4)) (by omega)
        have hwA := wf_k (k := kd (zL 30 4)) ht (wf_psi hw h) (by omega) (by omega) (by omega)
        obtain ⟨r, zR, e1, e2⟩ := rb_r hq
        have hr := hP _ hwA
        rw [e1] at hr
        have hr : PSI kd pl nt _ (l + 1) d r zR := hr
        have cR := hK _ _ hwA e1
        have A0 : adv (zk pl zL (kd (zL 30 4)) d) 30 0 = zL 30 0 + 1 := by rw [adv_n (by decide)]; exact zk_0
        rw [A0] at cR
        have cR : CHP zR (zL 30 0 + 1) (zR 30 0) := cR
        have cb : CHP (zlk (zlk zR 1 (zL 30 0) w) 2 (zL 30 0) r) (z 30 0) (zR 30 0) := chp_bin (k := kd (zL 30 4)) (zR := zR) h (Or.inr rfl) (by omega) hr c cR rfl
        exact ih _ _ q (psi_bin hw h h1 (by omega) (by omega) hr (by omega)) cb e2
theorem K_row (ht : tko kd pl nt) (hP : ∀ z, WFz nt d z → PST kd pl nt z 4 d (rec 4 d z)) (hK : ∀ z q, WFz nt d z → rec 4 d z = .inr q → CHP q.2 (z 30 0) (q.2 30 0)) : ∀ (m : Nat) (z : Zt) (q : Nat × Zt), WFz nt d z → nt < m + z 30 4 → rwL kd pl rec d m z = .inr q → CHP q.2 (z 30 0) (q.2 30 0) := by
  intro m
  induction m with
  | zero => intro z q hw hm; have := hw.1; omega
  | succ m ih =>
    intro z q hw hm hq
    unfold rwL at hq
    obtain ⟨w, zL, e1, e2⟩ := rb_r hq
    have h0 := hP z hw
    rw [e1] at h0
    have h0 : PSI kd pl nt z 4 d w zL := h0
    have cL := hK _ _ hw e1
    split at e2
    · cases e2; exact cL
    · rename_i h1
      have h1 : kd (zL 30 4) = 11 := Classical.not_not.mp h1
      split at e2
      · exact (flt_r e2).elim
      · rename_i h2
        obtain ⟨r, zR, e3, e4⟩ := rb_r e2
        cases e4
        have hwA := wf_k (k := 11) ht (wf_psi hw h0) (by omega) (by omega) (by omega)
        have hi := h0.2.1.1
        have f4 := (zka_f (pl := pl) (z := zL) (d := d) 11 (by decide)).1.2.2.2.2.1
        have hr := P_row (rec := rec) ht hP m _ hwA (by omega)
        rw [e3] at hr
        have hr : PSI kd pl nt _ 3 d r zR := hr
        have cR := ih _ _ hwA (by omega) e3
        have A0 : adv (zk pl zL 11 d) 30 0 = zL 30 0 + 1 := by rw [adv_n (by decide)]; exact zk_0
        rw [A0] at cR
        have cR : CHP zR (zL 30 0 + 1) (zR 30 0) := cR
        have cb : CHP (zlk (zlk zR 1 (zL 30 0) w) 2 (zL 30 0) r) (z 30 0) (zR 30 0) := chp_bin (k := 11) (zR := zR) h0 (Or.inr rfl) (by decide) hr cL cR rfl
        exact cb
theorem K_lpC (ht : tko kd pl nt) (hP : ∀ z, WFz nt d z → PST kd pl nt z 6 d (rec 6 d z)) (hK : ∀ z q, WFz nt d z → rec 6 d z = .inr q → CHP q.2 (z 30 0) (q.2 30 0)) (hw : WFz nt d z) : ∀ (m w : Nat) (zL : Zt) (q : Nat × Zt), PSI kd pl nt z 5 d w zL → CHP zL (z 30 0) (zL 30 0) → lpC kd pl rec d m w zL = .inr q → CHP q.2 (z 30 0) (q.2 30 0) := by
  intro m
  induction m with
  | zero => intro w zL q h c hq; cases hq; exact c
  | succ m ih =>
    intro w zL q h c hq
    unfold lpC at hq
    split at hq
    · cases hq; exact c
    · rename_i h1
      split at hq
      · exact (flt_r hq).elim
      · rename_i h2
        have h1 : bga (kd (zL 30 4)) = true := by simpa using h1
        have hwA := wf_k3 (pl := pl) (wf_psi hw h) (show zL 30 3 < 80 by omega)
        obtain ⟨r, zR, e1, e2⟩ := rb_r hq
        have hr := hP _ hwA
        rw [e1] at hr
        have hr : PSI kd pl nt _ 6 d r zR := hr
        have cR := hK _ _ hwA e1
        rw [zk_0] at cR
        have cb := chp_bin h (Or.inl rfl) (by decide) hr c cR rfl
        exact ih _ _ q (psi_call hw h h1 hr) (chp_e cb (fun c m hc => zu_n (by omega))) e2
theorem K_lpE (ht : tko kd pl nt) (hd : d < 20) (hP : ∀ z, WFz nt (d + 1) z → PST kd pl nt z 0 (d + 1) (rec 0 (d + 1) z)) (hK : ∀ z q, WFz nt (d + 1) z → rec 0 (d + 1) z = .inr q → CHP q.2 (z 30 0) (q.2 30 0)) (hw : WFz nt d z) : ∀ (m la jo : Nat) (y : Zt) (es : List Nat) (q : Nat × Zt), nt < m + y 30 4 → LI kd pl nt z y d la es → (jo + 1 = y 30 4 ∧ (kd jo = 7 ∨ kd jo = 19) ∧ z 30 4 ≤ jo) → (∀ n, z 30 0 ≤ n → n < y 30 0 → y 9 n ≠ jo) → CHP y (z 30 0) (y 30 0) → lpE kd pl rec (z 30 0) d m la jo y = .inr q → CHP q.2 (z 30 0) (q.2 30 0) := by
  intro m
  induction m with
  | zero => intro la jo y es q hm hl; have := hl.1.2.1; omega
  | succ m ih =>
    intro la jo y es q hm hl hj hjo cy hq
    unfold lpE at hq
    obtain ⟨r, z1, e1, e2⟩ := rb_r hq
    have hwy := li_wf hw hd hl
    have h0 := hP y hwy
    rw [e1] at h0
    have h0 : PSI kd pl nt y 0 (d + 1) r z1 := h0
    have c1 := hK _ _ hwy e1
    have hl2 := asm_el ht hl hj hjo h0
    have ce := chp_el (jo := jo) hl h0 cy c1
    have e30 : ∀ v, zel z1 (z 30 0) la jo r 30 v = z1 30 v := fun v => by rw [zel_e, if_neg (by omega), if_neg (by omega), if_neg (by omega), if_neg (by omega)]
    have hp := h0.2.1.1
    have hp2 := h0.2.1.2.1
    have nt240 := ht.1
    have ca : CHP (adv (zel z1 (z 30 0) la jo r)) (z 30 0) (z1 30 0) := chp_e ce (fun c m hc => adv_n (by omega))
    split at e2
    · rename_i h19
      have h19' : kd (zel z1 (z 30 0) la jo r 30 4) = 19 := by rw [e30]; exact h19
      refine ih r (z1 30 4) _ _ q (by rw [adv_4, e30]; omega) (li_adv ht hl2 h19') ⟨by rw [adv_4, e30], Or.inr h19, by omega⟩ (fun n h1 h2 => ?_) (by rw [adv_30 (by decide), e30]; exact ca) e2
      rw [adv_n (by omega)]
      rw [adv_30 (by decide)] at h2
      have := (hl2.2.1.2.2.1 n h1 h2).2.2.2.1
      rw [e30] at this
      omega
    · split at e2
      · exact (flt_r e2).elim
      · cases e2
        show CHP (adv (zel z1 (z 30 0) la jo r)) (z 30 0) (adv (zel z1 (z 30 0) la jo r) 30 0)
        rw [adv_30 (by decide), e30]
        exact ca
/-- every run keeps parts and wholes together -/
theorem K_all (ht : tko kd pl nt) : ∀ (f c d : Nat) (z : Zt) (q : Nat × Zt), c ≤ 6 → 7 * (20 - d) + 8 ≤ f + c → WFz nt d z → ps kd pl pr f c d z = .inr q → CHP q.2 (z 30 0) (q.2 30 0) := by
  intro f
  induction f with
  | zero => intro c d z q hc hf hw; omega
  | succ f ih =>
    intro c d z q hc hf hw h
    have hP : ∀ c' d', c' ≤ 6 → 7 * (20 - d') + 8 ≤ f + c' → ∀ z, WFz nt d' z → PST kd pl nt z c' d' (ps kd pl pr f c' d' z) := fun c' d' h1 h2 z h3 => P_all ht f c' d' z h1 h2 h3
    have hK : ∀ c' d', c' ≤ 6 → 7 * (20 - d') + 8 ≤ f + c' → ∀ z q, WFz nt d' z → ps kd pl pr f c' d' z = .inr q → CHP q.2 (z 30 0) (q.2 30 0) := fun c' d' h1 h2 z q h3 h4 => ih c' d' z q h1 h2 h3 h4
    have nt240 := ht.1
    have v1 := hw.1
    have n100 : z 30 0 ≤ 100 := by have := hw.2.1; have := hw.2.2.1; have := hw.2.2.2.1; omega
    unfold ps at h
    by_cases c0 : c = 0
    · subst c0
      rw [if_pos rfl] at h
      unfold sE at h
      by_cases h4 : kd (z 30 4) = 4
      · rw [if_pos h4] at h
        unfold sLam at h
        split at h
        · exact (flt_r h).elim
        · rename_i g1
          split at h
          · cases h
          · rename_i g2
            split at h
            · cases h
            · rename_i g3
              obtain ⟨r, z1, e1, e2⟩ := rb_r h
              cases e2
              have k0 : kd (z 30 4 + 1) = 0 := by omega
              have k16 : kd (z 30 4 + 2) = 16 := Classical.not_not.mp g3
              have t1 := tk_lt ht v1 (by omega)
              have t2 := tk_lt ht (show z 30 4 + 1 ≤ nt by omega) (by omega)
              have t3 := tk_lt ht (show z 30 4 + 2 ≤ nt by omega) (by omega)
              obtain ⟨⟨f0, f1, f2, f3, f4, f5, f6⟩, -⟩ := zla_f (pl := pl) (z := z) (d := d)
              have hwz : WFz nt (d + 1) (zla pl z d) := by
                obtain ⟨v1, v2, v3, v4, v5, v6⟩ := hw
                exact ⟨by omega, by omega, by omega, by omega, ⟨by omega, by omega, by omega, by omega⟩, Or.inr ⟨by omega, by omega⟩⟩
              have hr := hP 0 (d + 1) (by omega) (by omega) _ hwz
              rw [e1] at hr
              have cR := hK 0 (d + 1) (by omega) (by omega) _ _ hwz e1
              rw [f0] at cR
              exact chp_lam hr cR
      · rw [if_neg h4] at h
        by_cases h5 : kd (z 30 4) = 5
        · rw [if_pos h5] at h
          unfold sIf at h
          split at h
          · exact (flt_r h).elim
          · rename_i g1
            obtain ⟨r1, z1, e1, e2⟩ := rb_r h
            have hw1 : WFz nt (d + 1) (adv (zk pl z 5 d)) := wf_d (wf_k ht hw (by omega) (by decide) (by omega)) (by omega)
            have p1 := hP 0 (d + 1) (by omega) (by omega) _ hw1
            rw [e1] at p1
            have p1 : PSI kd pl nt _ 0 (d + 1) r1 z1 := p1
            have k1 := hK 0 (d + 1) (by omega) (by omega) _ _ hw1 e1
            have A0 : adv (zk pl z 5 d) 30 0 = z 30 0 + 1 := by rw [adv_n (by decide)]; exact zk_0
            rw [A0] at k1
            split at e2
            · exact (flt_r e2).elim
            · rename_i g2
              have g2 : kd (z1 30 4) = 20 := Classical.not_not.mp g2
              obtain ⟨r2, z2, e3, e4⟩ := rb_r e2
              have hw2 := wf_adv ht (wf_psi hw1 p1) (show kd (z1 30 4) ≠ 22 by omega)
              have p2 := hP 0 (d + 1) (by omega) (by omega) _ hw2
              rw [e3] at p2
              have p2 : PSI kd pl nt _ 0 (d + 1) r2 z2 := p2
              have k2 : CHP z2 (z1 30 0) (z2 30 0) := hK 0 (d + 1) (by omega) (by omega) _ _ hw2 e3
              split at e4
              · exact (flt_r e4).elim
              · rename_i g3
                have g3 : kd (z2 30 4) = 21 := Classical.not_not.mp g3
                obtain ⟨r3, z3, e5, e6⟩ := rb_r e4
                cases e6
                have hw3 := wf_adv ht (wf_psi hw2 p2) (show kd (z2 30 4) ≠ 22 by omega)
                have p3 := hP 0 (d + 1) (by omega) (by omega) _ hw3
                rw [e5] at p3
                have k3 : CHP z3 (z2 30 0) (z3 30 0) := hK 0 (d + 1) (by omega) (by omega) _ _ hw3 e5
                show CHP (zif z1 z2 z3 (z 30 0) r1 r2 r3) (z 30 0) (zif z1 z2 z3 (z 30 0) r1 r2 r3 30 0)
                rw [zif_o (by decide) (by decide) (by decide) (by decide) (by decide) (by decide)]
                exact chp_if p1 p2 p3 k1 k2 k3
        · rw [if_neg h5] at h
          exact hK 1 d (by omega) (by omega) z q hw h
    · rw [if_neg c0] at h
      have lv : ∀ l, (l = 1 ∨ l = 4) → 7 * (20 - d) + 8 ≤ f + (l + 1) → rb (ps kd pl pr f (l + 1) d z) (lpL kd pl (ps kd pl pr f) l d 242) = .inr q → CHP q.2 (z 30 0) (q.2 30 0) := fun l hl hf h => by
        obtain ⟨w, zL, e1, e2⟩ := rb_r h
        have p1 := hP (l + 1) d (by omega) hf z hw
        rw [e1] at p1
        have p1 : PSI kd pl nt z (l + 1) d w zL := p1
        exact K_lpL ht hl (hP (l + 1) d (by omega) hf) (hK (l + 1) d (by omega) hf) hw 242 w zL q (psi_up p1 (by omega) (by omega)) (hK (l + 1) d (by omega) hf z _ hw e1) e2
      by_cases c1 : c = 1
      · subst c1
        rw [if_pos rfl] at h
        exact lv 1 (Or.inl rfl) (by omega) h
      · rw [if_neg c1] at h
        by_cases c2 : c = 2
        · subst c2
          rw [if_pos rfl] at h
          unfold sTst at h
          obtain ⟨w, zL, e1, e2⟩ := rb_r h
          have p1 := hP 3 d (by omega) (by omega) z hw
          rw [e1] at p1
          have p1 : PSI kd pl nt z 3 d w zL := p1
          have k1 := hK 3 d (by omega) (by omega) z _ hw e1
          split at e2
          · cases e2; exact k1
          · rename_i g1
            have g1 : lvo (kd (zL 30 4)) = 2 := Classical.not_not.mp g1
            have hkk := lvo_k (k := kd (zL 30 4)) (by omega)
            split at e2
            · exact (flt_r e2).elim
            · rename_i g2
              obtain ⟨r, zR, e3, e4⟩ := rb_r e2
              cases e4
              have hwA := wf_k (k := kd (zL 30 4)) ht (wf_psi hw p1) (by omega) (by omega) (by omega)
              have p2 := hP 3 d (by omega) (by omega) _ hwA
              rw [e3] at p2
              have k2 := hK 3 d (by omega) (by omega) _ _ hwA e3
              have A0 : adv (zk pl zL (kd (zL 30 4)) d) 30 0 = zL 30 0 + 1 := by rw [adv_n (by decide)]; exact zk_0
              rw [A0] at k2
              have k2 : CHP zR (zL 30 0 + 1) (zR 30 0) := k2
              have p2 : PSI kd pl nt _ 3 d r zR := p2
              have cb : CHP (zlk (zlk zR 1 (zL 30 0) w) 2 (zL 30 0) r) (z 30 0) (zR 30 0) := chp_bin (k := kd (zL 30 4)) (zR := zR) p1 (Or.inr rfl) (by omega) p2 k1 k2 rfl
              exact cb
        · rw [if_neg c2] at h
          by_cases c3 : c = 3
          · subst c3
            rw [if_pos rfl] at h
            exact K_row ht (hP 4 d (by omega) (by omega)) (hK 4 d (by omega) (by omega)) 243 z q hw (by omega) h
          · rw [if_neg c3] at h
            by_cases c4 : c = 4
            · subst c4
              rw [if_pos rfl] at h
              exact lv 4 (Or.inr rfl) (by omega) h
            · rw [if_neg c4] at h
              by_cases c5 : c = 5
              · subst c5
                rw [if_pos rfl] at h
                obtain ⟨w, zL, e1, e2⟩ := rb_r h
                have p1 := hP 6 d (by omega) (by omega) z hw
                rw [e1] at p1
                have p1 : PSI kd pl nt z 6 d w zL := p1
                exact K_lpC ht (hP 6 d (by omega) (by omega)) (hK 6 d (by omega) (by omega)) hw 242 w zL q (psi_up p1 (by omega) (by omega)) (hK 6 d (by omega) (by omega) z _ hw e1) e2
              · rw [if_neg c5] at h
                unfold sA at h
                by_cases k2 : kd (z 30 4) ≤ 2
                · rw [if_pos k2] at h
                  split at h
                  · exact (flt_r h).elim
                  · cases h
                    show CHP (adv (zk pl z (kd (z 30 4)) d)) (z 30 0) (adv (zk pl z (kd (z 30 4)) d) 30 0)
                    obtain ⟨⟨f0, -⟩, new, -⟩ := zka_f (pl := pl) (z := z) (d := d) (kd (z 30 4)) (by omega)
                    rw [f0]
                    exact chp_1 ⟨new.2.2.2.2.1, new.2.1, new.2.2.1, new.2.2.2.1⟩ (by omega)
                · rw [if_neg k2] at h
                  by_cases k6 : kd (z 30 4) = 6
                  · rw [if_pos k6] at h
                    unfold sGrp at h
                    split at h
                    · exact (flt_r h).elim
                    · rename_i g0
                      split at h
                      · obtain ⟨r, z1, e1, e2⟩ := rb_r h
                        obtain ⟨⟨f0, f1', f2, f3', f4, f5, f6z⟩, -⟩ := zp_f (pl := pl) (z := z) (d := d)
                        have hwa : WFz nt (d + 1) (adv (zp pl z d)) := by
                          obtain ⟨v1, v2, v3, v4, v5, v6⟩ := hw
                          have := tk_lt ht v1 (by omega)
                          exact ⟨by omega, by omega, by omega, by omega, by omega, by omega⟩
                        have p1 := hP 0 (d + 1) (by omega) (by omega) _ hwa
                        rw [e1] at p1
                        have p1 : PSI kd pl nt _ 0 (d + 1) r z1 := p1
                        have k1 := hK 0 (d + 1) (by omega) (by omega) _ _ hwa e1
                        rw [f0] at k1
                        split at e2
                        · exact (flt_r e2).elim
                        · rename_i g1
                          obtain ⟨r2, z2, e3, e4⟩ := rb_r e2
                          have hw1 := wf_psi hwa p1
                          have C3 : adv (zc z1 (z 30 0)) 30 3 = z1 30 3 + 1 := by rw [adv_n (by decide), zc_e, if_neg (by omega), if_pos ⟨rfl, rfl⟩]
                          have C : ∀ v, v ≠ 3 → v ≠ 4 → adv (zc z1 (z 30 0)) 30 v = z1 30 v := fun v h1 h2 => by rw [adv_n (by omega), zc_e, if_neg (by omega), if_neg (by omega), if_neg (by omega)]
                          have C4 : adv (zc z1 (z 30 0)) 30 4 = z1 30 4 + 1 := by rw [adv_4, zc_e, if_neg (by omega), if_neg (by omega), if_neg (by omega)]
                          have hwc : WFz nt (d + 1) (adv (zc z1 (z 30 0))) := by
                            obtain ⟨v1, v2, v3, v4, v5, v6⟩ := hw1
                            have := tk_lt ht v1 (by omega)
                            unfold WFz
                            rw [C3, C4, C 0 (by decide) (by decide), C 2 (by decide) (by decide), C 1 (by decide) (by decide), C 5 (by decide) (by decide), C 6 (by decide) (by decide)]
                            exact ⟨by omega, by omega, by omega, by omega, by omega, by omega⟩
                          have p2 := hP 0 (d + 1) (by omega) (by omega) _ hwc
                          rw [e3] at p2
                          have p2 : PSI kd pl nt _ 0 (d + 1) r2 z2 := p2
                          have k2' := hK 0 (d + 1) (by omega) (by omega) _ _ hwc e3
                          rw [C 0 (by decide) (by decide)] at k2'
                          split at e4
                          · exact (flt_r e4).elim
                          · cases e4
                            exact chp_pair p1 p2 k1 k2'
                      · obtain ⟨r, z1, e1, e2⟩ := rb_r h
                        have hwa := wf_d (wf_adv ht hw (by omega)) (show d < 20 by omega)
                        have k1 : CHP z1 (z 30 0) (z1 30 0) := hK 0 (d + 1) (by omega) (by omega) _ _ hwa e1
                        split at e2
                        · exact (flt_r e2).elim
                        · cases e2
                          exact chp_e k1 (fun c m hc => by show adv (zu z1 13 r 1) c m = z1 c m; rw [adv_n (by omega), zu_n (by omega)])
                  · rw [if_neg k6] at h
                    by_cases k7 : kd (z 30 4) = 7
                    · rw [if_pos k7] at h
                      unfold sLst at h
                      split at h
                      · exact (flt_r h).elim
                      · rename_i g0
                        obtain ⟨⟨f0, f1', f2', f3, f4, f5, f6⟩, new, -⟩ := zka_f (pl := pl) (z := z) (d := d) 7 (by decide)
                        have cn : CHP (adv (zk pl z 7 d)) (z 30 0) (z 30 0 + 1) := chp_1 ⟨new.2.2.2.2.1, new.2.1, new.2.2.1, new.2.2.2.1⟩ (by omega)
                        split at h
                        · cases h
                          show CHP (adv (adv (zk pl z 7 d))) (z 30 0) (adv (adv (zk pl z 7 d)) 30 0)
                          rw [adv_30 (by decide), f0]
                          exact chp_e cn (fun c m hc => adv_n (by omega))
                        · refine K_lpE ht (show d < 20 by omega) (hP 0 (d + 1) (by omega) (by omega)) (hK 0 (d + 1) (by omega) (by omega)) hw 242 1000 (z 30 4) _ [] q (by rw [f4]; omega) (li_new ht hw (by omega) k7) ⟨f4.symm, Or.inl k7, Nat.le_refl _⟩ (fun x h1 h2 => ?_) (by rw [f0]; exact cn) h
                          rw [f0] at h2
                          have ex : x = z 30 0 := by omega
                          subst ex
                          rw [new.2.2.2.2.2.1]
                          omega
                    · rw [if_neg k7] at h
                      exact (flt_r h).elim
end CHPALL
