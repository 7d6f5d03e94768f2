section MALL
variable {tp : Nat → Nat} {n nt e : Nat} {pr : Nat → Bool} {S : lm_S} {R : lm_R}
theorem psi_up {kd pl : Nat → Nat} {z z' : Zt} {c1 c2 d r : Nat} (h : PSI kd pl nt z c2 d r z') (h1 : c1 ≤ c2) (h2 : c1 ≠ 6) : PSI kd pl nt z c1 d r z' := by
  obtain ⟨a1, a2, a3, a4, a5, a6, a7, a8⟩ := h
  exact ⟨a1, a2, a3, a4, a5, ⟨by omega, a6.2⟩, fun s => absurd s h2, a8⟩
theorem ps_fl {kd pl : Nat → Nat} {f d : Nat} {z : Zt} (h : bga (kd (z 30 4)) = false ∨ (6 ≤ kd (z 30 4) ∧ d = 20)) : ps kd pl pr (f + 1) 6 d z = flt pl z := by
  unfold ps
  rw [if_neg (by decide), if_neg (by decide), if_neg (by decide), if_neg (by decide), if_neg (by decide), if_neg (by decide)]
  unfold sA
  rcases h with h | ⟨h, rfl⟩
  · have := bga_n.mp h
    rw [if_neg (by omega), if_neg (by omega), if_neg (by omega)]
  · rw [if_neg (by omega)]
    by_cases h6 : kd (z 30 4) = 6
    · rw [if_pos h6]
      unfold sGrp
      rw [if_pos (by decide)]
    · rw [if_neg h6]
      by_cases h7 : kd (z 30 4) = 7
      · rw [if_pos h7]
        unfold sLst
        rw [if_pos (Or.inl (by decide))]
      · rw [if_neg h7]
/-- the reference's parser follows the grammar -/
theorem M_all (hS : lp_shape S) (hR : lp_refs R) (ht : tko (xk tp n) (xp tp n) nt) (hpr : ∀ i, i ≤ nt → (pr i = true ↔ prP (xk tp n) (nt + 1) i)) : ∀ (f : Nat),
    (∀ (d oc : Nat) (z : Zt) (I : lm_I) (L : lm_L) (Q : Option Value → lm_M → Prop), 7 * (20 - d) + 8 ≤ f → WFz nt d z → mE0 tp n d oc I L z → mQ tp n (e + 6) S R Q 0 d oc z I L (ps (xk tp n) (xp tp n) pr f 0 d z) → hdQ (e + 6) S R Q I L) ∧
    (∀ (c d base oc lt : Nat) (z : Zt) (I : lm_I) (L : lm_L) (Q : Option Value → lm_M → Prop), 1 ≤ c → c ≤ 5 → 7 * (20 - d) + 8 ≤ f + c → WFz nt d z → (lt < c ∨ (c = 3 ∧ lt ≤ 3)) → mE tp n d base oc lt I L z → mQ tp n (e + 6) S R Q c d oc z I L (ps (xk tp n) (xp tp n) pr f c d z) → hdQ (e + 6) S R Q I L) ∧
    (∀ (d oc cb e1 : Nat) (z : Zt) (I : lm_I) (L : lm_L) (Q K : Option Value → lm_M → Prop), 7 * (20 - d) + 8 ≤ f + 6 → WFz nt d z → mA tp n d oc cb I L z → kA (e + 6) S R Q K → mQA tp n (e + 6) S R Q d oc cb z I L (ps (xk tp n) (xp tp n) pr f 6 d z) → lw (e1 + 4) 165 (lm_J 165 39) [.ref 96, .null] [] (S, I, L, R) (fun v M' => lm_rok 2 v = true ∧ K v M')) := by
  intro f
  induction f with
  | zero =>
    refine ⟨fun d oc z I L Q hf => by omega, fun c d base oc lt z I L Q c1 c2 hf => by omega, fun d oc cb e1 z I L Q K hf => by omega⟩
  | succ f ih =>
    obtain ⟨ih0, ihc, iha⟩ := ih
    have nt240 := ht.1
    have hP : ∀ c' d', c' ≤ 6 → 7 * (20 - d') + 8 ≤ f + c' → ∀ z, WFz nt d' z → PST (xk tp n) (xp tp n) nt z c' d' (ps (xk tp n) (xp tp n) pr f c' d' z) := fun c' d' h1 h2 z h3 => P_all ht f c' d' z h1 h2 h3
    refine ⟨fun d oc z I L Q hf hw g hq => ?_, fun c d base oc lt z I L Q c1 c2 hf hw hlt g hq => ?_, fun d oc cb e1 z I L Q K hf hw g hka hq => ?_⟩
    · unfold ps at hq
      rw [if_pos rfl] at hq
      unfold sE at hq
      by_cases h4 : xk tp n (z 30 4) = 4
      · rw [if_pos h4] at hq
        exact m_lam hS hR ht hw g h4 (fun hd => hP 0 (d + 1) (by omega) (by omega)) (fun hd z I L Q oc a b c => ih0 (d + 1) oc z I L Q (by omega) a b c) hq
      · rw [if_neg h4] at hq
        by_cases h5 : xk tp n (z 30 4) = 5
        · rw [if_pos h5] at hq
          exact m_if hS hR ht hw g h5 (fun hd => hP 0 (d + 1) (by omega) (by omega)) (fun hd z I L Q oc a b c => ih0 (d + 1) oc z I L Q (by omega) a b c) hq
        · rw [if_neg h5] at hq
          obtain ⟨g1, g2, g3, g4⟩ := g
          refine ihc 1 d oc oc 0 z I L Q (by omega) (by omega) (by omega) hw (Or.inl (by omega)) ⟨g1, g2, ⟨Nat.le_refl _, g3, Or.inl ⟨rfl, rfl⟩⟩, 1, Nat.le_refl _, g4, Or.inr ⟨h4, h5⟩⟩ ?_
          cases hx : ps (xk tp n) (xp tp n) pr f 1 d z with
          | inl t => rw [hx] at hq; exact hq
          | inr q =>
            obtain ⟨r, z1⟩ := q
            rw [hx] at hq
            refine mQ_mk (fun h => mQ_dm hq ⟨by decide, h.2⟩) (fun I' L' mx fr => ?_)
            have hv : lvo (xk tp n (z1 30 4)) = 0 := by have := mx.2.2.2.2; omega
            exact mQ_ok (mQ.fr hq fr) (mX_c mx (Or.inr hv) (Nat.le_refl _)) (fun h => by omega)
    · have hLv : ∀ l, (l = 1 ∨ l = 4) → lt < l → 7 * (20 - d) + 8 ≤ f + (l + 1) → mQ tp n (e + 6) S R Q l d oc z I L (rb (ps (xk tp n) (xp tp n) pr f (l + 1) d z) (lpL (xk tp n) (xp tp n) (ps (xk tp n) (xp tp n) pr f) l d 242)) → hdQ (e + 6) S R Q I L := fun l hl hlt hfl hq => by
        have h0 := hP (l + 1) d (by omega) hfl z hw
        refine ihc (l + 1) d base oc lt z I L Q (by omega) (by omega) hfl hw (Or.inl (by omega)) g ?_
        cases hx : ps (xk tp n) (xp tp n) pr f (l + 1) d z with
        | inl t => rw [hx] at hq; exact hq
        | inr q =>
          obtain ⟨w, zL⟩ := q
          rw [hx] at hq h0
          have h0 : PSI (xk tp n) (xp tp n) nt z (l + 1) d w zL := h0
          replace hq : mQ tp n (e + 6) S R Q l d oc z I L (lpL (xk tp n) (xp tp n) (ps (xk tp n) (xp tp n) pr f) l d 242 w zL) := hq
          have w3 := h0.1.1.2.2.1
          refine mQ_mk (fun h => ?_) (fun I' L' mx fr => ?_)
          · have e1 : lpL (xk tp n) (xp tp n) (ps (xk tp n) (xp tp n) pr f) l d 242 w zL = .inr (w, zL) := by
              unfold lpL
              rw [if_pos (by omega)]
            rw [e1] at hq
            exact mQ_dm hq ⟨by omega, h.2⟩
          · exact m_lpL (lt := lt) (base := base) hS hR ht hl hlt hw (hP (l + 1) d (by omega) hfl) (fun z I L Q oc lt a b c dd => ihc (l + 1) d base oc lt z I L Q (by omega) (by omega) hfl a (Or.inl b) c dd) 242 w zL I' L' (by have := h0.2.1.1; omega) (psi_up h0 (by omega) (by omega)) mx (by rw [fr.2.2.1.2.2.1 121 d (by decide) (by decide) (by omega)]; exact g.2.1.2.2.2) ⟨g.2.2.1.1, by have := g.2.2.1.2.1; omega⟩ (tpO_fr g.2.2.1.2.2 fr (Nat.le_refl _) (Nat.le_refl _)) (mQ.fr hq fr)
      unfold ps at hq
      rw [if_neg (by omega)] at hq
      by_cases e1 : c = 1
      · subst e1
        rw [if_pos rfl] at hq
        exact hLv 1 (Or.inl rfl) (by omega) (by omega) hq
      · rw [if_neg e1] at hq
        by_cases e2 : c = 2
        · subst e2
          rw [if_pos rfl] at hq
          exact m_tst hS hR ht (by omega) hw (hP 3 d (by omega) (by omega)) (fun z I L Q oc lt a b c dd => ihc 3 d base oc lt z I L Q (by omega) (by omega) (by omega) a (Or.inl b) c dd) g hq
        · rw [if_neg e2] at hq
          by_cases e3 : c = 3
          · subst e3
            rw [if_pos rfl] at hq
            exact m_row hS hR ht (hP 4 d (by omega) (by omega)) (fun z I L Q oc lt a b c dd => ihc 4 d base oc lt z I L Q (by omega) (by omega) (by omega) a (Or.inl b) c dd) 243 z lt oc I L Q (by omega) (by omega) hw g hq
          · rw [if_neg e3] at hq
            by_cases e4 : c = 4
            · subst e4
              rw [if_pos rfl] at hq
              exact hLv 4 (Or.inr rfl) (by omega) (by omega) hq
            · rw [if_neg e4] at hq
              have e5 : c = 5 := by omega
              subst e5
              rw [if_pos rfl] at hq
              refine m_call hS hR ht hw (hP 6 d (by omega) (by omega)) (fun z h => ?_) (fun z I L Q oc cb e1 K a b c dd => iha d oc cb e1 z I L Q K (by omega) a b c dd) g hq
              obtain ⟨f', rfl⟩ : ∃ f', f = f' + 1 := ⟨f - 1, by omega⟩
              exact ps_fl h
    · have hb := g.2.2.2.2.1
      have hd6 := g.2.2.2.2.2
      rw [bga_e] at hb
      have v1 := hw.1
      unfold ps at hq
      rw [if_neg (by decide), if_neg (by decide), if_neg (by decide), if_neg (by decide), if_neg (by decide), if_neg (by decide)] at hq
      unfold sA at hq
      by_cases h2 : xk tp n (z 30 4) ≤ 2
      · rw [if_pos h2] at hq
        exact m_leaf hS hR ht hw g h2 hka hq
      · rw [if_neg h2] at hq
        have hd := hd6 (by omega)
        have P0 := hP 0 (d + 1) (by omega) (by omega)
        have H0 : ∀ z I L Q oc, WFz nt (d + 1) z → mE0 tp n (d + 1) oc I L z → mQ tp n (e + 6) S R Q 0 (d + 1) oc z I L (ps (xk tp n) (xp tp n) pr f 0 (d + 1) z) → hdQ (e + 6) S R Q I L := fun z I L Q oc a b c => ih0 (d + 1) oc z I L Q (by omega) a b c
        by_cases h6 : xk tp n (z 30 4) = 6
        · rw [if_pos h6] at hq
          unfold sGrp at hq
          rw [if_neg (by omega)] at hq
          by_cases hpi : pr (z 30 4) = true
          · rw [if_pos hpi] at hq
            refine m_pair hS hR ht hw g h6 hka hd P0 (fun r z1 hx h17 => ?_) H0 hq
            obtain ⟨⟨f0, f1', f2, f3', f4, f5, f6z⟩, -⟩ := zp_f (pl := xp tp n) (z := z) (d := d)
            have hwa : WFz nt (d + 1) (adv (zp (xp tp n) z d)) := by
              obtain ⟨v1, v2, v3, v4, v5, v6⟩ := hw
              have := tk_lt ht v1 (by omega)
              exact ⟨by omega, by omega, by omega, by omega, by omega, by omega⟩
            have h0 := P0 _ hwa
            rw [hx] at h0
            have h0 : PSI (xk tp n) (xp tp n) nt (adv (zp (xp tp n) z d)) 0 (d + 1) r z1 := h0
            have bl := h0.2.2.2.2.2.2.2.1
            rw [f4] at bl
            have := h0.2.1.1
            exact pr_f (m := nt + 1) (Or.inl h6) bl (by omega) (Or.inl h17) ((hpr _ v1).mp hpi)
          · rw [if_neg hpi] at hq
            refine m_paren hS hR ht hw g h6 hka hd P0 (fun r z1 hx h19 => ?_) H0 hq
            have h0 := P0 _ (wf_d (wf_adv ht hw (by omega)) hd)
            rw [hx] at h0
            have h0 : PSI (xk tp n) (xp tp n) nt (adv z) 0 (d + 1) r z1 := h0
            have bl := h0.2.2.2.2.2.2.2.1
            rw [adv_4] at bl
            have := h0.2.1.2.1
            exact hpi ((hpr _ v1).mpr (pr_t (Or.inl h6) bl h19 (by omega)))
        · rw [if_neg h6] at hq
          have h7 : xk tp n (z 30 4) = 7 := by omega
          rw [if_pos h7] at hq
          exact m_list hS hR ht hw g h7 hka hd P0 H0 hq
end MALL
