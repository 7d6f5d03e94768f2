section MLEV
variable {tp : Nat → Nat} {n nt e k d oc base lt l w : Nat} {S : lm_S} {I I' I1 I2 I3 : lm_I} {L L' L1 L2 L3 : lm_L} {R : lm_R} {Q : Option Value → lm_M → Prop} {z z' zL zR : Zt} {rec : Nat → Nat → Zt → Rs}
theorem mQ.fr {c : Nat} {x : Rs} (h : mQ tp n e S R Q c d oc z I L x) (f : frP (z 30 3) (z 30 2) (d + 1) oc I I1 L L1) : mQ tp n e S R Q c d oc z I1 L1 x := by
  cases x with
  | inl t => exact mF.fr (M := t) h f.1
  | inr q =>
    unfold mQ at h ⊢
    simp only at h ⊢
    split
    · rename_i hh; rw [if_pos hh] at h; exact mF.fr (M := xp tp n (q.2 30 4)) h f.1
    · rename_i hh; rw [if_neg hh] at h
      exact fun I' L' a b => h I' L' a (f.tr b (Nat.le_refl _) (Nat.le_refl _) (Nat.le_refl _) (Nat.le_refl _))
theorem mX_c {c c2 : Nat} {r : Nat} (g : mX tp n c d oc I L z r zL) (h : lvo (xk tp n (zL 30 4)) < c2 ∨ lvo (xk tp n (zL 30 4)) = 0) (hc : 1 ≤ c) : mX tp n c2 d oc I L z r zL := by
  obtain ⟨a, ⟨b1, b2, b3, w, w1, w2, w3⟩, c, d, e⟩ := g
  exact ⟨a, ⟨b1, b2, b3, w, w1, w2, fun _ => w3 hc⟩, c, d, h⟩
theorem mQ_ok {c r : Nat} (h : mQ tp n e S R Q c d oc z I L (.inr (r, zL))) (g : mX tp n c d oc I L z r zL) (h2 : ¬ (c ≤ 2 ∧ lvo (xk tp n (zL 30 4)) = 2)) : hdQ e S R Q I L := by
  have h' : if c ≤ 2 ∧ lvo (xk tp n (zL 30 4)) = 2 then mF S R Q I L (xp tp n (zL 30 4)) else ∀ I' L', mX tp n c d oc I' L' z r zL → frP (z 30 3) (z 30 2) (d + 1) oc I I' L L' → hdQ e S R Q I' L' := h
  rw [if_neg h2] at h'
  exact h' I L g frP.rf
theorem mQ_mk {c r : Nat} (h : c ≤ 2 ∧ lvo (xk tp n (zL 30 4)) = 2 → mF S R Q I L (xp tp n (zL 30 4))) (h2 : ∀ I' L', mX tp n c d oc I' L' z r zL → frP (z 30 3) (z 30 2) (d + 1) oc I I' L L' → hdQ e S R Q I' L') : mQ tp n e S R Q c d oc z I L (.inr (r, zL)) := by
  show if c ≤ 2 ∧ lvo (xk tp n (zL 30 4)) = 2 then mF S R Q I L (xp tp n (zL 30 4)) else ∀ I' L', mX tp n c d oc I' L' z r zL → frP (z 30 3) (z 30 2) (d + 1) oc I I' L L' → hdQ e S R Q I' L'
  split
  · rename_i q; exact h q
  · exact h2
theorem mQ_dm {c r : Nat} (h : mQ tp n e S R Q c d oc z I L (.inr (r, zL))) (h2 : c ≤ 2 ∧ lvo (xk tp n (zL 30 4)) = 2) : mF S R Q I L (xp tp n (zL 30 4)) := by
  have h' : if c ≤ 2 ∧ lvo (xk tp n (zL 30 4)) = 2 then mF S R Q I L (xp tp n (zL 30 4)) else ∀ I' L', mX tp n c d oc I' L' z r zL → frP (z 30 3) (z 30 2) (d + 1) oc I I' L L' → hdQ e S R Q I' L' := h
  rw [if_pos h2] at h'
  exact h'
/-- operators to the left: && and +, ++ -/
theorem m_lpL (hS : lp_shape S) (hR : lp_refs R) (ht : tko (xk tp n) (xp tp n) nt) (hl : l = 1 ∨ l = 4) (hlt : lt < l) (hw : WFz nt d z) (hP : ∀ z, WFz nt d z → PST (xk tp n) (xp tp n) nt z (l + 1) d (rec (l + 1) d z))
    (hrec : ∀ z I L Q oc lt, WFz nt d z → lt < l + 1 → mE tp n d base oc lt I L z → mQ tp n (e + 6) S R Q (l + 1) d oc z I L (rec (l + 1) d z) → hdQ (e + 6) S R Q I L) :
    ∀ (m w : Nat) (zL : Zt) I1 L1, 243 ≤ m + zL 30 4 → PSI (xk tp n) (xp tp n) nt z l d w zL → mX tp n (l + 1) d oc I1 L1 z w zL → I1 121 d = nI base → (base ≤ oc ∧ oc ≤ zL 30 3) → tpO I1 base oc lt (z 30 3) → mQ tp n (e + 6) S R Q l d oc z I1 L1 (lpL (xk tp n) (xp tp n) rec l d m w zL) → hdQ (e + 6) S R Q I1 L1 := by
  intro m
  induction m with
  | zero =>
    intro w zL I1 L1 hm hL
    have := hL.2.1.2.1
    have := ht.1
    omega
  | succ m ih =>
    intro w zL I1 L1 hm hL g h121 hoc hT hq
    have e1 : lpL (xk tp n) (xp tp n) rec l d (m + 1) w zL = if lvo (xk tp n (zL 30 4)) ≠ l then .inr (w, zL) else if 80 ≤ zL 30 3 then flt (xp tp n) zL else rb (rec (l + 1) d (adv (zk (xp tp n) zL (xk tp n (zL 30 4)) d))) fun r z1 => lpL (xk tp n) (xp tp n) rec l d m (zL 30 0) (zlk (zlk z1 1 (zL 30 0) w) 2 (zL 30 0) r) := rfl
    rw [e1] at hq
    have lv := g.2.2.2.2
    by_cases hv : lvo (xk tp n (zL 30 4)) ≠ l
    · rw [if_pos hv] at hq
      exact mQ_ok hq (mX_c g (by omega) (by omega)) (by omega)
    · have hv : lvo (xk tp n (zL 30 4)) = l := Classical.not_not.mp hv
      rw [if_neg (fun q => q hv)] at hq
      have w3 := hL.1.1.2.2.1
      refine m_bin (cR := l + 1) (c1 := l + 1) (k := xk tp n (zL 30 4)) hS hR ht hw hL g (by omega) rfl hv (by omega) h121 hoc (tpO_fr (I' := I1) (L := L1) (L' := L1) (B := 0) (op := 0) hT frP.rf (Nat.le_refl _) w3) (Or.inl hlt) (by omega) (rec (l + 1) d) (fun z h _ => hP z h) (fun z I L Q oc h _ me mq => hrec z I L Q oc l h (by omega) me mq) (fun h => ?_) (fun t h hx => ?_) (fun r zR h hx hc h2 => ?_) (fun kR h _ => by omega) (fun r zR I3 L3 h hx mx hv2 f => ?_)
      · rw [if_pos h] at hq
        exact hq
      · rw [if_neg (by omega), hx] at hq
        exact hq
      · rw [if_neg (by omega), hx] at hq
        have hwA := wf_k (k := xk tp n (zL 30 4)) ht (wf_psi hw hL) h (by have := lvo_k (show lvo (xk tp n (zL 30 4)) ≠ 0 by omega); omega) (by have := lvo_k (show lvo (xk tp n (zL 30 4)) ≠ 0 by omega); omega)
        have hr0 := hP _ hwA
        rw [hx] at hr0
        have hr0 : PSI (xk tp n) (xp tp n) nt _ (l + 1) d r zR := hr0
        have p1 := hr0.2.1.1
        have p2 := hr0.2.1.2.1
        rw [(zka_f (pl := xp tp n) (z := zL) (d := d) (xk tp n (zL 30 4)) (by have := lvo_k (show lvo (xk tp n (zL 30 4)) ≠ 0 by omega); omega)).1.2.2.2.2.1] at p1
        have := ht.1
        obtain ⟨m', rfl⟩ : ∃ m', m = m' + 1 := ⟨m - 1, by omega⟩
        have e2 : (rb (.inr (r, zR)) fun r z1 => lpL (xk tp n) (xp tp n) rec l d (m' + 1) (zL 30 0) (zlk (zlk z1 1 (zL 30 0) w) 2 (zL 30 0) r)) = (.inr (zL 30 0, zlk (zlk zR 1 (zL 30 0) w) 2 (zL 30 0) r) : Rs) := by
          show lpL (xk tp n) (xp tp n) rec l d (m' + 1) (zL 30 0) (zlk (zlk zR 1 (zL 30 0) w) 2 (zL 30 0) r) = _
          refine if_pos ?_
          show lvo (xk tp n (zR 30 4)) ≠ l
          omega
        rw [e2] at hq
        exact mQ_dm (c := l) (zL := zlk (zlk zR 1 (zL 30 0) w) 2 (zL 30 0) r) hq ⟨by omega, h2⟩
      · rw [if_neg (by omega), hx] at hq
        have hk3 : xk tp n (zL 30 4) ≠ 3 ∧ xk tp n (zL 30 4) ≠ 22 := by have := lvo_k (show lvo (xk tp n (zL 30 4)) ≠ 0 by omega); omega
        have hwA := wf_k (k := xk tp n (zL 30 4)) ht (wf_psi hw hL) h hk3.1 hk3.2
        have hr0 := hP _ hwA
        rw [hx] at hr0
        have hr0 : PSI (xk tp n) (xp tp n) nt _ (l + 1) d r zR := hr0
        have p1 := hr0.2.1.1
        rw [(zka_f (pl := xp tp n) (z := zL) (d := d) (xk tp n (zL 30 4)) hk3.1).1.2.2.2.2.1] at p1
        have w3R := hr0.1.1.2.2.1
        rw [(zka_f (pl := xp tp n) (z := zL) (d := d) (xk tp n (zL 30 4)) hk3.1).1.2.2.2.1] at w3R
        refine ih (zL 30 0) _ I3 L3 (by show 243 ≤ m + zR 30 4; omega) (psi_bin hw hL hv (by omega) (by omega) hr0 (Or.inl (by omega))) mx (by rw [f.2.2.1.2.2.1 121 d (by decide) (by decide) (by omega)]; exact h121) ⟨hoc.1, by show oc ≤ zR 30 3; omega⟩ (tpO_fr hT f (Nat.le_refl _) (Nat.le_refl _)) (mQ.fr hq f)
/-- tests -/
theorem m_tst (hS : lp_shape S) (hR : lp_refs R) (ht : tko (xk tp n) (xp tp n) nt) (hlt : lt < 2) (hw : WFz nt d z) (hP : ∀ z, WFz nt d z → PST (xk tp n) (xp tp n) nt z 3 d (rec 3 d z))
    (hrec : ∀ z I L Q oc lt, WFz nt d z → lt < 3 → mE tp n d base oc lt I L z → mQ tp n (e + 6) S R Q 3 d oc z I L (rec 3 d z) → hdQ (e + 6) S R Q I L) (g : mE tp n d base oc lt I L z) (hq : mQ tp n (e + 6) S R Q 2 d oc z I L (sTst (xk tp n) (xp tp n) rec d z)) : hdQ (e + 6) S R Q I L := by
  have h0 := hP z hw
  refine hrec z I L Q oc lt hw (by omega) g ?_
  unfold sTst at hq
  cases hx : rec 3 d z with
  | inl t => rw [hx] at hq; exact hq
  | inr q =>
    obtain ⟨w, zL⟩ := q
    rw [hx] at hq h0
    have h0 : PSI (xk tp n) (xp tp n) nt z 3 d w zL := h0
    have hL : PSI (xk tp n) (xp tp n) nt z 2 d w zL := ⟨h0.1, h0.2.1, h0.2.2.1, h0.2.2.2.1, h0.2.2.2.2.1, ⟨by have := h0.2.2.2.2.2.1.1; omega, h0.2.2.2.2.2.1.2⟩, fun s => by omega, h0.2.2.2.2.2.2.2⟩
    replace hq : mQ tp n (e + 6) S R Q 2 d oc z I L (if lvo (xk tp n (zL 30 4)) ≠ 2 then .inr (w, zL) else if 80 ≤ zL 30 3 then flt (xp tp n) zL else rb (rec 3 d (adv (zk (xp tp n) zL (xk tp n (zL 30 4)) d))) fun r z1 => .inr (zL 30 0, zlk (zlk z1 1 (zL 30 0) w) 2 (zL 30 0) r)) := hq
    refine mQ_mk (fun q => by omega) ?_
    intro I1 L1 g1 f1
    replace hq := hq.fr f1
    have lv := g1.2.2.2.2
    have g1 : mX tp n 3 d oc I1 L1 z w zL := g1
    by_cases hv : lvo (xk tp n (zL 30 4)) ≠ 2
    · rw [if_pos hv] at hq
      have lv : lvo (xk tp n (zL 30 4)) < 3 ∨ lvo (xk tp n (zL 30 4)) = 0 := lv
      exact mQ_ok hq (mX_c g1 (by omega) (by omega)) (by omega)
    · have hv : lvo (xk tp n (zL 30 4)) = 2 := Classical.not_not.mp hv
      rw [if_neg (fun q => q hv)] at hq
      have w3 := hL.1.1.2.2.1
      obtain ⟨-, ⟨-, -, -, h121⟩, ⟨o1, o2, hT⟩, -⟩ := g
      have h121' : I1 121 d = nI base := by rw [f1.2.2.1.2.2.1 121 d (by decide) (by decide) (by omega)]; exact h121
      refine m_bin (cR := 3) (c1 := 3) (k := xk tp n (zL 30 4)) hS hR ht hw hL g1 (by omega) rfl hv (by omega) h121' ⟨o1, by omega⟩ (tpO_fr hT f1 (Nat.le_refl _) w3) (Or.inl hlt) (by omega) (rec 3 d) (fun z h _ => hP z h) (fun z I L Q oc h _ me mq => hrec z I L Q oc 2 h (by omega) me mq) (fun h => ?_) (fun t h hx => ?_) (fun r zR h hx hc h2 => ?_) (fun kR h _ => by omega) (fun r zR I3 L3 h hx mx hv2 f => ?_)
      · rw [if_pos h] at hq
        exact hq
      · rw [if_neg (by omega), hx] at hq
        exact hq
      · rw [if_neg (by omega), hx] at hq
        exact mQ_dm (c := 2) (zL := zlk (zlk zR 1 (zL 30 0) w) 2 (zL 30 0) r) hq ⟨by omega, h2⟩
      · rw [if_neg (by omega), hx] at hq
        have hv2 : lvo (xk tp n (zR 30 4)) < 2 ∨ (lvo (xk tp n (zR 30 4)) = 2 ∧ (2 = 1 ∨ 2 = 4)) := hv2
        exact mQ_ok (mQ.fr hq f) (mX_c mx (Or.inl (by show lvo (xk tp n (zR 30 4)) < 2; omega)) (by omega)) (fun q => by have : lvo (xk tp n (zR 30 4)) = 2 := q.2; omega)
/-- a row -/
theorem m_row (hS : lp_shape S) (hR : lp_refs R) (ht : tko (xk tp n) (xp tp n) nt) (hP : ∀ z, WFz nt d z → PST (xk tp n) (xp tp n) nt z 4 d (rec 4 d z))
    (hrec : ∀ z I L Q oc lt, WFz nt d z → lt < 4 → mE tp n d base oc lt I L z → mQ tp n (e + 6) S R Q 4 d oc z I L (rec 4 d z) → hdQ (e + 6) S R Q I L) : ∀ (m : Nat) (z : Zt) (lt oc : Nat) I L Q, lt ≤ 3 → nt < m + z 30 4 → WFz nt d z → mE tp n d base oc lt I L z → mQ tp n (e + 6) S R Q 3 d oc z I L (rwL (xk tp n) (xp tp n) rec d m z) → hdQ (e + 6) S R Q I L := by
  intro m
  induction m with
  | zero => intro z lt oc I L Q hlt hm hw; have := hw.1; omega
  | succ m ih =>
    intro z lt oc I L Q hlt hm hw g hq
    have h0 := hP z hw
    refine hrec z I L Q oc lt hw (by omega) g ?_
    unfold rwL at hq
    cases hx : rec 4 d z with
    | inl t => rw [hx] at hq; exact hq
    | inr q =>
      obtain ⟨w, zL⟩ := q
      rw [hx] at hq h0
      have h0 : PSI (xk tp n) (xp tp n) nt z 4 d w zL := h0
      have hL : PSI (xk tp n) (xp tp n) nt z 3 d w zL := ⟨h0.1, h0.2.1, h0.2.2.1, h0.2.2.2.1, h0.2.2.2.2.1, ⟨by have := h0.2.2.2.2.2.1.1; omega, h0.2.2.2.2.2.1.2⟩, fun s => by omega, h0.2.2.2.2.2.2.2⟩
      replace hq : mQ tp n (e + 6) S R Q 3 d oc z I L (if xk tp n (zL 30 4) ≠ 11 then .inr (w, zL) else if 80 ≤ zL 30 3 then flt (xp tp n) zL else rb (rwL (xk tp n) (xp tp n) rec d m (adv (zk (xp tp n) zL 11 d))) fun r z1 => .inr (zL 30 0, zlk (zlk z1 1 (zL 30 0) w) 2 (zL 30 0) r)) := hq
      refine mQ_mk (fun q => by omega) ?_
      intro I1 L1 g1 f1
      replace hq := hq.fr f1
      have lv := g1.2.2.2.2
      have g1 : mX tp n 4 d oc I1 L1 z w zL := g1
      have it := h0.2.1.1
      by_cases hv : xk tp n (zL 30 4) ≠ 11
      · rw [if_pos hv] at hq
        have lv : lvo (xk tp n (zL 30 4)) < 4 ∨ lvo (xk tp n (zL 30 4)) = 0 := lv
        have l3 : lvo (xk tp n (zL 30 4)) ≠ 3 := fun q => by
          unfold lvo at q
          repeat' split at q
          all_goals omega
        exact mQ_ok hq (mX_c g1 (by omega) (by omega)) (by omega)
      · have k11 : xk tp n (zL 30 4) = 11 := Classical.not_not.mp hv
        have hv : lvo 11 = 3 := rfl
        rw [if_neg (fun q => q k11)] at hq
        have w3 := hL.1.1.2.2.1
        obtain ⟨-, ⟨-, -, -, h121⟩, ⟨o1, o2, hT⟩, -⟩ := g
        have h121' : I1 121 d = nI base := by rw [f1.2.2.1.2.2.1 121 d (by decide) (by decide) (by omega)]; exact h121
        refine m_bin (cR := 3) (c1 := 4) (k := 11) hS hR ht hw hL g1 (by omega) k11 hv (by omega) h121' ⟨o1, by omega⟩ (tpO_fr hT f1 (Nat.le_refl _) w3) (by omega) (by omega) (rwL (xk tp n) (xp tp n) rec d m) (fun z h h4 => P_row ht hP m z h (by omega)) (fun z I L Q oc h h4 me mq => ih z 3 oc I L Q (by omega) (by omega) h me mq) (fun h => ?_) (fun t h hx => ?_) (fun r zR h hx hc h2 => ?_) (fun kR h _ => by omega) (fun r zR I3 L3 h hx mx hv2 f => ?_)
        · rw [if_pos h] at hq
          exact hq
        · rw [if_neg (by omega), hx] at hq
          exact hq
        · omega
        · rw [if_neg (by omega), hx] at hq
          have hv2 : lvo (xk tp n (zR 30 4)) < 3 ∨ (lvo (xk tp n (zR 30 4)) = 3 ∧ (3 = 1 ∨ 3 = 4)) := hv2
          exact mQ_ok (mQ.fr hq f) (mX_c mx (Or.inl (by show lvo (xk tp n (zR 30 4)) < 3; omega)) (by omega)) (by omega)
end MLEV
