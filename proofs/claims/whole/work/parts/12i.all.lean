section RUN
variable {kd pl : Nat → Nat} {pr : Nat → Bool} {nt : Nat} {rec : Nat → Nat → Zt → Rs} {f : Nat}
theorem flt_le {z : Zt} {c d : Nat} {z0 : Zt} (ht : tko kd pl nt) : PST kd pl nt z0 c d (flt pl z) := (ht.2.2.2 _).2
theorem wf_psi {z z' : Zt} {c d r : Nat} (hw : WFz nt d z) (h : PSI kd pl nt z c d r z') : WFz nt d z' := by
  obtain ⟨v1, v2, v3, v4, v5, v6⟩ := hw
  obtain ⟨w, ⟨p1, p2, p3, p4, p5, p6, p7, p8⟩, -⟩ := h
  obtain ⟨⟨a1, a2, a3, a4, a5⟩, -⟩ := w
  exact ⟨p2, p4, by omega, v4, ⟨by omega, by omega, by omega, by omega⟩, by omega⟩
theorem wf_k {z : Zt} {k d : Nat} (ht : tko kd pl nt) (hw : WFz nt d z) (hm : z 30 3 < 80) (hk : k ≠ 3) (h22 : kd (z 30 4) ≠ 22) : WFz nt d (adv (zk pl z k d)) := by
  obtain ⟨v1, v2, v3, v4, v5, v6⟩ := hw
  obtain ⟨⟨f0, f1, f2, f3, f4, f5, f6⟩, -⟩ := zka_f (pl := pl) (z := z) (d := d) k hk
  have := tk_lt ht v1 h22
  exact ⟨by omega, by omega, by omega, v4, by omega, by omega⟩
theorem wf_d {z : Zt} {d : Nat} (hw : WFz nt d z) (hd : d < 20) : WFz nt (d + 1) z := by
  obtain ⟨v1, v2, v3, v4, v5, v6⟩ := hw
  exact ⟨v1, v2, by omega, by omega, v5, v6⟩
theorem wf_adv {z : Zt} {d : Nat} (ht : tko kd pl nt) (hw : WFz nt d z) (h22 : kd (z 30 4) ≠ 22) : WFz nt d (adv z) := by
  obtain ⟨v1, v2, v3, v4, v5, v6⟩ := hw
  have := tk_lt ht v1 h22
  unfold WFz
  rw [adv_4, adv_30 (by decide), adv_30 (by decide), adv_30 (by decide), adv_30 (by decide), adv_30 (by decide), adv_30 (by decide)]
  exact ⟨by omega, v2, v3, v4, v5, v6⟩
/-- a sign between two parts -/
theorem psi_bin {z zL zR : Zt} {l d w r cR : Nat} (hw : WFz nt d z) (hL : PSI kd pl nt z l d w zL) (hl : lvo (kd (zL 30 4)) = l) (h1 : 1 ≤ l) (hl3 : l = 3 → 8 * d + 4 ≤ zL 15 w) (hR : PSI kd pl nt (adv (zk pl zL (kd (zL 30 4)) d)) cR d r zR) (hcR : l < cR ∨ (l = 3 ∧ cR = 3)) : PSI kd pl nt z l d (zL 30 0) (zlk (zlk zR 1 (zL 30 0) w) 2 (zL 30 0) r) := by
  have hk := lvo_k (k := kd (zL 30 4)) (by omega)
  have hl4 : l ≤ 4 := by
    rw [← hl]
    unfold lvo
    repeat' split
    all_goals omega
  obtain ⟨⟨a1, a2, a3, a4, a5, a6⟩, b1, ⟨c0, c1, c2, c3, c4, c5, c6, c7, c8⟩, -⟩ := asm_bin hw hL (Or.inr ⟨rfl, hk.1, hk.2, rfl, hl⟩) hl3 hR hcR (fun s => by omega)
  refine ⟨a1, a2, a3, fun n n1 n2 => ?_, a4, ⟨by rw [a5.1]; exact Nat.le_refl _, a5.2⟩, fun s => by omega, a6⟩
  by_cases s : n = zL 30 0
  · subst s
    unfold chq
    rw [c0, c1, c2, c3]
    refine ⟨by rw [if_pos (by omega)]; omega, by rw [if_pos (by omega)]; omega, by rw [if_neg (by omega)], fun s => by omega⟩
  · exact b1 n n1 n2 s
theorem P_lpL (ht : tko kd pl nt) {l d : Nat} (hl : l = 1 ∨ l = 4) (hrec : ∀ z, WFz nt d z → PST kd pl nt z (l + 1) d (rec (l + 1) d z)) {z : Zt} (hw : WFz nt d z) : ∀ (m w : Nat) (zL : Zt), PSI kd pl nt z l d w zL → PST kd pl nt z l d (lpL kd pl rec l d m w zL) := by
  intro m
  induction m with
  | zero => intro w zL h; exact h
  | succ m ih =>
    intro w zL h
    unfold lpL
    split
    · exact h
    · rename_i h1
      split
      · exact flt_le ht
      · rename_i h2
        have h1 : lvo (kd (zL 30 4)) = l := Classical.not_not.mp h1
        have hk := lvo_k (k := kd (zL 30 4)) (by omega)
        have hr := hrec _ (wf_k (k := kd (zL 30 4)) ht (wf_psi hw h) (by omega) (by omega) (by omega))
        cases hx : rec (l + 1) d (adv (zk pl zL (kd (zL 30 4)) d)) with
        | inl t => rw [hx] at hr; exact hr
        | inr q =>
          rw [hx] at hr
          exact ih _ _ (psi_bin hw h h1 (by omega) (by omega) hr (by omega))
theorem P_tst (ht : tko kd pl nt) {d : Nat} (hrec : ∀ z, WFz nt d z → PST kd pl nt z 3 d (rec 3 d z)) {z : Zt} (hw : WFz nt d z) : PST kd pl nt z 2 d (sTst kd pl rec d z) := by
  unfold sTst
  have h0 := hrec z hw
  cases hx : rec 3 d z with
  | inl t => rw [hx] at h0; exact h0
  | inr q =>
    rw [hx] at h0
    obtain ⟨w, zL⟩ := q
    have h0 : PSI kd pl nt z 3 d w zL := h0
    have h2 : PSI kd pl nt z 2 d w zL := ⟨h0.1, h0.2.1, h0.2.2.1, h0.2.2.2.1, h0.2.2.2.2.1, ⟨by have := h0.2.2.2.2.2.1.1; omega, h0.2.2.2.2.2.1.2⟩, fun s => by omega, h0.2.2.2.2.2.2.2⟩
    show PST kd pl nt z 2 d (if lvo (kd (zL 30 4)) ≠ 2 then .inr (w, zL) else if 80 ≤ zL 30 3 then flt pl zL else rb (rec 3 d (adv (zk pl zL (kd (zL 30 4)) d))) fun r z1 => .inr (zL 30 0, zlk (zlk z1 1 (zL 30 0) w) 2 (zL 30 0) r))
    split
    · exact h2
    · rename_i h1
      split
      · exact flt_le ht
      · rename_i h3
        have h1 : lvo (kd (zL 30 4)) = 2 := Classical.not_not.mp h1
        have hk := lvo_k (k := kd (zL 30 4)) (by omega)
        have hr := hrec _ (wf_k (k := kd (zL 30 4)) ht (wf_psi hw h0) (by omega) (by omega) (by omega))
        cases hy : rec 3 d (adv (zk pl zL (kd (zL 30 4)) d)) with
        | inl t => rw [hy] at hr; exact hr
        | inr q => rw [hy] at hr; exact psi_bin hw h2 h1 (by omega) (by omega) hr (by omega)
theorem P_row (ht : tko kd pl nt) {d : Nat} (hrec : ∀ z, WFz nt d z → PST kd pl nt z 4 d (rec 4 d z)) : ∀ (m : Nat) (z : Zt), WFz nt d z → nt < m + z 30 4 → PST kd pl nt z 3 d (rwL kd pl rec d m z) := by
  intro m
  induction m with
  | zero => intro z hw hm; have := hw.1; omega
  | succ m ih =>
    intro z hw hm
    unfold rwL
    have h0 := hrec z hw
    cases hx : rec 4 d z with
    | inl t => rw [hx] at h0; exact h0
    | inr q =>
      rw [hx] at h0
      obtain ⟨w, zL⟩ := q
      have h0 : PSI kd pl nt z 4 d w zL := h0
      have h2 : PSI kd pl nt z 3 d w zL := ⟨h0.1, h0.2.1, h0.2.2.1, h0.2.2.2.1, h0.2.2.2.2.1, ⟨by have := h0.2.2.2.2.2.1.1; omega, h0.2.2.2.2.2.1.2⟩, fun s => by omega, h0.2.2.2.2.2.2.2⟩
      show PST kd pl nt z 3 d (if kd (zL 30 4) ≠ 11 then .inr (w, zL) else if 80 ≤ zL 30 3 then flt pl zL else rb (rwL kd pl rec d m (adv (zk pl zL 11 d))) fun r z1 => .inr (zL 30 0, zlk (zlk z1 1 (zL 30 0) w) 2 (zL 30 0) r))
      split
      · exact h2
      · rename_i h1
        split
        · exact flt_le ht
        · rename_i h3
          have h1 : kd (zL 30 4) = 11 := Classical.not_not.mp h1
          have hi := h0.2.1.1
          have hr := ih _ (wf_k (k := 11) ht (wf_psi hw h0) (by omega) (by omega) (by omega)) (by
            have := (zka_f (pl := pl) (z := zL) (d := d) 11 (by decide)).1.2.2.2.2.1
            omega)
          cases hy : rwL kd pl rec d m (adv (zk pl zL 11 d)) with
          | inl t => rw [hy] at hr; exact hr
          | inr q =>
            rw [hy] at hr
            have hr : PSI kd pl nt (adv (zk pl zL 11 d)) 3 d q.1 q.2 := hr
            rw [← h1] at hr
            exact psi_bin hw h2 (by rw [h1]; rfl) (by omega) (fun _ => h0.2.2.2.2.2.1.1) hr (Or.inr ⟨rfl, rfl⟩)
/-- a call -/
theorem psi_call {z zL zR : Zt} {d w r : Nat} (hw : WFz nt d z) (hL : PSI kd pl nt z 5 d w zL) (hb : bga (kd (zL 30 4)) = true) (hR : PSI kd pl nt (zk pl zL 3 d) 6 d r zR) : PSI kd pl nt z 5 d (zL 30 0) (zu (zlk (zlk zR 1 (zL 30 0) w) 2 (zL 30 0) r) 12 (zL 30 0) (zR 30 0 - 1)) := by
  obtain ⟨⟨a1, a2, a3, a4, a5, a6⟩, b1, ⟨c0, c1, c2, c3, c4, c5, c6, c7, c8⟩, d1, d2, d3⟩ := asm_bin hw hL (Or.inl ⟨rfl, rfl, rfl, hb⟩) (fun s => by omega) hR (Or.inl (by decide)) (fun _ => rfl)
  generalize zlk (zlk zR 1 (zL 30 0) w) 2 (zL 30 0) r = z' at *
  rw [← c8]
  have x30 : ∀ v, zu z' 12 (zL 30 0) (z' 30 0 - 1) 30 v = z' 30 v := fun v => zu_n (by omega)
  have m400 := a3.1.2.2
  have S := seg_end a3 c0 (by rw [c2]; exact ⟨c6, c7, d1⟩) (by rw [c2]; exact d2) d3
  refine ⟨wq_zu a1 (by decide) (by have := hL.1.1.2.1; omega), ?_, ?_, fun n n1 n2 => ?_, fun n n1 n2 => ?_, ?_, fun s => by omega, ?_, ?_⟩
  · unfold PSC at a2 ⊢
    simp only [x30]
    exact a2
  · simp only [x30]
    exact S
  · rw [x30] at n2 ⊢
    have e : ∀ c n, c ≠ 12 → zu z' 12 (zL 30 0) (z' 30 0 - 1) c n = z' c n := fun c n h => zu_n (Or.inl h)
    by_cases s : n = zL 30 0
    · subst s
      unfold chq
      rw [e 0 _ (by decide), e 1 _ (by decide), e 2 _ (by decide), e 3 _ (by decide), zu_s, c0, c1, c2, c3]
      exact ⟨by rw [if_pos (by decide)]; omega, by rw [if_pos (by decide)]; omega, by rw [if_neg (by decide)], fun _ => by omega⟩
    · have := b1 n n1 n2 s
      have e12 : zu z' 12 (zL 30 0) (z' 30 0 - 1) 12 n = z' 12 n := zu_n (Or.inr s)
      unfold chq at this ⊢
      simp only [e _ _ (show 0 ≠ 12 by decide), e _ _ (show 1 ≠ 12 by decide), e _ _ (show 2 ≠ 12 by decide), e _ _ (show 3 ≠ 12 by decide), e _ _ (show 5 ≠ 12 by decide), e _ _ (show 9 ≠ 12 by decide), e12]
      exact this
  · rw [x30] at n2
    have := a4 n n1 n2
    unfold adj at this ⊢
    rw [zu_n (by omega), zu_n (by omega), zu_n (by omega), zu_n (by omega)]
    exact this
  · rw [zu_n (by omega), zu_n (by omega), zu_n (by omega), a5.1]
    exact ⟨Nat.le_refl _, a5.2⟩
  · rw [x30]; exact a6.1
  · intro t ht
    rw [zu_n (by omega)]; exact a6.2 t ht
theorem wf_k3 {z : Zt} {d : Nat} (hw : WFz nt d z) (hm : z 30 3 < 80) : WFz nt d (zk pl z 3 d) := by
  obtain ⟨v1, v2, v3, v4, v5, v6⟩ := hw
  unfold WFz
  rw [zk_0, zk_3, zk_30 (by decide) (by decide), zk_30 (by decide) (by decide), zk_30 (by decide) (by decide), zk_30 (by decide) (by decide), zk_30 (by decide) (by decide)]
  exact ⟨v1, by omega, by omega, v4, v5, v6⟩
theorem P_lpC (ht : tko kd pl nt) {d : Nat} (hrec : ∀ z, WFz nt d z → PST kd pl nt z 6 d (rec 6 d z)) {z : Zt} (hw : WFz nt d z) : ∀ (m w : Nat) (zL : Zt), PSI kd pl nt z 5 d w zL → PST kd pl nt z 5 d (lpC kd pl rec d m w zL) := by
  intro m
  induction m with
  | zero => intro w zL h; exact h
  | succ m ih =>
    intro w zL h
    unfold lpC
    split
    · exact h
    · rename_i h1
      split
      · exact flt_le ht
      · rename_i h2
        have h1 : bga (kd (zL 30 4)) = true := by simpa using h1
        have hr := hrec _ (wf_k3 (pl := pl) (wf_psi hw h) (by omega))
        cases hx : rec 6 d (zk pl zL 3 d) with
        | inl t => rw [hx] at hr; exact hr
        | inr q =>
          rw [hx] at hr
          exact ih _ _ (psi_call hw h h1 hr)
/-- the empty list, or the beginning of one -/
theorem li_new {z : Zt} {d : Nat} (ht : tko kd pl nt) (hw : WFz nt d z) (hm : z 30 3 < 80) (h7 : kd (z 30 4) = 7) : LI kd pl nt z (adv (zk pl z 7 d)) d 1000 [] := by
  obtain ⟨v1, v2, v3, v4, v5, v6⟩ := hw
  obtain ⟨⟨f0, f1, f2, f3, f4, f5, f6⟩, new, n4, f31, f32, wz, f33⟩ := zka_f (pl := pl) (z := z) (d := d) 7 (by decide)
  generalize adv (zk pl z 7 d) = y at *
  have hlt := tk_lt ht v1 (by omega)
  have hnd : ndp kd pl y (z 30 4) (z 30 4 + 1) (z 30 3) (z 30 3 + 1) (z 30 0) := by
    refine ndp_new new (by decide) ⟨Nat.le_refl _, by omega⟩ ⟨Nat.le_refl _, by omega, f31⟩ (by rw [if_neg (by decide)]; exact ⟨f32, h7⟩) ⟨fun s => absurd s (by decide), fun _ => n4⟩ (by omega) ⟨f1, by omega⟩
  obtain ⟨⟨n0, n6, n7, n8, n10, n13, n14, n15⟩, e1, e2, e3, n5, n9, n11, n12⟩ := new
  refine ⟨⟨wz, by omega, by omega, by omega, f6, by omega, by omega, by omega, by omega, by omega⟩, ?_, fun n h1 h2 => by omega, by rw [f0]; exact adj_one, ⟨n0, e2, e3, n15, n8, n9, n11⟩, ⟨e1, List.Pairwise.nil, fun k hk => (by cases hk), fun k h1 h2 => ?_, Or.inl ⟨rfl, rfl⟩⟩, ?_, fun t _ => f33 t⟩
  · rw [f0, f4, f3]; exact seg_one hnd n5 (fun s => by omega) (fun _ => e1) (by omega)
  · have e : k = z 30 0 := by omega
    subst e
    rw [n5]
    exact ⟨fun s => by omega, fun s => by cases s⟩
  · rw [f4]; exact ⟨rfl, fun t h1 h2 => by omega⟩
theorem li_end {z y : Zt} {d la : Nat} {es : List Nat} (ht : tko kd pl nt) (h7 : kd (z 30 4) = 7) (hl : LI kd pl nt z y d la es) (h18 : kd (y 30 4) = 18) : PSI kd pl nt z 6 d (z 30 0) (adv y) := by
  obtain ⟨⟨wy, y4, y0, y3, y6, y5, y5', y2, yN, yi⟩, sy, cy, ay, ⟨k0, k2, k3, k15, k8, k9, k11⟩, -, bc, g33⟩ := hl
  have hlt := tk_lt ht y4 (by omega)
  have x30 : ∀ v, v ≠ 4 → adv y 30 v = y 30 v := fun v h => adv_30 h
  have e : ∀ c n, c ≠ 30 → adv y c n = y c n := fun c n h => adv_n (Or.inl h)
  refine ⟨wq_adv wy, ⟨by rw [adv_4]; omega, by rw [adv_4]; omega, by rw [x30 _ (by decide), x30 _ (by decide)]; exact y0, by rw [x30 _ (by decide)]; exact y3, by rw [x30 _ (by decide)]; exact y6, by rw [x30 _ (by decide)]; exact y5, by rw [x30 _ (by decide)]; exact y5', by rw [x30 _ (by decide), x30 _ (by decide)]; exact y2⟩, ?_, fun n n1 n2 => ?_, fun n n1 n2 => ?_, ⟨?_, ?_, ?_⟩, fun _ _ => by rw [e _ _ (by decide), k0]; decide, ?_, fun t q => by rw [e _ _ (by decide)]; exact g33 t q⟩
  · rw [x30 _ (by decide), adv_4, x30 _ (by decide)]
    exact seg_wd (seg_30 sy (by decide)) ⟨Nat.le_refl _, by omega, Nat.le_refl _, Nat.le_refl _⟩
  · rw [x30 _ (by decide)] at n2 ⊢
    have hq : chq kd y (z 30 0) (y 30 0) n := by
      by_cases s : n = z 30 0
      · subst s
        unfold chq
        rw [k0, k2, k3]
        exact ⟨by rw [if_neg (by decide)]; exact fun s => absurd rfl s, by rw [if_neg (by decide)], by rw [if_neg (by decide)], fun s => by omega⟩
      · exact cy n (by omega) n2
    unfold chq at hq ⊢
    simp only [e _ _ (show 0 ≠ 30 by decide), e _ _ (show 1 ≠ 30 by decide), e _ _ (show 2 ≠ 30 by decide), e _ _ (show 3 ≠ 30 by decide), e _ _ (show 5 ≠ 30 by decide), e _ _ (show 9 ≠ 30 by decide), e _ _ (show 12 ≠ 30 by decide)]
    exact hq
  · rw [x30 _ (by decide)] at n2
    have := ay n n1 n2
    unfold adj at this ⊢
    rw [e _ _ (by decide), e _ _ (by decide), e _ _ (by decide), e _ _ (by decide)]
    exact this
  · rw [e _ _ (by decide), k15]; exact Nat.le_refl _
  · rw [e _ _ (by decide)]; exact k9
  · rw [e _ _ (by decide)]; exact k11
  · rw [adv_4]; exact bal_br (Or.inr h7) bc (by omega) (Or.inr h18)
theorem li_adv {z y : Zt} {d la : Nat} {es : List Nat} (ht : tko kd pl nt) (hl : LI kd pl nt z y d la es) (h19 : kd (y 30 4) = 19) : LI kd pl nt z (adv y) d la es := by
  obtain ⟨⟨wy, y4, y0, y3, y6, y5, y5', y2, yN, yi⟩, sy, cy, ay, ⟨k0, k2, k3, k15, k8, k9, k11⟩, ⟨ch, pw, mb, iff, lst⟩, bc, g33⟩ := hl
  have hlt := tk_lt ht y4 (by omega)
  have x30 : ∀ v, v ≠ 4 → adv y 30 v = y 30 v := fun v h => adv_30 h
  have e : ∀ c n, c ≠ 30 → adv y c n = y c n := fun c n h => adv_n (Or.inl h)
  refine ⟨⟨wq_adv wy, by rw [adv_4]; omega, by rw [x30 _ (by decide), x30 _ (by decide)]; exact y0, by rw [x30 _ (by decide)]; exact y3, by rw [x30 _ (by decide)]; exact y6, by rw [x30 _ (by decide)]; exact y5, by rw [x30 _ (by decide)]; exact y5', by rw [x30 _ (by decide), x30 _ (by decide)]; exact y2, by rw [x30 _ (by decide)]; exact yN, by rw [adv_4]; omega⟩, ?_, fun n n1 n2 => ?_, fun n n1 n2 => ?_, ?_, ⟨?_, pw, fun k hk => ?_, fun k q1 q2 => ?_, lst⟩, ?_, fun t q => by rw [e _ _ (by decide)]; exact g33 t q⟩
  · rw [x30 _ (by decide), adv_4, x30 _ (by decide)]
    exact seg_wd (seg_30 sy (by decide)) ⟨Nat.le_refl _, by omega, Nat.le_refl _, Nat.le_refl _⟩
  · rw [x30 _ (by decide)] at n2 ⊢
    have hq := cy n n1 n2
    unfold chq at hq ⊢
    simp only [e _ _ (show 0 ≠ 30 by decide), e _ _ (show 1 ≠ 30 by decide), e _ _ (show 2 ≠ 30 by decide), e _ _ (show 3 ≠ 30 by decide), e _ _ (show 5 ≠ 30 by decide), e _ _ (show 9 ≠ 30 by decide), e _ _ (show 12 ≠ 30 by decide)]
    exact hq
  · rw [x30 _ (by decide)] at n2
    have := ay n n1 n2
    unfold adj at this ⊢
    rw [e _ _ (by decide), e _ _ (by decide), e _ _ (by decide), e _ _ (by decide)]
    exact this
  · simp only [e _ _ (show 0 ≠ 30 by decide), e _ _ (show 2 ≠ 30 by decide), e _ _ (show 3 ≠ 30 by decide), e _ _ (show 15 ≠ 30 by decide), e _ _ (show 8 ≠ 30 by decide), e _ _ (show 9 ≠ 30 by decide), e _ _ (show 11 ≠ 30 by decide)]
    exact ⟨k0, k2, k3, k15, k8, k9, k11⟩
  · rw [e _ _ (by decide)]
    exact chn_congr (fun q _ => e _ _ (by decide)) ch
  · rw [x30 _ (by decide), e _ _ (by decide)]; exact mb k hk
  · rw [x30 _ (by decide)] at q2
    rw [e _ _ (by decide)]; exact iff k q1 q2
  · rw [adv_4]; exact balc_tr bc (balc_t (by omega) (by omega) (by omega) (by omega))
theorem li_wf {z y : Zt} {d la : Nat} {es : List Nat} (hw : WFz nt d z) (hd : d < 20) (hl : LI kd pl nt z y d la es) : WFz nt (d + 1) y := by
  obtain ⟨v1, v2, v3, v4, v5, v6⟩ := hw
  obtain ⟨⟨⟨⟨a1, a2, a3, a4, a5⟩, -⟩, y4, y0, y3, y6, y5, y5', y2, yN, yi⟩, -⟩ := hl
  exact ⟨y4, y3, by omega, by omega, ⟨by omega, by omega, by omega, by omega⟩, by omega⟩
theorem P_lpE (ht : tko kd pl nt) {d : Nat} (hd : d < 20) {z : Zt} (hrec : ∀ z, WFz nt (d + 1) z → PST kd pl nt z 0 (d + 1) (rec 0 (d + 1) z)) (hw : WFz nt d z) (h7 : kd (z 30 4) = 7) : ∀ (m la jo : Nat) (y : Zt) (es : List Nat), nt < m + y 30 4 → LI kd pl nt z y d la es → (jo + 1 = y 30 4 ∧ (kd jo = 7 ∨ kd jo = 19) ∧ z 30 4 ≤ jo) → (∀ n, z 30 0 ≤ n → n < y 30 0 → y 9 n ≠ jo) → PST kd pl nt z 6 d (lpE kd pl rec (z 30 0) d m la jo y) := by
  intro m
  induction m with
  | zero => intro la jo y es hm hl _ _; have := hl.1.2.1; omega
  | succ m ih =>
    intro la jo y es hm hl hj hjo
    unfold lpE
    have h0 := hrec y (li_wf hw hd hl)
    cases hx : rec 0 (d + 1) y with
    | inl t => rw [hx] at h0; exact h0
    | inr q =>
      rw [hx] at h0
      obtain ⟨r, z1⟩ := q
      have h0 : PSI kd pl nt y 0 (d + 1) r z1 := h0
      have hl2 := asm_el ht hl hj hjo h0
      have e30 : ∀ v, zel z1 (z 30 0) la jo r 30 v = z1 30 v := fun v => by rw [zel_e, if_neg (by omega), if_neg (by omega), if_neg (by omega), if_neg (by omega)]
      have hp := h0.2.1.1
      have hp2 := h0.2.1.2.1
      have nt240 := ht.1
      show PST kd pl nt z 6 d (if kd (z1 30 4) = 19 then lpE kd pl rec (z 30 0) d m r (z1 30 4) (adv (zel z1 (z 30 0) la jo r)) else if kd (z1 30 4) ≠ 18 then flt pl z1 else .inr (z 30 0, adv (zel z1 (z 30 0) la jo r)))
      split
      · rename_i h19
        have h19' : kd (zel z1 (z 30 0) la jo r 30 4) = 19 := by rw [e30]; exact h19
        refine ih r (z1 30 4) _ _ (by rw [adv_4, e30]; omega) (li_adv ht hl2 h19') ⟨by rw [adv_4, e30], Or.inr h19, by omega⟩ (fun n h1 h2 => ?_)
        rw [adv_n (by omega)]
        rw [adv_30 (by decide)] at h2
        have := (hl2.2.1.2.2.1 n h1 h2).2.2.2.1
        rw [e30] at this
        omega
      · split
        · exact flt_le ht
        · rename_i h18
          have h18 : kd (z1 30 4) = 18 := Classical.not_not.mp h18
          exact li_end ht h7 hl2 (by rw [e30]; exact h18)
/-- every run of the grammar -/
theorem P_all (ht : tko kd pl nt) : ∀ (f c d : Nat) (z : Zt), c ≤ 6 → 7 * (20 - d) + 8 ≤ f + c → WFz nt d z → PST kd pl nt z c d (ps kd pl pr f c d z) := by
  intro f
  induction f with
  | zero => intro c d z hc hf hw; omega
  | succ f ih =>
    intro c d z hc hf hw
    have h20 := hw.2.2.2.1
    have up : ∀ c1 c2 (x : Rs), c1 ≤ c2 → c1 ≠ 6 → PST kd pl nt z c2 d x → PST kd pl nt z c1 d x := fun c1 c2 x h1 h2 h => by
      cases x with
      | inl t => exact h
      | inr q =>
        obtain ⟨a1, a2, a3, a4, a5, a6, a7, a8⟩ := h
        exact ⟨a1, a2, a3, a4, a5, ⟨by omega, a6.2⟩, fun s => absurd s h2, a8⟩
    unfold ps
    by_cases c0 : c = 0
    · subst c0
      rw [if_pos rfl]
      unfold sE
      split
      · rename_i h4
        unfold sLam
        split
        · exact flt_le ht
        · rename_i h1
          split
          · exact (ht.2.2.2 _).2
          · rename_i h2
            split
            · exact (ht.2.2.2 _).2
            · rename_i h3
              have k0 : kd (z 30 4 + 1) = 0 := by omega
              have k16 : kd (z 30 4 + 2) = 16 := Classical.not_not.mp h3
              have hz := zla_f (pl := pl) (z := z) (d := d)
              have t1 := tk_lt ht hw.1 (by omega)
              have t2 := tk_lt ht (show z 30 4 + 1 ≤ nt by omega) (by omega)
              have t3 := tk_lt ht (show z 30 4 + 2 ≤ nt by omega) (by omega)
              have hwz : WFz nt (d + 1) (zla pl z d) := by
                obtain ⟨v1, v2, v3, v4, v5, v6⟩ := hw
                obtain ⟨⟨f0, f1, f2, f3, f4, f5, f6⟩, -⟩ := hz
                exact ⟨by omega, by omega, by omega, by omega, ⟨by omega, by omega, by omega, by omega⟩, Or.inr ⟨by omega, by omega⟩⟩
              have hr := ih 0 (d + 1) (zla pl z d) (by omega) (by omega) hwz
              cases hx : ps kd pl pr f 0 (d + 1) (zla pl z d) with
              | inl t => rw [hx] at hr; exact hr
              | inr q => rw [hx] at hr; exact asm_lam ht hw (by omega) (by omega) h4 k0 k16 hr
      · split
        · rename_i h5
          unfold sIf
          split
          · exact flt_le ht
          · rename_i h1
            have hr1 := ih 0 (d + 1) _ (by omega) (by omega) (wf_d (wf_k (k := 5) ht hw (by omega) (by omega) (by omega)) (by omega))
            cases hx1 : ps kd pl pr f 0 (d + 1) (adv (zk pl z 5 d)) with
            | inl t => rw [hx1] at hr1; exact hr1
            | inr q1 =>
              rw [hx1] at hr1
              obtain ⟨r1, z1⟩ := q1
              have hr1 : PSI kd pl nt (adv (zk pl z 5 d)) 0 (d + 1) r1 z1 := hr1
              show PST kd pl nt z 0 d (if kd (z1 30 4) ≠ 20 then flt pl z1 else rb (ps kd pl pr f 0 (d + 1) (adv z1)) fun r2 z2 => if kd (z2 30 4) ≠ 21 then flt pl z2 else rb (ps kd pl pr f 0 (d + 1) (adv z2)) fun r3 z3 => .inr (z 30 0, zif z1 z2 z3 (z 30 0) r1 r2 r3))
              have w1 := wf_psi (wf_d (wf_k (k := 5) ht hw (by omega) (by omega) (by omega)) (by omega)) hr1
              split
              · exact flt_le ht
              · rename_i h20'
                have h20' : kd (z1 30 4) = 20 := Classical.not_not.mp h20'
                have hr2 := ih 0 (d + 1) _ (by omega) (by omega) (wf_adv ht w1 (by omega))
                cases hx2 : ps kd pl pr f 0 (d + 1) (adv z1) with
                | inl t => rw [hx2] at hr2; exact hr2
                | inr q2 =>
                  rw [hx2] at hr2
                  obtain ⟨r2, z2⟩ := q2
                  have hr2 : PSI kd pl nt (adv z1) 0 (d + 1) r2 z2 := hr2
                  show PST kd pl nt z 0 d (if kd (z2 30 4) ≠ 21 then flt pl z2 else rb (ps kd pl pr f 0 (d + 1) (adv z2)) fun r3 z3 => .inr (z 30 0, zif z1 z2 z3 (z 30 0) r1 r2 r3))
                  have w2 := wf_psi (wf_adv ht w1 (by omega)) hr2
                  split
                  · exact flt_le ht
                  · rename_i h21
                    have h21 : kd (z2 30 4) = 21 := Classical.not_not.mp h21
                    have hr3 := ih 0 (d + 1) _ (by omega) (by omega) (wf_adv ht w2 (by omega))
                    cases hx3 : ps kd pl pr f 0 (d + 1) (adv z2) with
                    | inl t => rw [hx3] at hr3; exact hr3
                    | inr q3 =>
                      rw [hx3] at hr3
                      exact asm_if ht hw (by omega) (by omega) h5 hr1 h20' hr2 h21 hr3
        · exact up 0 1 _ (by omega) (by decide) (ih 1 d z (by omega) (by omega) hw)
    · rw [if_neg c0]
      by_cases c1 : c = 1
      · subst c1
        rw [if_pos rfl]
        have h0 := up 1 2 _ (by omega) (by decide) (ih 2 d z (by omega) (by omega) hw)
        cases hx : ps kd pl pr f 2 d z with
        | inl t => rw [hx] at h0; exact h0
        | inr q => rw [hx] at h0; exact P_lpL ht (Or.inl rfl) (fun z1 w1 => ih 2 d z1 (by omega) (by omega) w1) hw 242 _ _ h0
      · rw [if_neg c1]
        by_cases c2 : c = 2
        · subst c2
          rw [if_pos rfl]
          exact P_tst ht (fun z1 w1 => ih 3 d z1 (by omega) (by omega) w1) hw
        · rw [if_neg c2]
          by_cases c3 : c = 3
          · subst c3
            rw [if_pos rfl]
            exact P_row ht (fun z1 w1 => ih 4 d z1 (by omega) (by omega) w1) 243 z hw (by have := ht.1; omega)
          · rw [if_neg c3]
            by_cases c4 : c = 4
            · subst c4
              rw [if_pos rfl]
              have h0 := up 4 5 _ (by omega) (by decide) (ih 5 d z (by omega) (by omega) hw)
              cases hx : ps kd pl pr f 5 d z with
              | inl t => rw [hx] at h0; exact h0
              | inr q => rw [hx] at h0; exact P_lpL ht (Or.inr rfl) (fun z1 w1 => ih 5 d z1 (by omega) (by omega) w1) hw 242 _ _ h0
            · rw [if_neg c4]
              by_cases c5 : c = 5
              · subst c5
                rw [if_pos rfl]
                have h0 := up 5 6 _ (by omega) (by decide) (ih 6 d z (by omega) (by omega) hw)
                cases hx : ps kd pl pr f 6 d z with
                | inl t => rw [hx] at h0; exact h0
                | inr q => rw [hx] at h0; exact P_lpC ht (fun z1 w1 => ih 6 d z1 (by omega) (by omega) w1) hw 242 _ _ h0
              · rw [if_neg c5]
                have c6 : c = 6 := by omega
                subst c6
                unfold sA
                split
                · rename_i h2
                  split
                  · exact flt_le ht
                  · exact asm_leaf ht hw h2 (by omega)
                · split
                  · rename_i h6
                    unfold sGrp
                    split
                    · exact flt_le ht
                    · rename_i hd
                      split
                      · have hwp : WFz nt (d + 1) (adv (zp pl z d)) := by
                          obtain ⟨v1, v2, v3, v4, v5, v6⟩ := hw
                          obtain ⟨⟨f0, f1, f2, f3, f4, f5, f6⟩, -⟩ := zp_f (pl := pl) (z := z) (d := d)
                          have := tk_lt ht v1 (by omega)
                          exact ⟨by omega, by omega, by omega, by omega, by omega, by omega⟩
                        have hr1 := ih 0 (d + 1) _ (by omega) (by omega) hwp
                        cases hx1 : ps kd pl pr f 0 (d + 1) (adv (zp pl z d)) with
                        | inl t => rw [hx1] at hr1; exact hr1
                        | inr q1 =>
                          rw [hx1] at hr1
                          obtain ⟨r1, z1⟩ := q1
                          have hr1 : PSI kd pl nt (adv (zp pl z d)) 0 (d + 1) r1 z1 := hr1
                          show PST kd pl nt z 6 d (if kd (z1 30 4) ≠ 19 ∨ 80 ≤ z1 30 3 then flt pl z1 else rb (ps kd pl pr f 0 (d + 1) (adv (zc z1 (z 30 0)))) fun r2 z2 => if kd (z2 30 4) ≠ 17 then flt pl z2 else .inr (z 30 0, zpr z2 (z 30 0) r1 r2))
                          split
                          · exact flt_le ht
                          · rename_i h19
                            have hwc : WFz nt (d + 1) (adv (zc z1 (z 30 0))) := by
                              obtain ⟨v1, v2, v3, v4, v5, v6⟩ := wf_psi hwp hr1
                              have := tk_lt ht v1 (by omega)
                              unfold WFz
                              rw [adv_4, adv_30 (by decide), adv_30 (by decide), adv_30 (by decide), adv_30 (by decide), adv_30 (by decide), adv_30 (by decide)]
                              have o : ∀ v, v ≠ 3 → zc z1 (z 30 0) 30 v = z1 30 v := fun v h => by rw [zc_e, if_neg (by omega), if_neg (by omega), if_neg (by omega)]
                              have o3 : zc z1 (z 30 0) 30 3 = z1 30 3 + 1 := by rw [zc_e, if_neg (by omega), if_pos ⟨rfl, rfl⟩]
                              rw [o _ (by decide), o3, o _ (by decide), o _ (by decide), o _ (by decide), o _ (by decide), o _ (by decide)]
                              exact ⟨by omega, by omega, by omega, v4, v5, v6⟩
                            have hr2 := ih 0 (d + 1) _ (by omega) (by omega) hwc
                            cases hx2 : ps kd pl pr f 0 (d + 1) (adv (zc z1 (z 30 0))) with
                            | inl t => rw [hx2] at hr2; exact hr2
                            | inr q2 =>
                              rw [hx2] at hr2
                              obtain ⟨r2, z2⟩ := q2
                              have hr2 : PSI kd pl nt (adv (zc z1 (z 30 0))) 0 (d + 1) r2 z2 := hr2
                              show PST kd pl nt z 6 d (if kd (z2 30 4) ≠ 17 then flt pl z2 else .inr (z 30 0, zpr z2 (z 30 0) r1 r2))
                              split
                              · exact flt_le ht
                              · rename_i h17
                                exact asm_pair ht hw (by omega) h6 hr1 (by omega) (by omega) hr2 (Classical.not_not.mp h17)
                      · have hr1 := ih 0 (d + 1) _ (by omega) (by omega) (wf_d (wf_adv ht hw (by omega)) (by omega))
                        cases hx1 : ps kd pl pr f 0 (d + 1) (adv z) with
                        | inl t => rw [hx1] at hr1; exact hr1
                        | inr q1 =>
                          rw [hx1] at hr1
                          obtain ⟨r1, z1⟩ := q1
                          have hr1 : PSI kd pl nt (adv z) 0 (d + 1) r1 z1 := hr1
                          show PST kd pl nt z 6 d (if kd (z1 30 4) ≠ 17 then flt pl z1 else .inr (r1, adv (zu z1 13 r1 1)))
                          split
                          · exact flt_le ht
                          · rename_i h17
                            exact asm_par ht hw h6 hr1 (Classical.not_not.mp h17)
                  · split
                    · rename_i h7
                      unfold sLst
                      split
                      · exact flt_le ht
                      · rename_i h1
                        have hl := li_new ht hw (by omega) h7
                        have h4 := (zka_f (pl := pl) (z := z) (d := d) 7 (by decide)).1.2.2.2.2.1
                        split
                        · rename_i h18
                          exact li_end ht h7 hl (by rw [h4]; exact h18)
                        · have nt240 := ht.1
                          refine P_lpE ht (by omega) (fun z1 w1 => ih 0 (d + 1) z1 (by omega) (by omega) w1) hw h7 242 1000 (z 30 4) _ [] (by rw [h4]; omega) hl ⟨by rw [h4], Or.inl h7, Nat.le_refl _⟩ (fun n h1 h2 => ?_)
                          have h0 := (zka_f (pl := pl) (z := z) (d := d) 7 (by decide)).1.1
                          have e : n = z 30 0 := by omega
                          rw [e, hl.2.2.2.2.1.2.2.2.2.2.1]
                          have := hw.1
                          omega
                    · exact flt_le ht
end RUN
