/-! ===== what a text leaves in the table ===== -/
def ndt (kd pl : Nat → Nat) (z : Zt) (n : Nat) : Prop :=
  (z 0 n ≤ 13 ∧ z 7 n = pl (z 8 n) ∧ z 8 n < z 30 4) ∧ (z 6 n < z 30 3 ∧ z 31 (z 6 n) = n) ∧
  (if z 0 n = 3 then z 33 (z 8 n) = n ∧ bga (kd (z 8 n)) = true else z 32 (z 8 n) = n ∧ kd (z 8 n) = z 0 n) ∧
  (z 9 n < 1000 → z 9 n < z 30 4 ∧ z 34 (z 9 n) = n) ∧
  (z 14 n < z 30 1 ∧ (z 10 n = 1000 ∨ (11 ≤ z 10 n ∧ z 10 n < 11 + z 30 2)) ∧ (z 0 n = 4 → 11 ≤ z 4 n ∧ z 4 n < 11 + z 30 2) ∧ (z 0 n ≠ 4 → z 4 n = 1000))
def prt (z : Zt) (n : Nat) : Prop := (n = z 18 (z 14 n) ∧ z 5 n = 1000) ∨ (n ≠ z 18 (z 14 n) ∧ z 5 n < z 30 0 ∧ z 14 (z 5 n) = z 14 n ∧ lvz z (z 5 n) < lvz z n)
def DCL (kd : Nat → Nat) (z : Zt) (d : Nat) : Prop := (z 18 d < z 30 0 ∧ z 14 (z 18 d) = d) ∧ (z 16 d + z 17 d < z 30 2 ∧ z 32 (z 20 (z 16 d)) = 2000 + d ∧ z 20 (z 16 d) + z 17 d < z 30 4) ∧ (∀ i, i ≤ z 17 d → kd (z 20 (z 16 d) + i) = 0 ∧ z 20 (z 16 d + i) = z 20 (z 16 d) + i ∧ z 21 (z 16 d + i) = (if i ≤ 1 then 1000 else 10 + z 16 d + i) ∧ z 22 (z 16 d + i) = (if i = 0 then 0 else 1) ∧ z 23 (z 16 d + i) = d)
def BND (z : Zt) (b : Nat) : Prop := z 23 b < z 30 1 ∧ z 16 (z 23 b) ≤ b ∧ (b ≤ z 16 (z 23 b) + z 17 (z 23 b) ∨ (z 16 (z 23 b) + z 17 (z 23 b) < b ∧ z 22 b = 2 ∧ ∃ l, scl z (z 21 b) l (LPs z (z 23 b))))
def TX (kd pl : Nat → Nat) (nt : Nat) (z : Zt) : Prop :=
  (WFd nt z ∧ z 30 0 = z 30 3) ∧
  ((∀ n, n < z 30 0 → ndt kd pl z n) ∧ (∀ n, n < z 30 0 → prt z n) ∧ CHD kd z 0 (z 30 0) ∧ ADJ z 0 (z 30 0) ∧ (∀ m, m < z 30 0 → z 0 m = 3 → z 12 m < 1000 → crm z 0 (z 30 0) m) ∧ (∀ m, m < z 30 0 → z 0 m = 7 → lch kd z 0 (z 30 0) m) ∧ (∀ n, n < z 30 0 → ∃ l, scl z (z 10 n) l (LPs z (z 14 n)))) ∧
  ((∀ d, d < z 30 1 → DCL kd z d) ∧ (∀ d d', d < d' → d' < z 30 1 → z 16 d + z 17 d < z 16 d' ∧ z 20 (z 16 d) + z 17 d < z 20 (z 16 d')) ∧ (∀ b, b < z 30 2 → BND z b))
section TEXT
variable {kd pl : Nat → Nat} {nt r : Nat} {z z' : Zt}
theorem TX_step (ht : tko kd pl nt) (h : TX kd pl nt z) (hs : SDI kd pl nt z r z') : TX kd pl nt z' := by
  obtain ⟨⟨hw, h03⟩, ⟨t1, t2, t3, t4, t5, t6, t7⟩, t8, t9, t10⟩ := h
  obtain ⟨⟨⟨⟨w4, w0, w3, w2, w1⟩, wn, wd, wb, w31, w32⟩, hw', h03'⟩, ⟨⟨d1, d2, d3, d4, d5⟩, dh⟩, hb, sg, ch, ad, sc⟩ := hs
  obtain ⟨⟨s1, s2, s3⟩, sr, snd, spr, scr, slc⟩ := sg
  obtain ⟨v1, v2, v3, v4, v5, v6⟩ := id hw
  have mvl : ∀ l s s0, scl z s l s0 → scl z' s l s0 := scl_mv w2 (fun c b p q w => wb c b p (by omega) w)
  have lpo : ∀ d, d < z 30 1 → LPs z' d = LPs z d := fun d hd => by
    unfold LPs
    rw [wd 17 d (by decide) (by decide) hd, wd 16 d (by decide) (by decide) hd]
  have lvo' : ∀ n, n < z 30 0 → lvz z' n = lvz z n := fun n hn => by
    unfold lvz
    rw [wn 15 n (by decide) hn]
  have d14 : ∀ n, z 30 0 ≤ n → n < z' 30 0 → z' 14 n = z 30 1 := fun n n1 n2 => by
    have := (snd n n1 n2).2.2.2.2.1
    omega
  have o18 : ∀ n, n < z 30 0 → z' 18 (z 14 n) = z 18 (z 14 n) := fun n hn => wd 18 _ (by decide) (by decide) (t1 n hn).2.2.2.2.1
  refine ⟨⟨hw', h03'⟩, ⟨fun n hn => ?_, fun n hn => ?_, fun n _ hn => ?_, fun n _ hn => ?_, fun m hm h3 h12 => ?_, fun m hm h7 => ?_, fun n hn => ?_⟩, fun d hd => ?_, fun d d' h1 h2 => ?_, fun b hb1 => ?_⟩
  · by_cases so : n < z 30 0
    · obtain ⟨⟨a1, a2, a3⟩, ⟨a4, a5⟩, a6, a7, a8, a9, a10, a11⟩ := t1 n so
      unfold ndt
      rw [wn 0 n (by decide) so, wn 7 n (by decide) so, wn 8 n (by decide) so, wn 6 n (by decide) so, wn 9 n (by decide) so, wn 14 n (by decide) so, wn 10 n (by decide) so, wn 4 n (by decide) so, w31 _ a4, w32 33 _ (by decide) (by decide) a3, w32 32 _ (by decide) (by decide) a3]
      refine ⟨⟨a1, a2, by omega⟩, ⟨by omega, a5⟩, a6, fun h9 => ?_, by omega, by omega, fun h => by have := a10 h; omega, a11⟩
      obtain ⟨b1, b2⟩ := a7 h9
      rw [w32 34 _ (by decide) (by decide) b1]
      exact ⟨by omega, b2⟩
    · obtain ⟨⟨a1, a2, a3, a4⟩, ⟨a5, a6, a7⟩, a8, a9, a10, a11, a12, a13⟩ := snd n (by omega) hn
      refine ⟨⟨a1, a2, a4⟩, ⟨a6, a7⟩, a8, fun h => ⟨(a9 h).2.1, (a9 h).2.2⟩, by omega, a11, a12, a13⟩
  · by_cases so : n < z 30 0
    · have e5 := wn 5 n (by decide) so
      have e14 := wn 14 n (by decide) so
      unfold prt
      rw [e5, e14, o18 n so]
      rcases t2 n so with ⟨a1, a2⟩ | ⟨a1, a2, a3, a4⟩
      · exact Or.inl ⟨a1, a2⟩
      · right
        rw [wn 14 _ (by decide) a2, lvo' _ a2, lvo' n so]
        exact ⟨a1, by omega, a3, a4⟩
    · unfold prt
      rw [d14 n (by omega) hn, d2]
      by_cases sr' : n = r
      · left
        subst sr'
        exact ⟨rfl, sr⟩
      · right
        obtain ⟨b1, b2, b3⟩ := spr n (by omega) hn sr'
        exact ⟨sr', b2, d14 _ b1 b2, b3⟩
  · by_cases so : n < z 30 0
    · have hq := t3 n (by omega) so
      have g : ∀ c, c < 16 → z' c n = z c n := fun c hc => wn c n hc so
      unfold chq at hq ⊢
      rw [g 0 (by decide), g 1 (by decide), g 2 (by decide), g 3 (by decide), g 12 (by decide)]
      obtain ⟨q1, q2, q3, q4⟩ := hq
      refine ⟨?_, ?_, ?_, q4⟩
      · split at q1
        · rename_i s; rw [if_pos s]; omega
        · rename_i s; rw [if_neg s]; exact q1
      · split at q2
        · rename_i s; rw [if_pos s]; omega
        · rename_i s; rw [if_neg s]; exact q2
      · split at q3
        · rename_i s3
          rw [if_pos (by omega)] at q2
          rw [if_pos s3]
          obtain ⟨u1, ⟨u2, u3, u4⟩, u5, u6, u7⟩ := q3
          rw [wn 5 _ (by decide) q2.2, wn 9 _ (by decide) q2.2, wn 5 _ (by decide) u1.2, wn 9 _ (by decide) u1.2]
          exact ⟨by omega, ⟨u2, u3, u4⟩, u5, u6, u7⟩
        · rename_i s; rw [if_neg s]; exact q3
    · have hq := ch n (by omega) hn
      unfold chq at hq ⊢
      obtain ⟨q1, q2, q3, q4⟩ := hq
      refine ⟨?_, ?_, ?_, q4⟩
      · split at q1
        · rename_i s; rw [if_pos s]; omega
        · rename_i s; rw [if_neg s]; exact q1
      · split at q2
        · rename_i s; rw [if_pos s]; omega
        · rename_i s; rw [if_neg s]; exact q2
      · split at q3
        · rename_i s3; rw [if_pos s3]; exact ⟨by omega, q3.2⟩
        · rename_i s; rw [if_neg s]; exact q3
  · by_cases so : n + 1 < z 30 0
    · have := t4 n (by omega) so
      unfold adj at this ⊢
      rw [wn 8 n (by decide) (by omega), wn 8 _ (by decide) so, wn 0 n (by decide) (by omega), wn 0 _ (by decide) so]
      exact this
    · by_cases so2 : n < z 30 0
      · have a := (t1 n so2).1.2.2
        have b := (snd (n + 1) (by omega) hn).1.2.2.1
        unfold adj
        rw [wn 8 n (by decide) so2]
        left
        omega
      · exact ad n (by omega) hn
  · by_cases so : m < z 30 0
    · rw [wn 0 m (by decide) so] at h3
      rw [wn 12 m (by decide) so] at h12
      obtain ⟨b1, b2, b3, b4, b5⟩ := t5 m so h3 h12
      unfold crm
      rw [wn 12 m (by decide) so, wn 2 m (by decide) so, wn 5 _ (by decide) (by omega)]
      refine ⟨by omega, b2, b3, b4, fun k k1 k2 => ?_⟩
      by_cases sk : k < z 30 0
      · rw [wn 5 k (by decide) sk]; exact b5 k k1 sk
      · refine ⟨fun c1 c2 => by omega, fun c1 c2 => ?_⟩
        exfalso
        by_cases sr' : k = r
        · subst sr'; rw [sr] at c2; omega
        · have := spr k (by omega) k2 sr'; omega
    · obtain ⟨b1, b2, b3, b4, b5⟩ := scr m (by omega) hm h3 h12
      refine ⟨b1, b2, b3, b4, fun k k1 k2 => ?_⟩
      by_cases sk : k < z 30 0
      · refine ⟨fun c1 c2 => by omega, fun c1 c2 => ?_⟩
        exfalso
        rw [wn 5 k (by decide) sk] at c1 c2
        rcases t2 k sk with ⟨_, a2⟩ | ⟨_, a2, _⟩ <;> omega
      · exact b5 k (by omega) k2
  · by_cases so : m < z 30 0
    · rw [wn 0 m (by decide) so] at h7
      obtain ⟨es, e1, e2, e3, e4⟩ := t6 m so h7
      refine ⟨es, ?_, e2, fun k hk => ?_, fun k k1 k2 => ?_⟩
      · rw [wn 1 m (by decide) so]
        exact chn_congr (fun q hq => wn 11 q (by decide) (e3 q hq).2.1) e1
      · have := e3 k hk
        rw [wn 9 k (by decide) this.2.1]
        exact ⟨this.1, by omega, this.2.2⟩
      · by_cases sk : k < z 30 0
        · rw [wn 5 k (by decide) sk]; exact e4 k k1 sk
        · refine ⟨fun q => ?_, fun q => ?_⟩
          · exfalso
            by_cases sr' : k = r
            · subst sr'; omega
            · have := spr k (by omega) k2 sr'; omega
          · have := (e3 k q).2.1; omega
    · obtain ⟨es, e1, e2, e3, e4⟩ := slc m (by omega) hm h7
      refine ⟨es, e1, e2, fun k hk => ⟨by omega, (e3 k hk).2⟩, fun k k1 k2 => ?_⟩
      by_cases sk : k < z 30 0
      · refine ⟨fun q => ?_, fun q => ?_⟩
        · exfalso
          rw [wn 5 k (by decide) sk] at q
          rcases t2 k sk with ⟨_, a2⟩ | ⟨_, a2, _⟩ <;> omega
        · have := (e3 k q).1; omega
      · exact e4 k (by omega) k2
  · by_cases so : n < z 30 0
    · obtain ⟨l, hl⟩ := t7 n so
      rw [wn 10 n (by decide) so, wn 14 n (by decide) so, lpo _ (t1 n so).2.2.2.2.1]
      exact ⟨l, mvl _ _ _ hl⟩
    · rw [d14 n (by omega) hn]
      exact sc n (by omega) hn
  · by_cases so : d < z 30 1
    · obtain ⟨⟨a1, a2⟩, ⟨a3, a4, a5⟩, a6⟩ := t8 d so
      unfold DCL
      rw [wd 18 d (by decide) (by decide) so, wd 16 d (by decide) (by decide) so, wd 17 d (by decide) (by decide) so, wn 14 _ (by decide) a1, wb 20 _ (by decide) (by decide) (by omega), w32 32 _ (by decide) (by decide) (by omega)]
      refine ⟨⟨by omega, a2⟩, ⟨by omega, a4, by omega⟩, fun i hi => ?_⟩
      rw [wb 20 _ (by decide) (by decide) (by omega), wb 21 _ (by decide) (by decide) (by omega), wb 22 _ (by decide) (by decide) (by omega), wb 23 _ (by decide) (by decide) (by omega)]
      exact a6 i hi
    · have ed : d = z 30 1 := by omega
      subst ed
      have e20 : z' 20 (z 30 2) = z 30 4 := by have := (dh 0 (by omega)).1.1; rwa [Nat.add_zero, Nat.add_zero] at this
      unfold DCL
      rw [d2, d1, e20]
      refine ⟨⟨s2, d14 r s1 s2⟩, ⟨d3, d5, by omega⟩, fun i hi => ?_⟩
      obtain ⟨⟨u1, u2⟩, u3, u4, u5⟩ := dh i hi
      exact ⟨u2, u1, u3, u4, u5⟩
  · by_cases so : d' < z 30 1
    · rw [wd 16 d (by decide) (by decide) (by omega), wd 17 d (by decide) (by decide) (by omega), wd 16 d' (by decide) (by decide) so, wb 20 _ (by decide) (by decide) (by have := (t8 d (by omega)).2.1.1; omega), wb 20 _ (by decide) (by decide) (by have := (t8 d' so).2.1.1; omega)]
      exact t9 d d' h1 so
    · have ed : d' = z 30 1 := by omega
      subst ed
      have e20 : z' 20 (z 30 2) = z 30 4 := by have := (dh 0 (by omega)).1.1; rwa [Nat.add_zero, Nat.add_zero] at this
      have a := (t8 d h1).2.1
      rw [wd 16 d (by decide) (by decide) h1, wd 17 d (by decide) (by decide) h1, d1, e20, wb 20 _ (by decide) (by decide) (by omega)]
      omega
  · by_cases so : b < z 30 2
    · obtain ⟨a1, a2, a3⟩ := t10 b so
      unfold BND
      rw [wb 23 b (by decide) (by decide) so, wd 16 _ (by decide) (by decide) a1, wd 17 _ (by decide) (by decide) a1, wb 22 b (by decide) (by decide) so, wb 21 b (by decide) (by decide) so, lpo _ a1]
      refine ⟨by omega, a2, ?_⟩
      rcases a3 with a | ⟨a, b', l, hl⟩
      · exact Or.inl a
      · exact Or.inr ⟨a, b', l, mvl _ _ _ hl⟩
    · by_cases so2 : b ≤ z 30 2 + z' 17 (z 30 1)
      · obtain ⟨-, -, -, u5⟩ := dh (b - z 30 2) (by omega)
        rw [show z 30 2 + (b - z 30 2) = b by omega] at u5
        unfold BND
        rw [u5, d1]
        exact ⟨by omega, by omega, Or.inl so2⟩
      · obtain ⟨u1, u2, u3⟩ := hb b (by omega) hb1
        unfold BND
        rw [u2, d1]
        exact ⟨by omega, by omega, Or.inr ⟨by omega, u1, u3⟩⟩
theorem TX_adv (ht : tko kd pl nt) (h : TX kd pl nt z) (hk : kd (z 30 4) ≠ 22) : TX kd pl nt (adv z) := by
  obtain ⟨⟨hw, h03⟩, ⟨t1, t2, t3, t4, t5, t6, t7⟩, t8, t9, t10⟩ := h
  have e : ∀ c n, c ≠ 30 → adv z c n = z c n := fun c n h => adv_n (Or.inl h)
  have e3 : ∀ v, v ≠ 4 → adv z 30 v = z 30 v := fun v h => adv_30 h
  have tl := tk_lt ht hw.1 hk
  have mvl : ∀ l s s0, scl z s l s0 → scl (adv z) s l s0 := scl_mv (by rw [e3 2 (by decide)]; exact Nat.le_refl _) (fun c b p q w => e c b (by omega))
  have lpo : ∀ d, LPs (adv z) d = LPs z d := fun d => by unfold LPs; rw [e 17 _ (by decide), e 16 _ (by decide)]
  have x0 := e3 0 (by decide)
  have x1 := e3 1 (by decide)
  have x2 := e3 2 (by decide)
  refine ⟨⟨⟨?_, ?_, ?_, ?_⟩, ?_⟩, ⟨fun n hn => ?_, fun n hn => ?_, fun n _ hn => ?_, fun n _ hn => ?_, fun m hm h3 h12 => ?_, fun m hm h7 => ?_, fun n hn => ?_⟩, fun d hd => ?_, fun d d' h1 h2 => ?_, fun b hb1 => ?_⟩
  · rw [adv_4]; omega
  · rw [e3 3 (by decide)]; exact hw.2.1
  · rw [x0, e3 3 (by decide)]; exact hw.2.2.1
  · rw [x2, x1, e3 5 (by decide)]; exact hw.2.2.2
  · rw [x0, e3 3 (by decide)]; exact h03
  · rw [x0] at hn
    obtain ⟨⟨a1, a2, a3⟩, ⟨a4, a5⟩, a6, a7, a8⟩ := t1 n hn
    unfold ndt
    rw [adv_4, e3 3 (by decide), x1, x2, e 0 _ (by decide), e 7 _ (by decide), e 8 _ (by decide), e 6 _ (by decide), e 31 _ (by decide), e 33 _ (by decide), e 32 _ (by decide), e 9 _ (by decide), e 34 _ (by decide), e 14 _ (by decide), e 10 _ (by decide), e 4 _ (by decide)]
    exact ⟨⟨a1, a2, by omega⟩, ⟨a4, a5⟩, a6, fun h => ⟨by have := (a7 h).1; omega, (a7 h).2⟩, a8⟩
  · rw [x0] at hn
    have := t2 n hn
    unfold prt lvz at this ⊢
    rw [x0, e 18 _ (by decide), e 14 _ (by decide), e 5 _ (by decide), e 14 _ (by decide), e 15 _ (by decide), e 15 _ (by decide)]
    exact this
  · rw [x0] at hn ⊢
    have := t3 n (by omega) hn
    unfold chq at this ⊢
    simp only [e 0 _ (by decide), e 1 _ (by decide), e 2 _ (by decide), e 3 _ (by decide), e 5 _ (by decide), e 9 _ (by decide), e 12 _ (by decide)]
    exact this
  · rw [x0] at hn
    have := t4 n (by omega) hn
    unfold adj at this ⊢
    rw [e 8 _ (by decide), e 8 _ (by decide), e 0 _ (by decide), e 0 _ (by decide)]
    exact this
  · rw [x0] at hm ⊢
    rw [e 0 _ (by decide)] at h3
    rw [e 12 _ (by decide)] at h12
    have := t5 m hm h3 h12
    unfold crm at this ⊢
    rw [e 12 _ (by decide), e 2 _ (by decide), e 5 _ (by decide)]
    refine ⟨this.1, this.2.1, this.2.2.1, this.2.2.2.1, fun k k1 k2 => ?_⟩
    rw [e 5 _ (by decide)]
    exact this.2.2.2.2 k k1 k2
  · rw [x0] at hm ⊢
    rw [e 0 _ (by decide)] at h7
    obtain ⟨es, e1, e2, e3, e4⟩ := t6 m hm h7
    refine ⟨es, ?_, e2, fun k hk => ?_, fun k k1 k2 => ?_⟩
    · rw [e 1 _ (by decide)]
      exact chn_congr (fun q _ => e 11 _ (by decide)) e1
    · rw [e 9 _ (by decide)]; exact e3 k hk
    · rw [e 5 _ (by decide)]; exact e4 k k1 k2
  · rw [x0] at hn
    obtain ⟨l, hl⟩ := t7 n hn
    rw [e 10 _ (by decide), e 14 _ (by decide), lpo]
    exact ⟨l, mvl _ _ _ hl⟩
  · rw [x1] at hd
    obtain ⟨a1, ⟨a3, a4, a5⟩, a6⟩ := t8 d hd
    unfold DCL
    rw [x0, x2, adv_4, e 18 _ (by decide), e 14 _ (by decide), e 16 _ (by decide), e 17 _ (by decide), e 20 _ (by decide), e 32 _ (by decide)]
    refine ⟨a1, ⟨a3, a4, by omega⟩, fun i hi => ?_⟩
    rw [e 20 _ (by decide), e 21 _ (by decide), e 22 _ (by decide), e 23 _ (by decide)]
    exact a6 i hi
  · rw [x1] at h2
    rw [e 16 _ (by decide), e 17 _ (by decide), e 16 _ (by decide), e 20 _ (by decide), e 20 _ (by decide)]
    exact t9 d d' h1 h2
  · rw [x2] at hb1
    obtain ⟨a1, a2, a3⟩ := t10 b hb1
    unfold BND
    rw [x1, e 23 _ (by decide), e 16 _ (by decide), e 17 _ (by decide), e 22 _ (by decide), e 21 _ (by decide), lpo]
    refine ⟨a1, a2, ?_⟩
    rcases a3 with a | ⟨a, b', l, hl⟩
    · exact Or.inl a
    · exact Or.inr ⟨a, b', l, mvl _ _ _ hl⟩
/-- the empty text -/
theorem TX_0 (hz : z 30 0 = 0 ∧ z 30 1 = 0 ∧ z 30 2 = 0 ∧ z 30 3 = 0 ∧ z 30 4 = 0 ∧ z 30 5 = 0) : TX kd pl nt z := by
  obtain ⟨h0, h1, h2, h3, h4, h5⟩ := hz
  exact ⟨⟨⟨by omega, by omega, by omega, by omega, by omega, by omega⟩, by omega⟩, ⟨fun n h => by omega, fun n h => by omega, fun n _ h => by omega, fun n _ h => by omega, fun n h => by omega, fun n h => by omega, fun n h => by omega⟩, fun d h => by omega, fun d d' _ h => by omega, fun b h => by omega⟩
end TEXT
