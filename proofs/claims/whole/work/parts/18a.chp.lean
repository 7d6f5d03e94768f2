/-! ===== parts and what they are parts of ===== -/
def chp (z : Zt) (lo hi m : Nat) : Prop := z 0 m ≠ 7 → (∀ e, lo ≤ e → e < hi → (z 5 e = m ↔ (e = z 1 m ∨ e = z 2 m ∨ e = z 3 m))) ∧ (z 2 m < 1000 → z 1 m ≠ z 2 m) ∧ (z 3 m < 1000 → z 1 m ≠ z 3 m ∧ z 2 m ≠ z 3 m)
def CHP (z : Zt) (lo hi : Nat) : Prop := ∀ m, lo ≤ m → m < hi → chp z lo hi m
section CHPS
variable {kd pl : Nat → Nat} {nt d l w r r1 r2 r3 i j a b lo hi a1 b1 k cR la jo : Nat} {z z' z1 z2 z3 zL zA zR y : Zt} {es : List Nat}
/-- a part, carried on -/
theorem chp_mv (h : CHP z1 a b) (sg : SEG kd pl z1 a b r i j a1 b1) (ch : CHD kd z1 a b) (rt : RT z1 z' a b r) (hlo : lo ≤ a ∧ b ≤ hi ∧ hi ≤ 400) (h5 : z' 5 r < a ∨ b ≤ z' 5 r) (ho : ∀ e, lo ≤ e → e < hi → (e < a ∨ b ≤ e) → (z' 5 e < a ∨ b ≤ z' 5 e)) : ∀ m, a ≤ m → m < b → chp z' lo hi m := by
  intro m m1 m2 k7
  obtain ⟨⟨s1, s2, s3⟩, sr, nd, par, -, -⟩ := sg
  have g : ∀ c, c < 16 → c ≠ 5 → c ≠ 9 → c ≠ 11 → c ≠ 13 → z' c m = z1 c m := fun c c1 c2 c3 c4 c5 => rt c m c1 m1 m2 (Or.inr ⟨c2, c3, c4, c5⟩)
  have g0 := g 0 (by decide) (by decide) (by decide) (by decide) (by decide)
  have g1 := g 1 (by decide) (by decide) (by decide) (by decide) (by decide)
  have g2 := g 2 (by decide) (by decide) (by decide) (by decide) (by decide)
  have g3 := g 3 (by decide) (by decide) (by decide) (by decide) (by decide)
  rw [g0] at k7
  rw [g1, g2, g3]
  obtain ⟨h1, h2, h3⟩ := h m m1 m2 k7
  obtain ⟨q1, q2, q3, -⟩ := ch m m1 m2
  have c1 : (a ≤ z1 1 m ∧ z1 1 m < b) ∨ z1 1 m = 1000 := by
    split at q1
    · exact Or.inl q1
    · exact Or.inr (q1 k7)
  have c2 : (a ≤ z1 2 m ∧ z1 2 m < b) ∨ z1 2 m = 1000 := by
    split at q2
    · exact Or.inl q2
    · exact Or.inr q2
  have c3 : (a ≤ z1 3 m ∧ z1 3 m < b) ∨ z1 3 m = 1000 := by
    split at q3
    · exact Or.inl q3.1
    · exact Or.inr q3
  refine ⟨fun e e1 e2 => ?_, h2, h3⟩
  by_cases s : a ≤ e ∧ e < b
  · by_cases er : e = r
    · have hr := h1 r s1 s2
      rw [sr] at hr
      rw [er]
      constructor
      · intro q; omega
      · intro q; have := hr.mpr q; omega
    · rw [rt 5 e (by decide) s.1 s.2 (Or.inl er)]
      exact h1 e s.1 s.2
  · have := ho e e1 e2 (by omega)
    constructor
    · intro q; omega
    · intro q; omega
/-- a sign or a call between two parts -/
theorem chp_bin (hL : PSI kd pl nt z l d w zL) (hk : zA = zk pl zL k d ∨ zA = adv (zk pl zL k d)) (h7 : k ≠ 7) (hR : PSI kd pl nt zA cR d r zR) (cL : CHP zL (z 30 0) (zL 30 0)) (cRr : CHP zR (zL 30 0 + 1) (zR 30 0)) (hz : z' = zlk (zlk zR 1 (zL 30 0) w) 2 (zL 30 0) r) : CHP z' (z 30 0) (zR 30 0) := by
  have A : ∀ u v, (u ≠ 30 ∨ v ≠ 4) → zA u v = zk pl zL k d u v := fun u v h => by
    rcases hk with rfl | rfl
    · rfl
    · exact adv_n h
  have A0 : zA 30 0 = zL 30 0 + 1 := by rw [A _ _ (by decide)]; exact zk_0
  have wLA : Wq zL zA := by
    rcases hk with rfl | rfl
    · exact wq_zk
    · exact wq_adv wq_zk
  have wLR := wLA.tr hR.1
  have sgL := hL.2.2.1
  have sgR := hR.2.2.1
  have chR := hR.2.2.2.1
  rw [A0] at sgR chR
  have hl := sgL.1
  have hr := sgR.1
  have m400 := hr.2.2
  have e2 : ∀ u v, z' u v = if u = 5 ∧ v = r then zL 30 0 else if u = 2 ∧ v = zL 30 0 then r else if u = 5 ∧ v = w then zL 30 0 else if u = 1 ∧ v = zL 30 0 then w else zR u v := fun _ _ => by rw [hz]; rfl
  have rtL : RT zL z' (z 30 0) (zL 30 0) w := fun c n c1 h1 h2 h3 => by
    rw [e2, if_neg (by omega), if_neg (by omega), if_neg (by omega), if_neg (by omega)]
    exact wLR.2.1 c n c1 h2
  have rtR : RT zR z' (zL 30 0 + 1) (zR 30 0) r := fun c n c1 h1 h2 h3 => by
    rw [e2, if_neg (by omega), if_neg (by omega), if_neg (by omega), if_neg (by omega)]
  have p5w : z' 5 w = zL 30 0 := by rw [e2, if_neg (by omega), if_neg (by omega), if_pos ⟨rfl, rfl⟩]
  have p5r : z' 5 r = zL 30 0 := by rw [e2, if_pos ⟨rfl, rfl⟩]
  have new : NEW pl zL zR k d (zL 30 3) (zL 30 0) := by
    refine NEW_c (NEW_c (NEW_zk (pl := pl) (z := zL) (k := k) (d := d)).1 (z2 := zA) (fun c c1 _ => A c _ (by omega))) (fun c c1 _ => ?_)
    exact hR.1.2.1 c _ c1 (by omega)
  obtain ⟨⟨n0, -⟩, -, -, n3, n5, -⟩ := new
  have pn : z' 5 (zL 30 0) = 1000 := by rw [e2, if_neg (by omega), if_neg (by omega), if_neg (by omega), if_neg (by omega)]; exact n5
  have pL : ∀ e, z 30 0 ≤ e → e < zL 30 0 → e ≠ w → z 30 0 ≤ z' 5 e ∧ z' 5 e < zL 30 0 := fun e h1 h2 h3 => by
    rw [rtL 5 e (by decide) h1 h2 (Or.inl h3)]
    have := sgL.2.2.2.1 e h1 h2 h3; omega
  have pR : ∀ e, zL 30 0 + 1 ≤ e → e < zR 30 0 → e ≠ r → zL 30 0 + 1 ≤ z' 5 e ∧ z' 5 e < zR 30 0 := fun e h1 h2 h3 => by
    rw [rtR 5 e (by decide) h1 h2 (Or.inl h3)]
    have := sgR.2.2.2.1 e h1 h2 h3; omega
  intro m m1 m2
  rcases Nat.lt_trichotomy m (zL 30 0) with s | s | s
  · refine chp_mv cL sgL hL.2.2.2.1 rtL ⟨Nat.le_refl _, by omega, m400⟩ (by omega) (fun e x1 x2 x3 => ?_) m m1 s
    by_cases en : e = zL 30 0
    · rw [en, pn]; omega
    · by_cases er : e = r
      · rw [er, p5r]; omega
      · have := pR e (by omega) x2 er; omega
  · subst s
    intro _
    have k1 : z' 1 (zL 30 0) = w := by rw [e2, if_neg (by omega), if_neg (by omega), if_neg (by omega), if_pos ⟨rfl, rfl⟩]
    have k2 : z' 2 (zL 30 0) = r := by rw [e2, if_neg (by omega), if_pos ⟨rfl, rfl⟩]
    have k3 : z' 3 (zL 30 0) = 1000 := by rw [e2, if_neg (by omega), if_neg (by omega), if_neg (by omega), if_neg (by omega)]; exact n3
    rw [k1, k2, k3]
    refine ⟨fun e x1 x2 => ?_, fun _ => by omega, fun q => by omega⟩
    constructor
    · intro q
      by_cases ew : e = w
      · exact Or.inl ew
      · by_cases er : e = r
        · exact Or.inr (Or.inl er)
        · exfalso
          rcases Nat.lt_trichotomy e (zL 30 0) with t | t | t
          · have := pL e x1 t ew; omega
          · rw [t, pn] at q; omega
          · have := pR e (by omega) x2 er; omega
    · rintro (q | q | q)
      · rw [q]; exact p5w
      · rw [q]; exact p5r
      · omega
  · refine chp_mv cRr sgR chR rtR ⟨by omega, Nat.le_refl _, m400⟩ (by omega) (fun e x1 x2 x3 => ?_) m (by omega) m2
    by_cases en : e = zL 30 0
    · rw [en, pn]; omega
    · by_cases er : e = w
      · rw [er, p5w]; omega
      · have := pL e x1 (by omega) er; omega
/-- columns that do not count here -/
theorem chp_e (h : CHP z lo hi) (he : ∀ c m, (c ≤ 3 ∨ c = 5) → z' c m = z c m) : CHP z' lo hi := fun m m1 m2 k7 => by
  rw [he 0 m (by omega)] at k7
  obtain ⟨a1, a2, a3⟩ := h m m1 m2 k7
  rw [he 1 m (by omega), he 2 m (by omega), he 3 m (by omega)]
  exact ⟨fun e x1 x2 => by rw [he 5 e (by omega)]; exact a1 e x1 x2, a2, a3⟩
theorem chp_lam (hs : PSI kd pl nt (zla pl z d) 0 (d + 1) r z1) (c1 : CHP z1 (z 30 0 + 1) (z1 30 0)) : CHP (zu (zlk z1 1 (z 30 0) r) 30 6 (z 30 6)) (z 30 0) (z1 30 0) := by
  obtain ⟨⟨f0, -⟩, new, -⟩ := zla_f (pl := pl) (z := z) (d := d)
  have sg := hs.2.2.1
  have ch := hs.2.2.2.1
  rw [f0] at sg ch
  have hr := sg.1
  have m400 := hr.2.2
  have e2 : ∀ u v, zu (zlk z1 1 (z 30 0) r) 30 6 (z 30 6) u v = if u = 30 ∧ v = 6 then z 30 6 else if u = 5 ∧ v = r then z 30 0 else if u = 1 ∧ v = z 30 0 then r else z1 u v := fun _ _ => rfl
  have rt : RT z1 (zu (zlk z1 1 (z 30 0) r) 30 6 (z 30 6)) (z 30 0 + 1) (z1 30 0) r := fun c n h1 h2 h3 h4 => by rw [e2, if_neg (by omega), if_neg (by omega), if_neg (by omega)]
  have p5r : zu (zlk z1 1 (z 30 0) r) 30 6 (z 30 6) 5 r = z 30 0 := by rw [e2, if_neg (by omega), if_pos ⟨rfl, rfl⟩]
  have nd : ∀ c, c < 16 → c ≠ 1 → zu (zlk z1 1 (z 30 0) r) 30 6 (z 30 6) c (z 30 0) = zla pl z d c (z 30 0) := fun c h1 h2 => by
    rw [e2, if_neg (by omega), if_neg (by omega), if_neg (by omega)]
    exact hs.1.2.1 c _ h1 (by omega)
  obtain ⟨⟨n0, -⟩, -, n2, n3, n5, -⟩ := new
  have pn := (nd 5 (by decide) (by decide)).trans n5
  have pR : ∀ e, z 30 0 + 1 ≤ e → e < z1 30 0 → e ≠ r → z 30 0 + 1 ≤ zu (zlk z1 1 (z 30 0) r) 30 6 (z 30 6) 5 e ∧ zu (zlk z1 1 (z 30 0) r) 30 6 (z 30 6) 5 e < z1 30 0 := fun e h1 h2 h3 => by
    rw [rt 5 e (by decide) h1 h2 (Or.inl h3)]
    have := sg.2.2.2.1 e h1 h2 h3; omega
  intro m m1 m2
  by_cases s : m = z 30 0
  · subst s
    intro _
    have k1 : zu (zlk z1 1 (z 30 0) r) 30 6 (z 30 6) 1 (z 30 0) = r := by rw [e2, if_neg (by omega), if_neg (by omega), if_pos ⟨rfl, rfl⟩]
    rw [k1, nd 2 (by decide) (by decide), nd 3 (by decide) (by decide), n2, n3]
    refine ⟨fun e x1 x2 => ?_, fun q => by omega, fun q => by omega⟩
    constructor
    · intro q
      by_cases er : e = r
      · exact Or.inl er
      · exfalso
        by_cases en : e = z 30 0
        · rw [en, pn] at q; omega
        · have := pR e (by omega) x2 er; omega
    · rintro (q | q | q)
      · rw [q]; exact p5r
      · omega
      · omega
  · refine chp_mv c1 sg ch rt ⟨by omega, Nat.le_refl _, m400⟩ (by omega) (fun e x1 x2 x3 => ?_) m (by omega) m2
    have en : e = z 30 0 := by omega
    rw [en, pn]; omega
theorem chp_if (hs1 : PSI kd pl nt (adv (zk pl z 5 d)) 0 (d + 1) r1 z1) (hs2 : PSI kd pl nt (adv z1) 0 (d + 1) r2 z2) (hs3 : PSI kd pl nt (adv z2) 0 (d + 1) r3 z3) (c1 : CHP z1 (z 30 0 + 1) (z1 30 0)) (c2 : CHP z2 (z1 30 0) (z2 30 0)) (c3 : CHP z3 (z2 30 0) (z3 30 0)) : CHP (zif z1 z2 z3 (z 30 0) r1 r2 r3) (z 30 0) (z3 30 0) := by
  have w1 := hs1.1
  have w2 : Wq z1 z2 := (wq_adv Wq.rf).tr hs2.1
  have w3 : Wq z2 z3 := (wq_adv Wq.rf).tr hs3.1
  have w13 := w2.tr w3
  have f0 : adv (zk pl z 5 d) 30 0 = z 30 0 + 1 := by rw [adv_n (by decide)]; exact zk_0
  have sg1 := hs1.2.2.1
  have ch1 := hs1.2.2.2.1
  rw [f0] at sg1 ch1
  have sg2 : SEG kd pl z2 (z1 30 0) (z2 30 0) r2 (adv z1 30 4) (z2 30 4) (z1 30 3) (z2 30 3) := hs2.2.2.1
  have sg3 : SEG kd pl z3 (z2 30 0) (z3 30 0) r3 (adv z2 30 4) (z3 30 4) (z2 30 3) (z3 30 3) := hs3.2.2.1
  have ch2 : CHD kd z2 (z1 30 0) (z2 30 0) := hs2.2.2.2.1
  have ch3 : CHD kd z3 (z2 30 0) (z3 30 0) := hs3.2.2.2.1
  have hr1 := sg1.1
  have hr2 := sg2.1
  have hr3 := sg3.1
  have m400 := hr3.2.2
  have rt1 : RT z1 (zif z1 z2 z3 (z 30 0) r1 r2 r3) (z 30 0 + 1) (z1 30 0) r1 := fun c x c1 x1 x2 x3 => by
    rw [zif_e, if_neg (by omega), if_neg (by omega), if_neg (by omega), if_neg (by omega), if_neg (by omega), if_neg (by omega), if_neg (by omega), if_neg (by omega), if_neg (by omega), if_neg (by omega)]
    exact w13.2.1 c x c1 x2
  have rt2 : RT z2 (zif z1 z2 z3 (z 30 0) r1 r2 r3) (z1 30 0) (z2 30 0) r2 := fun c x c1 x1 x2 x3 => by
    rw [zif_e, if_neg (by omega), if_neg (by omega), if_neg (by omega), if_neg (by omega), if_neg (by omega), if_neg (by omega), if_neg (by omega), if_neg (by omega), if_neg (by omega), if_neg (by omega)]
    exact w3.2.1 c x c1 x2
  have rt3 : RT z3 (zif z1 z2 z3 (z 30 0) r1 r2 r3) (z2 30 0) (z3 30 0) r3 := fun c x c1 x1 x2 x3 => by
    rw [zif_e, if_neg (by omega), if_neg (by omega), if_neg (by omega), if_neg (by omega), if_neg (by omega), if_neg (by omega), if_neg (by omega), if_neg (by omega), if_neg (by omega), if_neg (by omega)]
  have p51 : zif z1 z2 z3 (z 30 0) r1 r2 r3 5 r1 = z 30 0 := by rw [zif_e, if_neg (by omega), if_neg (by omega), if_neg (by omega), if_neg (by omega), if_pos ⟨rfl, rfl⟩]
  have p52 : zif z1 z2 z3 (z 30 0) r1 r2 r3 5 r2 = z 30 0 := by rw [zif_e, if_neg (by omega), if_neg (by omega), if_pos ⟨rfl, rfl⟩]
  have p53 : zif z1 z2 z3 (z 30 0) r1 r2 r3 5 r3 = z 30 0 := by rw [zif_e, if_pos ⟨rfl, rfl⟩]
  have pn : zif z1 z2 z3 (z 30 0) r1 r2 r3 5 (z 30 0) = 1000 := by
    rw [zif_e, if_neg (by omega), if_neg (by omega), if_neg (by omega), if_neg (by omega), if_neg (by omega), if_neg (by omega), if_neg (by omega), if_neg (by omega), if_neg (by omega), if_neg (by omega), w13.2.1 5 _ (by decide) (by omega), w1.2.1 5 _ (by decide) (by omega), adv_n (by omega)]
    exact NEW_zk.1.2.2.2.2.1
  have P1 : ∀ e, z 30 0 + 1 ≤ e → e < z1 30 0 → e ≠ r1 → z 30 0 + 1 ≤ zif z1 z2 z3 (z 30 0) r1 r2 r3 5 e ∧ zif z1 z2 z3 (z 30 0) r1 r2 r3 5 e < z1 30 0 := fun e h1 h2 h3 => by
    rw [rt1 5 e (by decide) h1 h2 (Or.inl h3)]
    have := sg1.2.2.2.1 e h1 h2 h3; omega
  have P2 : ∀ e, z1 30 0 ≤ e → e < z2 30 0 → e ≠ r2 → z1 30 0 ≤ zif z1 z2 z3 (z 30 0) r1 r2 r3 5 e ∧ zif z1 z2 z3 (z 30 0) r1 r2 r3 5 e < z2 30 0 := fun e h1 h2 h3 => by
    rw [rt2 5 e (by decide) h1 h2 (Or.inl h3)]
    have := sg2.2.2.2.1 e h1 h2 h3; omega
  have P3 : ∀ e, z2 30 0 ≤ e → e < z3 30 0 → e ≠ r3 → z2 30 0 ≤ zif z1 z2 z3 (z 30 0) r1 r2 r3 5 e ∧ zif z1 z2 z3 (z 30 0) r1 r2 r3 5 e < z3 30 0 := fun e h1 h2 h3 => by
    rw [rt3 5 e (by decide) h1 h2 (Or.inl h3)]
    have := sg3.2.2.2.1 e h1 h2 h3; omega
  -- where a node's parent may lie
  have W : ∀ e, z 30 0 ≤ e → e < z3 30 0 → (zif z1 z2 z3 (z 30 0) r1 r2 r3 5 e = z 30 0 ∧ (e = r1 ∨ e = r2 ∨ e = r3)) ∨ (e = z 30 0 ∧ zif z1 z2 z3 (z 30 0) r1 r2 r3 5 e = 1000) ∨ (e < z1 30 0 ∧ z 30 0 + 1 ≤ zif z1 z2 z3 (z 30 0) r1 r2 r3 5 e ∧ zif z1 z2 z3 (z 30 0) r1 r2 r3 5 e < z1 30 0 ∧ z 30 0 < e) ∨ (z1 30 0 ≤ e ∧ e < z2 30 0 ∧ z1 30 0 ≤ zif z1 z2 z3 (z 30 0) r1 r2 r3 5 e ∧ zif z1 z2 z3 (z 30 0) r1 r2 r3 5 e < z2 30 0) ∨ (z2 30 0 ≤ e ∧ z2 30 0 ≤ zif z1 z2 z3 (z 30 0) r1 r2 r3 5 e ∧ zif z1 z2 z3 (z 30 0) r1 r2 r3 5 e < z3 30 0) := fun e x1 x2 => by
    by_cases e1 : e = r1
    · rw [e1]; exact Or.inl ⟨p51, Or.inl rfl⟩
    · by_cases e2 : e = r2
      · rw [e2]; exact Or.inl ⟨p52, Or.inr (Or.inl rfl)⟩
      · by_cases e3 : e = r3
        · rw [e3]; exact Or.inl ⟨p53, Or.inr (Or.inr rfl)⟩
        · by_cases en : e = z 30 0
          · rw [en]; exact Or.inr (Or.inl ⟨rfl, pn⟩)
          · by_cases q1 : e < z1 30 0
            · have := P1 e (by omega) q1 e1; exact Or.inr (Or.inr (Or.inl ⟨q1, this.1, this.2, by omega⟩))
            · by_cases q2 : e < z2 30 0
              · have := P2 e (by omega) q2 e2; exact Or.inr (Or.inr (Or.inr (Or.inl ⟨by omega, q2, this.1, this.2⟩)))
              · have := P3 e (by omega) x2 e3; exact Or.inr (Or.inr (Or.inr (Or.inr ⟨by omega, this.1, this.2⟩)))
  intro m m1 m2
  by_cases s : m = z 30 0
  · subst s
    intro _
    have k1 : zif z1 z2 z3 (z 30 0) r1 r2 r3 1 (z 30 0) = r1 := by rw [zif_e, if_neg (by omega), if_neg (by omega), if_neg (by omega), if_neg (by omega), if_neg (by omega), if_pos ⟨rfl, rfl⟩]
    have k2 : zif z1 z2 z3 (z 30 0) r1 r2 r3 2 (z 30 0) = r2 := by rw [zif_e, if_neg (by omega), if_neg (by omega), if_neg (by omega), if_pos ⟨rfl, rfl⟩]
    have k3 : zif z1 z2 z3 (z 30 0) r1 r2 r3 3 (z 30 0) = r3 := by rw [zif_e, if_neg (by omega), if_pos ⟨rfl, rfl⟩]
    rw [k1, k2, k3]
    refine ⟨fun e x1 x2 => ?_, fun _ => by omega, fun _ => by omega⟩
    constructor
    · intro q
      rcases W e x1 x2 with h | h | h | h | h
      · exact h.2
      · omega
      · omega
      · omega
      · omega
    · rintro (q | q | q)
      · rw [q]; exact p51
      · rw [q]; exact p52
      · rw [q]; exact p53
  · by_cases q1 : m < z1 30 0
    · refine chp_mv c1 sg1 ch1 rt1 ⟨by omega, by omega, m400⟩ (by omega) (fun e x1 x2 x3 => ?_) m (by omega) q1
      have := W e x1 x2; omega
    · by_cases q2 : m < z2 30 0
      · refine chp_mv c2 sg2 ch2 rt2 ⟨by omega, by omega, m400⟩ (by omega) (fun e x1 x2 x3 => ?_) m (by omega) q2
        have := W e x1 x2; omega
      · refine chp_mv c3 sg3 ch3 rt3 ⟨by omega, Nat.le_refl _, m400⟩ (by omega) (fun e x1 x2 x3 => ?_) m (by omega) m2
        have := W e x1 x2; omega
end CHPS
