section CHPS2
variable {kd pl : Nat → Nat} {pr : Nat → Bool} {nt d w r r2 la jo : Nat} {z z1 z2 y : Zt} {es : List Nat} {rec : Nat → Nat → Zt → Rs}
theorem chp_pair (hs1 : PSI kd pl nt (adv (zp pl z d)) 0 (d + 1) r z1) (hs2 : PSI kd pl nt (adv (zc z1 (z 30 0))) 0 (d + 1) r2 z2) (c1 : CHP z1 (z 30 0 + 1) (z1 30 0)) (c2 : CHP z2 (z1 30 0) (z2 30 0)) : CHP (zpr z2 (z 30 0) r r2) (z 30 0) (z2 30 0) := by
  obtain ⟨⟨f0, f1, f2, f3, f4, f5, f6⟩, new, n4, f32, wz, f33⟩ := zp_f (pl := pl) (z := z) (d := d)
  have w1 := hs1.1
  have w2 := hs2.1
  have C : ∀ u v, u ≠ 6 ∨ v ≠ z 30 0 → u ≠ 30 ∨ v ≠ 3 → u ≠ 31 ∨ v ≠ z1 30 3 → u ≠ 30 ∨ v ≠ 4 → adv (zc z1 (z 30 0)) u v = z1 u v := fun u v h1 h2 h3 h4 => by rw [adv_n h4, zc_e, if_neg (by omega), if_neg (by omega), if_neg (by omega)]
  have C0 := C 30 0 (by omega) (by omega) (by omega) (by omega)
  have sg1 := hs1.2.2.1
  have sg2 := hs2.2.2.1
  have ch1 := hs1.2.2.2.1
  have ch2 := hs2.2.2.2.1
  rw [f0] at sg1 ch1
  rw [C0] at sg2 ch2
  have hr1 := sg1.1
  have hr2 := sg2.1
  have m400 := hr2.2.2
  have w10 := w1.1.2.1
  rw [f0] at w10
  have e2 : ∀ u v, u < 16 → zpr z2 (z 30 0) r r2 u v = if u = 5 ∧ v = r2 then z 30 0 else if u = 2 ∧ v = z 30 0 then r2 else if u = 5 ∧ v = r then z 30 0 else if u = 1 ∧ v = z 30 0 then r else z2 u v := fun u v h => by
    show adv (zlk (zlk z2 1 (z 30 0) r) 2 (z 30 0) r2) u v = _
    rw [adv_n (by omega)]; rfl
  have o2 : ∀ c x, c < 16 → x < z1 30 0 → (c ≠ 6 ∨ x ≠ z 30 0) → z2 c x = z1 c x := fun c x h1 h2 h3 => by
    rw [w2.2.1 c x h1 (by rw [C0]; exact h2), C c x (by omega) (by omega) (by omega) (by omega)]
  have rt1 : RT z1 (zpr z2 (z 30 0) r r2) (z 30 0 + 1) (z1 30 0) r := fun c x c1 h1 h2 h3 => by
    rw [e2 c x c1, if_neg (by omega), if_neg (by omega), if_neg (by omega), if_neg (by omega)]
    exact o2 c x c1 h2 (by omega)
  have rt2 : RT z2 (zpr z2 (z 30 0) r r2) (z1 30 0) (z2 30 0) r2 := fun c x c1 h1 h2 h3 => by
    rw [e2 c x c1, if_neg (by omega), if_neg (by omega), if_neg (by omega), if_neg (by omega)]
  have p51 : zpr z2 (z 30 0) r r2 5 r = z 30 0 := by rw [e2 5 r (by decide), if_neg (by omega), if_neg (by omega), if_pos ⟨rfl, rfl⟩]
  have p52 : zpr z2 (z 30 0) r r2 5 r2 = z 30 0 := by rw [e2 5 r2 (by decide), if_pos ⟨rfl, rfl⟩]
  obtain ⟨⟨n0, -⟩, -, -, n3, n5, -⟩ := new
  have pn : zpr z2 (z 30 0) r r2 5 (z 30 0) = 1000 := by
    rw [e2 5 _ (by decide), if_neg (by omega), if_neg (by omega), if_neg (by omega), if_neg (by omega), o2 5 _ (by decide) (by omega) (by omega), w1.2.1 5 _ (by decide) (by omega)]
    exact n5
  have P1 : ∀ e, z 30 0 + 1 ≤ e → e < z1 30 0 → e ≠ r → z 30 0 + 1 ≤ zpr z2 (z 30 0) r r2 5 e ∧ zpr z2 (z 30 0) r r2 5 e < z1 30 0 := fun e h1 h2 h3 => by
    rw [rt1 5 e (by decide) h1 h2 (Or.inl h3)]
    have := sg1.2.2.2.1 e h1 h2 h3; omega
  have P2 : ∀ e, z1 30 0 ≤ e → e < z2 30 0 → e ≠ r2 → z1 30 0 ≤ zpr z2 (z 30 0) r r2 5 e ∧ zpr z2 (z 30 0) r r2 5 e < z2 30 0 := fun e h1 h2 h3 => by
    rw [rt2 5 e (by decide) h1 h2 (Or.inl h3)]
    have := sg2.2.2.2.1 e h1 h2 h3; omega
  have W : ∀ e, z 30 0 ≤ e → e < z2 30 0 → (zpr z2 (z 30 0) r r2 5 e = z 30 0 ∧ (e = r ∨ e = r2)) ∨ (e = z 30 0 ∧ zpr z2 (z 30 0) r r2 5 e = 1000) ∨ (e < z1 30 0 ∧ z 30 0 + 1 ≤ zpr z2 (z 30 0) r r2 5 e ∧ zpr z2 (z 30 0) r r2 5 e < z1 30 0 ∧ z 30 0 < e) ∨ (z1 30 0 ≤ e ∧ z1 30 0 ≤ zpr z2 (z 30 0) r r2 5 e ∧ zpr z2 (z 30 0) r r2 5 e < z2 30 0) := fun e x1 x2 => by
    by_cases e1 : e = r
    · rw [e1]; exact Or.inl ⟨p51, Or.inl rfl⟩
    · by_cases e2 : e = r2
      · rw [e2]; exact Or.inl ⟨p52, Or.inr rfl⟩
      · by_cases en : e = z 30 0
        · rw [en]; exact Or.inr (Or.inl ⟨rfl, pn⟩)
        · by_cases q1 : e < z1 30 0
          · have := P1 e (by omega) q1 e1; exact Or.inr (Or.inr (Or.inl ⟨q1, this.1, this.2, by omega⟩))
          · have := P2 e (by omega) x2 e2; exact Or.inr (Or.inr (Or.inr ⟨by omega, this.1, this.2⟩))
  intro m m1 m2
  by_cases s : m = z 30 0
  · subst s
    intro _
    have k1 : zpr z2 (z 30 0) r r2 1 (z 30 0) = r := by rw [e2 1 _ (by decide), if_neg (by omega), if_neg (by omega), if_neg (by omega), if_pos ⟨rfl, rfl⟩]
    have k2 : zpr z2 (z 30 0) r r2 2 (z 30 0) = r2 := by rw [e2 2 _ (by decide), if_neg (by omega), if_pos ⟨rfl, rfl⟩]
    have k3 : zpr z2 (z 30 0) r r2 3 (z 30 0) = 1000 := by
      rw [e2 3 _ (by decide), if_neg (by omega), if_neg (by omega), if_neg (by omega), if_neg (by omega), o2 3 _ (by decide) (by omega) (by omega), w1.2.1 3 _ (by decide) (by omega)]
      exact n3
    rw [k1, k2, k3]
    refine ⟨fun e x1 x2 => ?_, fun _ => by omega, fun q => by omega⟩
    constructor
    · intro q
      rcases W e x1 x2 with h | h | h | h
      · rcases h.2 with h | h
        · exact Or.inl h
        · exact Or.inr (Or.inl h)
      · omega
      · omega
      · omega
    · rintro (q | q | q)
      · rw [q]; exact p51
      · rw [q]; exact p52
      · omega
  · by_cases q1 : m < z1 30 0
    · refine chp_mv c1 sg1 ch1 rt1 ⟨by omega, by omega, m400⟩ (by omega) (fun e x1 x2 x3 => ?_) m (by omega) q1
      have := W e x1 x2; omega
    · refine chp_mv c2 sg2 ch2 rt2 ⟨by omega, Nat.le_refl _, m400⟩ (by omega) (fun e x1 x2 x3 => ?_) m (by omega) m2
      have := W e x1 x2; omega
/-- one more element -/
theorem chp_el (hl : LI kd pl nt z y d la es) (hs : PSI kd pl nt y 0 (d + 1) r z1) (cy : CHP y (z 30 0) (y 30 0)) (c1 : CHP z1 (y 30 0) (z1 30 0)) : CHP (zel z1 (z 30 0) la jo r) (z 30 0) (z1 30 0) := by
  obtain ⟨⟨wy, y4, y0, y3, y6, y5, y5', y2, yN, yi⟩, sy, chy, ay, ⟨k0, k2, k3, k15, k8, k9, k11⟩, ⟨ch, pw, mb, iff, lst⟩, bc, g33⟩ := hl
  have lar : la = 1000 ∨ la < y 30 0 := by
    rcases lst with h | h
    · exact Or.inl h.1
    · exact Or.inr (mb la (List.mem_of_getLast? h)).2.1
  have w1 := hs.1
  have sg1 := hs.2.2.1
  have ch1 := hs.2.2.2.1
  have hr1 := sg1.1
  have m400 := hr1.2.2
  have E := zel_e (z1 := z1) (n := z 30 0) (la := la) (jo := jo) (r := r)
  have fr : ∀ c n, c < 16 → n < y 30 0 → z1 c n = y c n := w1.2.1
  have rt1 : RT z1 (zel z1 (z 30 0) la jo r) (y 30 0) (z1 30 0) r := fun c x h1 h2 h3 h4 => by
    rw [E, if_neg (by omega), if_neg (by omega), if_neg (by omega), if_neg (by omega)]
  have p5 : zel z1 (z 30 0) la jo r 5 r = z 30 0 := by rw [E, if_pos ⟨rfl, rfl⟩]
  have old : ∀ c x, c < 16 → x < y 30 0 → c ≠ 11 → (c ≠ 1 ∨ x ≠ z 30 0) → zel z1 (z 30 0) la jo r c x = y c x := fun c x h1 h2 h3 h4 => by
    rw [E, if_neg (by omega), if_neg (by omega), if_neg (by omega), if_neg (by omega)]
    exact fr c x h1 h2
  have P1 : ∀ e, y 30 0 ≤ e → e < z1 30 0 → e ≠ r → y 30 0 ≤ zel z1 (z 30 0) la jo r 5 e ∧ zel z1 (z 30 0) la jo r 5 e < z1 30 0 := fun e h1 h2 h3 => by
    rw [rt1 5 e (by decide) h1 h2 (Or.inl h3)]
    have := sg1.2.2.2.1 e h1 h2 h3; omega
  have P0 : ∀ e, z 30 0 ≤ e → e < y 30 0 → (zel z1 (z 30 0) la jo r 5 e < y 30 0 ∨ zel z1 (z 30 0) la jo r 5 e = 1000) := fun e h1 h2 => by
    rw [old 5 e (by decide) h2 (by decide) (by omega)]
    by_cases s : e = z 30 0
    · rw [s]; exact Or.inr sy.2.1
    · exact Or.inl (sy.2.2.2.1 e h1 h2 s).2.1
  intro m m1 m2
  by_cases q1 : m < y 30 0
  · intro k7
    rw [old 0 m (by decide) q1 (by decide) (by omega)] at k7
    have mn : m ≠ z 30 0 := fun q => by rw [q] at k7; exact k7 k0
    obtain ⟨h1, h2, h3⟩ := cy m m1 q1 k7
    obtain ⟨d1, d2, d3, -⟩ := chy m (by omega) q1
    rw [old 1 m (by decide) q1 (by decide) (by omega), old 2 m (by decide) q1 (by decide) (by omega), old 3 m (by decide) q1 (by decide) (by omega)]
    have c1' : y 1 m < y 30 0 ∨ y 1 m = 1000 := by
      split at d1
      · exact Or.inl d1.2
      · exact Or.inr (d1 k7)
    have c2' : y 2 m < y 30 0 ∨ y 2 m = 1000 := by
      split at d2
      · exact Or.inl d2.2
      · exact Or.inr d2
    have c3' : y 3 m < y 30 0 ∨ y 3 m = 1000 := by
      split at d3
      · exact Or.inl d3.1.2
      · exact Or.inr d3
    refine ⟨fun e x1 x2 => ?_, h2, h3⟩
    by_cases s : e < y 30 0
    · rw [old 5 e (by decide) s (by decide) (by omega)]
      exact h1 e x1 s
    · have : zel z1 (z 30 0) la jo r 5 e = z 30 0 ∨ y 30 0 ≤ zel z1 (z 30 0) la jo r 5 e := by
        by_cases er : e = r
        · rw [er]; exact Or.inl p5
        · exact Or.inr (P1 e (by omega) x2 er).1
      constructor
      · intro q; omega
      · intro q; omega
  · refine chp_mv c1 sg1 ch1 rt1 ⟨by omega, Nat.le_refl _, m400⟩ (by omega) (fun e x1 x2 x3 => ?_) m (by omega) m2
    have := P0 e x1 (by omega)
    omega
theorem chp_1 (h : z1 5 (z 30 0) = 1000 ∧ z1 1 (z 30 0) = 1000 ∧ z1 2 (z 30 0) = 1000 ∧ z1 3 (z 30 0) = 1000) (hz : z 30 0 < 1000) : CHP z1 (z 30 0) (z 30 0 + 1) := fun m m1 m2 _ => by
  have e : m = z 30 0 := by omega
  subst e
  obtain ⟨a1, a2, a3, a4⟩ := h
  rw [a2, a3, a4]
  refine ⟨fun e x1 x2 => ?_, fun q => by omega, fun q => by omega⟩
  have ee : e = z 30 0 := by omega
  subst ee
  rw [a1]
  omega
end CHPS2
