section MPAIR
variable {tp : Nat → Nat} {n nt e e1 k M d oc cb B op v r r2 s p : Nat} {sv nv : Int32} {S : lm_S} {I I' I1 I2 I3 : lm_I} {L L' L1 L2 L3 : lm_L} {R : lm_R} {Q K : Option Value → lm_M → Prop} {z z0 z1 z2 zp' : Zt} {rec : Nat → Nat → Zt → Rs} {pr : Nat → Bool}
/-- a pair's node and its parts, in the draft -/
theorem masm_pair (ht : tko (xk tp n) (xp tp n) nt) (hw : WFz nt d z) (hs1 : PSI (xk tp n) (xp tp n) nt (adv (zp (xp tp n) z d)) 0 (d + 1) r z1) (hs2 : PSI (xk tp n) (xp tp n) nt (adv (zc z1 (z 30 0))) 0 (d + 1) r2 z2) {av1 av2 : Int32} (s1 : SGm (xp tp n) (xy tp n) I1 L1 z1 (z 30 0 + 1) (z1 30 0) r av1) (s2 : SGm (xp tp n) (xy tp n) I2 L2 z2 (z1 30 0) (z2 30 0) r2 av2)
    (hI1 : ∀ o m, 99 ≤ o → o ≤ 109 → m < z1 30 3 → (m ≠ z1 6 r ∨ o ≠ 105) → I3 o m = I1 o m) (hL1 : ∀ m, m < z1 30 3 → L3 101 m = L1 101 m)
    (hI2 : ∀ o m, 99 ≤ o → o ≤ 109 → z1 30 3 < m → (m ≠ z2 6 r2 ∨ o ≠ 105) → I3 o m = I2 o m) (hL2 : ∀ m, z1 30 3 < m → L3 101 m = L2 101 m)
    (h5 : I3 105 (z1 6 r) = nI (z1 30 3) ∧ I3 105 (z2 6 r2) = nI (z1 30 3)) (hm : I3 99 (z1 30 3) = nI 6 ∧ I3 100 (z1 30 3) = nI (xp tp n (z 30 4)) ∧ I3 102 (z1 30 3) = nI (z1 6 r) ∧ I3 103 (z1 30 3) = nI (z2 6 r2) ∧ I3 104 (z1 30 3) = -9 ∧ I3 105 (z1 30 3) = -9 ∧ I3 106 (z1 30 3) = sM z (z 30 6) ∧ I3 107 (z1 30 3) = nI (z 30 1 - 1) ∧ I3 109 (z1 30 3) = nI 0) : SGm (xp tp n) (xy tp n) I3 L3 (zpr z2 (z 30 0) r r2) (z 30 0) (z2 30 0) (z 30 0) (-9) := by
  obtain ⟨⟨f0, f1, f2, f3, f4, f5, f6⟩, new, n4, f32, wz, f33⟩ := zp_f (pl := xp tp n) (z := z) (d := d)
  have w1 := hs1.1
  have w2 := hs2.1
  have sg1 := hs1.2.2.1
  have sg2 := hs2.2.2.1
  have ch1 := hs1.2.2.2.1
  have ch2 := hs2.2.2.2.1
  have C : ∀ u v, u ≠ 6 ∨ v ≠ z 30 0 → u ≠ 30 ∨ v ≠ 3 → u ≠ 31 ∨ v ≠ z1 30 3 → u ≠ 30 ∨ v ≠ 4 → adv (zc z1 (z 30 0)) u v = z1 u v := fun u v h1 h2 h3 h4 => by rw [adv_n h4, zc_e, if_neg (by omega), if_neg (by omega), if_neg (by omega)]
  have C0 := C 30 0 (by omega) (by omega) (by omega) (by omega)
  have C2 := C 30 2 (by omega) (by omega) (by omega) (by omega)
  have C3 : adv (zc z1 (z 30 0)) 30 3 = z1 30 3 + 1 := by rw [adv_n (by decide), zc_e, if_neg (by omega), if_pos ⟨rfl, rfl⟩]
  have C66 : adv (zc z1 (z 30 0)) 6 (z 30 0) = z1 30 3 := by rw [adv_n (by omega), zc_e, if_pos ⟨rfl, rfl⟩]
  rw [f0] at sg1 ch1
  rw [f3] at sg1
  rw [C0] at sg2 ch2
  rw [C3] at sg2
  have hr1 := sg1.1
  have hr2 := sg2.1
  have nr1 := (sg1.2.2.1 r hr1.1 hr1.2.1).2.1
  have nr2 := (sg2.2.2.1 r2 hr2.1 hr2.2.1).2.1
  have m400 := hr2.2.2
  have w10 := w1.1.2.1
  rw [f0] at w10
  have e2 : ∀ u v, u < 16 → zpr z2 (z 30 0) r r2 u v = if u = 5 ∧ v = r2 then z 30 0 else if u = 2 ∧ v = z 30 0 then r2 else if u = 5 ∧ v = r then z 30 0 else if u = 1 ∧ v = z 30 0 then r else z2 u v := fun u v h => by
    show adv (zlk (zlk z2 1 (z 30 0) r) 2 (z 30 0) r2) u v = _
    rw [adv_n (by omega)]; rfl
  have o2 : ∀ c x, c < 16 → x < z1 30 0 → (c ≠ 6 ∨ x ≠ z 30 0) → z2 c x = z1 c x := fun c x h1 h2 h3 => by
    rw [w2.2.1 c x h1 (by rw [C0]; exact h2), C c x (by omega) (by omega) (by omega) (by omega)]
  have rt1 : RT z1 (zpr z2 (z 30 0) r r2) (z 30 0 + 1) (z1 30 0) r := fun c x c1 h1 h2 h3 => by
    rw [e2 c x c1, if_neg (by omega), if_neg (by omega), if_neg (by omega), if_neg (by omega)]
    exact o2 c x c1 h2 (by omega)
  have rt2 : RT z2 (zpr z2 (z 30 0) r r2) (z1 30 0) (z2 30 0) r2 := fun c x c1 h1 h2 h3 => by
    rw [e2 c x c1, if_neg (by omega), if_neg (by omega), if_neg (by omega), if_neg (by omega)]
  have e22 : ∀ b, zpr z2 (z 30 0) r r2 22 b = z2 22 b := fun b => by
    show adv (zlk (zlk z2 1 (z 30 0) r) 2 (z 30 0) r2) 22 b = _
    rw [adv_n (by omega)]; rfl
  have l22 : ∀ b, b < z1 30 2 → zpr z2 (z 30 0) r r2 22 b = z1 22 b := fun b h => by
    rw [e22, w2.2.2.2.1 22 b (by decide) (by decide) (by rw [C2]; exact h), C 22 b (by omega) (by omega) (by omega) (by omega)]
  have p51 : zpr z2 (z 30 0) r r2 5 r = z 30 0 := by rw [e2 5 r (by decide), if_neg (by omega), if_neg (by omega), if_pos ⟨rfl, rfl⟩]
  have p52 : zpr z2 (z 30 0) r r2 5 r2 = z 30 0 := by rw [e2 5 r2 (by decide), if_pos ⟨rfl, rfl⟩]
  have nd : ∀ c, c < 16 → c ≠ 1 → c ≠ 2 → c ≠ 5 → c ≠ 6 → zpr z2 (z 30 0) r r2 c (z 30 0) = adv (zp (xp tp n) z d) c (z 30 0) := fun c h1 h2 h3 h4 h5 => by
    rw [e2 c _ h1, if_neg (by omega), if_neg (by omega), if_neg (by omega), if_neg (by omega), o2 c _ h1 (by omega) (by omega)]
    exact w1.2.1 c _ h1 (by omega)
  obtain ⟨⟨n0, n6, n7, n8, n10, n13, n14, n15⟩, n1, n2, n3, n5, n9, n11, n12⟩ := new
  have k0 : zpr z2 (z 30 0) r r2 0 (z 30 0) = 6 := by rw [nd 0 (by decide) (by decide) (by decide) (by decide) (by decide)]; exact n0
  have k6 : zpr z2 (z 30 0) r r2 6 (z 30 0) = z1 30 3 := by
    rw [e2 6 _ (by decide), if_neg (by omega), if_neg (by omega), if_neg (by omega), if_neg (by omega), w2.2.1 6 _ (by decide) (by rw [C0]; omega)]
    exact C66
  have k61 : zpr z2 (z 30 0) r r2 6 r = z1 6 r := rt1 6 r (by decide) hr1.1 hr1.2.1 (Or.inr ⟨by decide, by decide, by decide, by decide⟩)
  have k62 : zpr z2 (z 30 0) r r2 6 r2 = z2 6 r2 := rt2 6 r2 (by decide) hr2.1 hr2.2.1 (Or.inr ⟨by decide, by decide, by decide, by decide⟩)
  have SL : SGm (xp tp n) (xy tp n) I3 L3 (zpr z2 (z 30 0) r r2) (z 30 0 + 1) (z1 30 0) r (nI (z1 30 3)) := by
    refine SGm_mv s1 sg1 ch1 rt1 (fun o m h1 h2 h3 h4 h5 => hI1 o m h1 h2 h4 (by omega)) (fun m h1 h2 => hL1 m h2) l22 h5.1 ?_ (fun _ h => ?_)
    · rw [hI1 109 _ (by decide) (by decide) nr1.2.1 (Or.inr (by decide)), show zpr z2 (z 30 0) r r2 13 r = z1 13 r by rw [e2 13 r (by decide), if_neg (by omega), if_neg (by omega), if_neg (by omega), if_neg (by omega)]; exact o2 13 r (by decide) hr1.2.1 (by omega)]
      exact (s1 r hr1.1 hr1.2.1).1.2.2.2.2.2.2.2.2
    · rw [p51, k0] at h; omega
  have SR : SGm (xp tp n) (xy tp n) I3 L3 (zpr z2 (z 30 0) r r2) (z1 30 0) (z2 30 0) r2 (nI (z1 30 3)) := by
    refine SGm_mv s2 sg2 ch2 rt2 (fun o m h1 h2 h3 h4 h5 => hI2 o m h1 h2 (by omega) (by omega)) (fun m h1 h2 => hL2 m (by omega)) (fun b _ => e22 b) h5.2 ?_ (fun _ h => ?_)
    · rw [hI2 109 _ (by decide) (by decide) (by omega) (Or.inr (by decide)), show zpr z2 (z 30 0) r r2 13 r2 = z2 13 r2 by rw [e2 13 r2 (by decide), if_neg (by omega), if_neg (by omega), if_neg (by omega), if_neg (by omega)]]
      exact (s2 r2 hr2.1 hr2.2.1).1.2.2.2.2.2.2.2.2
    · rw [p52, k0] at h; omega
  intro x x1 x2
  by_cases s0 : x = z 30 0
  · subst s0
    rw [if_pos rfl]
    obtain ⟨m1, m2, m3, m4, m5, m6, m7, m8, m9⟩ := hm
    have k1 : zpr z2 (z 30 0) r r2 1 (z 30 0) = r := by rw [e2 1 _ (by decide), if_neg (by omega), if_neg (by omega), if_neg (by omega), if_pos ⟨rfl, rfl⟩]
    have k2 : zpr z2 (z 30 0) r r2 2 (z 30 0) = r2 := by rw [e2 2 _ (by decide), if_neg (by omega), if_pos ⟨rfl, rfl⟩]
    have k5 : zpr z2 (z 30 0) r r2 5 (z 30 0) = 1000 := by
      rw [e2 5 _ (by decide), if_neg (by omega), if_neg (by omega), if_neg (by omega), if_neg (by omega), o2 5 _ (by decide) (by omega) (by omega), w1.2.1 5 _ (by decide) (by omega)]
      exact n5
    have v6 := hw.2.2.2.2.2
    have es : sM (zpr z2 (z 30 0) r r2) (z 30 6) = sM z (z 30 6) := sM_eq (fun q1 q2 => by
      have w12 := w1.1.2.2.2.1
      rw [f2] at w12
      rw [l22 _ (by omega), w1.2.2.2.1 22 _ (by decide) (by decide) (by rw [f2]; omega)]
      exact wz.2.2.2.1 22 _ (by decide) (by decide) (by omega))
    unfold mN
    rw [k0, k1, k2, nd 3 (by decide) (by decide) (by decide) (by decide) (by decide), k5, k6, nd 7 (by decide) (by decide) (by decide) (by decide) (by decide), nd 10 (by decide) (by decide) (by decide) (by decide) (by decide), nd 14 (by decide) (by decide) (by decide) (by decide) (by decide), nd 13 (by decide) (by decide) (by decide) (by decide) (by decide), n3, n7, n10, n14, n13, oM_lt (show r < 1000 by omega), oM_lt (show r2 < 1000 by omega), k61, k62, if_neg (by omega), es]
    exact ⟨⟨m1, m2, m3, m4, m5, m6, m7, m8, m9⟩, fun h => by omega, fun h => by omega, fun h => by omega, fun h => by omega⟩
  · rw [if_neg s0]
    by_cases s : x < z1 30 0
    · have := SL x (by omega) s
      by_cases sw : x = r
      · rw [if_pos sw] at this
        rw [sw] at this ⊢
        rw [p51, oM_lt (by omega), k6]; exact this
      · rw [if_neg sw] at this; exact this
    · have := SR x (by omega) x2
      by_cases sw : x = r2
      · rw [if_pos sw] at this
        rw [sw] at this ⊢
        rw [p52, oM_lt (by omega), k6]; exact this
      · rw [if_neg sw] at this; exact this
end MPAIR
