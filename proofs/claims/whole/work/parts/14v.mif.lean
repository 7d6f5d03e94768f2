section MIF
variable {tp : Nat → Nat} {n nt e d oc c v r r1 r2 r3 M B op M0 h s : Nat} {p : Int32} {S : lm_S} {I I' I0 I1 I2 I3 I4 : lm_I} {L L' L1 L2 L3 L4 : lm_L} {R : lm_R} {Q K : Option Value → lm_M → Prop} {z z1 z2 z3 : Zt} {rec : Nat → Nat → Zt → Rs}
theorem zif_e {m : Nat} : ∀ u v, zif z1 z2 z3 m r1 r2 r3 u v = if u = 5 ∧ v = r3 then m else if u = 3 ∧ v = m then r3 else if u = 5 ∧ v = r2 then m else if u = 2 ∧ v = m then r2 else if u = 5 ∧ v = r1 then m else if u = 1 ∧ v = m then r1 else if u = 34 ∧ v = z2 30 4 then r3 else if u = 9 ∧ v = r3 then z2 30 4 else if u = 34 ∧ v = z1 30 4 then r2 else if u = 9 ∧ v = r2 then z1 30 4 else z3 u v := fun _ _ => rfl
theorem zif_o {m u v : Nat} (h1 : u ≠ 1) (h2 : u ≠ 2) (h3 : u ≠ 3) (h5 : u ≠ 5) (h9 : u ≠ 9) (h34 : u ≠ 34) : zif z1 z2 z3 m r1 r2 r3 u v = z3 u v := by
  rw [zif_e, if_neg (by omega), if_neg (by omega), if_neg (by omega), if_neg (by omega), if_neg (by omega), if_neg (by omega), if_neg (by omega), if_neg (by omega), if_neg (by omega), if_neg (by omega)]
/-- an if's node and its three parts, in the draft -/
theorem masm_if (hw : WFz nt d z) (hs1 : PSI (xk tp n) (xp tp n) nt (adv (zk (xp tp n) z 5 d)) 0 (d + 1) r1 z1) (hs2 : PSI (xk tp n) (xp tp n) nt (adv z1) 0 (d + 1) r2 z2) (hs3 : PSI (xk tp n) (xp tp n) nt (adv z2) 0 (d + 1) r3 z3) {av1 av2 av3 : Int32}
    (s1 : SGm (xp tp n) (xy tp n) I1 L1 z1 (z 30 0 + 1) (z1 30 0) r1 av1) (s2 : SGm (xp tp n) (xy tp n) I2 L2 z2 (z1 30 0) (z2 30 0) r2 av2) (s3 : SGm (xp tp n) (xy tp n) I3 L3 z3 (z2 30 0) (z3 30 0) r3 av3)
    (hI1 : ∀ o m, 99 ≤ o → o ≤ 109 → z 30 3 < m → m < z1 30 3 → (m ≠ z1 6 r1 ∨ (o ≠ 105 ∧ o ≠ 108)) → I4 o m = I1 o m) (hL1 : ∀ m, z 30 3 < m → m < z1 30 3 → L4 101 m = L1 101 m)
    (hI2 : ∀ o m, 99 ≤ o → o ≤ 109 → z1 30 3 ≤ m → m < z2 30 3 → (m ≠ z2 6 r2 ∨ (o ≠ 105 ∧ o ≠ 108)) → I4 o m = I2 o m) (hL2 : ∀ m, z1 30 3 ≤ m → m < z2 30 3 → L4 101 m = L2 101 m)
    (hI3 : ∀ o m, 99 ≤ o → o ≤ 109 → z2 30 3 ≤ m → (m ≠ z3 6 r3 ∨ o ≠ 105) → I4 o m = I3 o m) (hL3 : ∀ m, z2 30 3 ≤ m → L4 101 m = L3 101 m)
    (h5 : I4 105 (z1 6 r1) = nI (z 30 3) ∧ I4 105 (z2 6 r2) = nI (z 30 3) ∧ I4 105 (z3 6 r3) = nI (z 30 3)) (h8 : I4 108 (z1 6 r1) = nI (xp tp n (z1 30 4)) ∧ I4 108 (z2 6 r2) = nI (xp tp n (z2 30 4)))
    (hm : I4 99 (z 30 3) = nI 5 ∧ I4 100 (z 30 3) = nI (xp tp n (z 30 4)) ∧ I4 102 (z 30 3) = nI (z1 6 r1) ∧ I4 103 (z 30 3) = nI (z2 6 r2) ∧ I4 104 (z 30 3) = nI (z3 6 r3) ∧ I4 105 (z 30 3) = -9 ∧ I4 106 (z 30 3) = sM z (z 30 6) ∧ I4 107 (z 30 3) = nI (z 30 1 - 1) ∧ I4 109 (z 30 3) = nI 0) : SGm (xp tp n) (xy tp n) I4 L4 (zif z1 z2 z3 (z 30 0) r1 r2 r3) (z 30 0) (z3 30 0) (z 30 0) (-9) := by
  have w1 := hs1.1
  have w2 : Wq z1 z2 := (wq_adv Wq.rf).tr hs2.1
  have w3 : Wq z2 z3 := (wq_adv Wq.rf).tr hs3.1
  have wz : Wq z (adv (zk (xp tp n) z 5 d)) := wq_adv wq_zk
  have f0 : adv (zk (xp tp n) z 5 d) 30 0 = z 30 0 + 1 := by rw [adv_n (by decide)]; exact zk_0
  have f3 : adv (zk (xp tp n) z 5 d) 30 3 = z 30 3 + 1 := by rw [adv_n (by decide)]; exact zk_3
  have f2 : adv (zk (xp tp n) z 5 d) 30 2 = z 30 2 := by rw [adv_n (by decide)]; exact zk_30 (by decide) (by decide)
  have sg1 := hs1.2.2.1
  have sg2 : SEG (xk tp n) (xp tp n) z2 (z1 30 0) (z2 30 0) r2 (adv z1 30 4) (z2 30 4) (z1 30 3) (z2 30 3) := hs2.2.2.1
  have sg3 : SEG (xk tp n) (xp tp n) z3 (z2 30 0) (z3 30 0) r3 (adv z2 30 4) (z3 30 4) (z2 30 3) (z3 30 3) := hs3.2.2.1
  have ch1 := hs1.2.2.2.1
  have ch2 : CHD (xk tp n) z2 (z1 30 0) (z2 30 0) := hs2.2.2.2.1
  have ch3 : CHD (xk tp n) z3 (z2 30 0) (z3 30 0) := hs3.2.2.2.1
  rw [f0] at sg1 ch1
  rw [f3] at sg1
  have hr1 := sg1.1
  have hr2 := sg2.1
  have hr3 := sg3.1
  have nr1 := (sg1.2.2.1 r1 hr1.1 hr1.2.1).2.1
  have nr2 := (sg2.2.2.1 r2 hr2.1 hr2.2.1).2.1
  have nr3 := (sg3.2.2.1 r3 hr3.1 hr3.2.1).2.1
  have m400 := hr3.2.2
  have w13 := w2.tr w3
  have rt1 : RT z1 (zif z1 z2 z3 (z 30 0) r1 r2 r3) (z 30 0 + 1) (z1 30 0) r1 := fun c x c1 x1 x2 x3 => by
    rw [zif_e, if_neg (by omega), if_neg (by omega), if_neg (by omega), if_neg (by omega), if_neg (by omega), if_neg (by omega), if_neg (by omega), if_neg (by omega), if_neg (by omega), if_neg (by omega)]
    exact w13.2.1 c x c1 x2
  have rt2 : RT z2 (zif z1 z2 z3 (z 30 0) r1 r2 r3) (z1 30 0) (z2 30 0) r2 := fun c x c1 x1 x2 x3 => by
    rw [zif_e, if_neg (by omega), if_neg (by omega), if_neg (by omega), if_neg (by omega), if_neg (by omega), if_neg (by omega), if_neg (by omega), if_neg (by omega), if_neg (by omega), if_neg (by omega)]
    exact w3.2.1 c x c1 x2
  have rt3 : RT z3 (zif z1 z2 z3 (z 30 0) r1 r2 r3) (z2 30 0) (z3 30 0) r3 := fun c x c1 x1 x2 x3 => by
    rw [zif_e, if_neg (by omega), if_neg (by omega), if_neg (by omega), if_neg (by omega), if_neg (by omega), if_neg (by omega), if_neg (by omega), if_neg (by omega), if_neg (by omega), if_neg (by omega)]
  have e22 : ∀ b, zif z1 z2 z3 (z 30 0) r1 r2 r3 22 b = z3 22 b := fun b => zif_o (by decide) (by decide) (by decide) (by decide) (by decide) (by decide)
  have p51 : zif z1 z2 z3 (z 30 0) r1 r2 r3 5 r1 = z 30 0 := by rw [zif_e, if_neg (by omega), if_neg (by omega), if_neg (by omega), if_neg (by omega), if_pos ⟨rfl, rfl⟩]
  have p52 : zif z1 z2 z3 (z 30 0) r1 r2 r3 5 r2 = z 30 0 := by rw [zif_e, if_neg (by omega), if_neg (by omega), if_pos ⟨rfl, rfl⟩]
  have p53 : zif z1 z2 z3 (z 30 0) r1 r2 r3 5 r3 = z 30 0 := by rw [zif_e, if_pos ⟨rfl, rfl⟩]
  have p92 : zif z1 z2 z3 (z 30 0) r1 r2 r3 9 r2 = z1 30 4 := by rw [zif_e, if_neg (by omega), if_neg (by omega), if_neg (by omega), if_neg (by omega), if_neg (by omega), if_neg (by omega), if_neg (by omega), if_neg (by omega), if_neg (by omega), if_pos ⟨rfl, rfl⟩]
  have p93 : zif z1 z2 z3 (z 30 0) r1 r2 r3 9 r3 = z2 30 4 := by rw [zif_e, if_neg (by omega), if_neg (by omega), if_neg (by omega), if_neg (by omega), if_neg (by omega), if_neg (by omega), if_neg (by omega), if_pos ⟨rfl, rfl⟩]
  have nd : ∀ c, c < 16 → c ≠ 1 → c ≠ 2 → c ≠ 3 → zif z1 z2 z3 (z 30 0) r1 r2 r3 c (z 30 0) = adv (zk (xp tp n) z 5 d) c (z 30 0) := fun c c1 c2 c3 c4 => by
    rw [zif_e, if_neg (by omega), if_neg (by omega), if_neg (by omega), if_neg (by omega), if_neg (by omega), if_neg (by omega), if_neg (by omega), if_neg (by omega), if_neg (by omega), if_neg (by omega), w13.2.1 c _ c1 (by omega)]
    exact w1.2.1 c _ c1 (by omega)
  have new : NEW (xp tp n) z (adv (zk (xp tp n) z 5 d)) 5 d (z 30 3) (z 30 0) := NEW_c (NEW_zk (pl := xp tp n) (z := z) (k := 5) (d := d)).1 (fun c c1 _ => adv_n (by omega))
  obtain ⟨⟨n0, n6, n7, n8, n10, n13, n14, n15⟩, n1, n2, n3, n5, n9, n11, n12⟩ := new
  have k0 : zif z1 z2 z3 (z 30 0) r1 r2 r3 0 (z 30 0) = 5 := by rw [nd 0 (by decide) (by decide) (by decide) (by decide)]; exact n0
  have k6 : zif z1 z2 z3 (z 30 0) r1 r2 r3 6 (z 30 0) = z 30 3 := by rw [nd 6 (by decide) (by decide) (by decide) (by decide)]; exact n6
  have k61 : zif z1 z2 z3 (z 30 0) r1 r2 r3 6 r1 = z1 6 r1 := rt1 6 r1 (by decide) hr1.1 hr1.2.1 (Or.inr ⟨by decide, by decide, by decide, by decide⟩)
  have k62 : zif z1 z2 z3 (z 30 0) r1 r2 r3 6 r2 = z2 6 r2 := rt2 6 r2 (by decide) hr2.1 hr2.2.1 (Or.inr ⟨by decide, by decide, by decide, by decide⟩)
  have k63 : zif z1 z2 z3 (z 30 0) r1 r2 r3 6 r3 = z3 6 r3 := rt3 6 r3 (by decide) hr3.1 hr3.2.1 (Or.inr ⟨by decide, by decide, by decide, by decide⟩)
  have w10 := w1.1.2.1
  have w20 := w2.1.2.1
  have w30 := w3.1.2.1
  have w12 := w1.1.2.2.2.1
  have w22 := w2.1.2.2.2.1
  rw [f0] at w10
  rw [f2] at w12
  have S1 : SGm (xp tp n) (xy tp n) I4 L4 (zif z1 z2 z3 (z 30 0) r1 r2 r3) (z 30 0 + 1) (z1 30 0) r1 (nI (z 30 3)) := by
    refine SGm_mv s1 sg1 ch1 rt1 (fun o m h1 h2 h3 h4 h5 => hI1 o m h1 h2 (by omega) h4 (by omega)) (fun m h1 h2 => hL1 m (by omega) h2) (fun b hb => by rw [e22]; exact w13.2.2.2.1 22 b (by decide) (by decide) hb) h5.1 ?_ (fun _ h => ?_)
    · rw [hI1 109 _ (by decide) (by decide) (by omega) nr1.2.1 (Or.inr (by decide)), zif_o (by decide) (by decide) (by decide) (by decide) (by decide) (by decide), w13.2.1 13 r1 (by decide) hr1.2.1]
      exact (s1 r1 hr1.1 hr1.2.1).1.2.2.2.2.2.2.2.2
    · rw [p51, k0] at h; omega
  have S2 : SGm (xp tp n) (xy tp n) I4 L4 (zif z1 z2 z3 (z 30 0) r1 r2 r3) (z1 30 0) (z2 30 0) r2 (nI (z 30 3)) := by
    refine SGm_mv s2 sg2 ch2 rt2 (fun o m h1 h2 h3 h4 h5 => hI2 o m h1 h2 h3 h4 (by omega)) (fun m h1 h2 => hL2 m h1 h2) (fun b hb => by rw [e22]; exact w3.2.2.2.1 22 b (by decide) (by decide) hb) h5.2.1 ?_ (fun _ h => ?_)
    · rw [hI2 109 _ (by decide) (by decide) nr2.1 nr2.2.1 (Or.inr (by decide)), zif_o (by decide) (by decide) (by decide) (by decide) (by decide) (by decide), w3.2.1 13 r2 (by decide) hr2.2.1]
      exact (s2 r2 hr2.1 hr2.2.1).1.2.2.2.2.2.2.2.2
    · rw [p52, k0] at h; omega
  have S3 : SGm (xp tp n) (xy tp n) I4 L4 (zif z1 z2 z3 (z 30 0) r1 r2 r3) (z2 30 0) (z3 30 0) r3 (nI (z 30 3)) := by
    refine SGm_mv s3 sg3 ch3 rt3 (fun o m h1 h2 h3 h4 h5 => hI3 o m h1 h2 h3 (by omega)) (fun m h1 h2 => hL3 m h1) (fun b hb => e22 b) h5.2.2 ?_ (fun _ h => ?_)
    · rw [hI3 109 _ (by decide) (by decide) nr3.1 (Or.inr (by decide)), zif_o (by decide) (by decide) (by decide) (by decide) (by decide) (by decide)]
      exact (s3 r3 hr3.1 hr3.2.1).1.2.2.2.2.2.2.2.2
    · rw [p53, k0] at h; omega
  intro x x1 x2
  by_cases s0 : x = z 30 0
  · subst s0
    rw [if_pos rfl]
    obtain ⟨m1, m2, m3, m4, m5, m6, m7, m8, m9⟩ := hm
    have k1 : zif z1 z2 z3 (z 30 0) r1 r2 r3 1 (z 30 0) = r1 := by rw [zif_e, if_neg (by omega), if_neg (by omega), if_neg (by omega), if_neg (by omega), if_neg (by omega), if_pos ⟨rfl, rfl⟩]
    have k2 : zif z1 z2 z3 (z 30 0) r1 r2 r3 2 (z 30 0) = r2 := by rw [zif_e, if_neg (by omega), if_neg (by omega), if_neg (by omega), if_pos ⟨rfl, rfl⟩]
    have k3 : zif z1 z2 z3 (z 30 0) r1 r2 r3 3 (z 30 0) = r3 := by rw [zif_e, if_neg (by omega), if_pos ⟨rfl, rfl⟩]
    have v6 := hw.2.2.2.2.2
    have es : sM (zif z1 z2 z3 (z 30 0) r1 r2 r3) (z 30 6) = sM z (z 30 6) := sM_eq (fun q1 q2 => by
      rw [e22, w13.2.2.2.1 22 _ (by decide) (by decide) (by omega), w1.2.2.2.1 22 _ (by decide) (by decide) (by rw [f2]; omega)]
      exact wz.2.2.2.1 22 _ (by decide) (by decide) (by omega))
    unfold mN
    rw [k0, k1, k2, k3, nd 4 (by decide) (by decide) (by decide) (by decide), nd 5 (by decide) (by decide) (by decide) (by decide), k6, nd 7 (by decide) (by decide) (by decide) (by decide), nd 10 (by decide) (by decide) (by decide) (by decide), nd 14 (by decide) (by decide) (by decide) (by decide), nd 13 (by decide) (by decide) (by decide) (by decide), n5, n7, n10, n14, n13, oM_lt (show r1 < 1000 by omega), oM_lt (show r2 < 1000 by omega), oM_lt (show r3 < 1000 by omega), k61, k62, k63, p51, p92, p93, if_neg (by omega), es]
    exact ⟨⟨m1, m2, m3, m4, m5, m6, m7, m8, m9⟩, fun h => by omega, fun h => by omega, fun _ => ⟨rfl, h8.1, h8.2⟩, fun h => by omega⟩
  · rw [if_neg s0]
    by_cases q1 : x < z1 30 0
    · have := S1 x (by omega) q1
      by_cases sw : x = r1
      · rw [if_pos sw] at this
        rw [sw] at this ⊢
        rw [p51, oM_lt (by omega), k6]; exact this
      · rw [if_neg sw] at this; exact this
    · by_cases q2 : x < z2 30 0
      · have := S2 x (by omega) q2
        by_cases sw : x = r2
        · rw [if_pos sw] at this
          rw [sw] at this ⊢
          rw [p52, oM_lt (by omega), k6]; exact this
        · rw [if_neg sw] at this; exact this
      · have := S3 x (by omega) x2
        by_cases sw : x = r3
        · rw [if_pos sw] at this
          rw [sw] at this ⊢
          rw [p53, oM_lt (by omega), k6]; exact this
        · rw [if_neg sw] at this; exact this
end MIF
