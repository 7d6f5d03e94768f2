section RUN
variable {kd pl : Nat → Nat} {nt : Nat} {z z' z1 z2 z3 : Zt} {lo hi r i j a b n m w k d c i1 j1 : Nat}
theorem zp_e (u v : Nat) : zp pl z d u v = if u < 16 ∧ v = z 30 0 then zcol pl z 6 d 1000 u else if u = 30 ∧ v = 0 then z 30 0 + 1 else if u = 32 ∧ v = z 30 4 then z 30 0 else z u v := rfl
theorem zc_e (m u v : Nat) : zc z m u v = if u = 6 ∧ v = m then z 30 3 else if u = 30 ∧ v = 3 then z 30 3 + 1 else if u = 31 ∧ v = z 30 3 then m else z u v := rfl
theorem zp_f : (adv (zp pl z d) 30 0 = z 30 0 + 1 ∧ adv (zp pl z d) 30 1 = z 30 1 ∧ adv (zp pl z d) 30 2 = z 30 2 ∧ adv (zp pl z d) 30 3 = z 30 3 ∧ adv (zp pl z d) 30 4 = z 30 4 + 1 ∧ adv (zp pl z d) 30 5 = z 30 5 ∧ adv (zp pl z d) 30 6 = z 30 6) ∧ NEW pl z (adv (zp pl z d)) 6 d 1000 (z 30 0) ∧ adv (zp pl z d) 4 (z 30 0) = 1000 ∧ adv (zp pl z d) 32 (z 30 4) = z 30 0 ∧ Wq z (adv (zp pl z d)) ∧ (∀ t, adv (zp pl z d) 33 t = z 33 t) := by
  have o : ∀ v, v ≠ 0 → zp pl z d 30 v = z 30 v := fun v h => by rw [zp_e, if_neg (by omega), if_neg (by omega), if_neg (by omega)]
  have e : ∀ u, u < 16 → zp pl z d u (z 30 0) = zcol pl z 6 d 1000 u := fun u hu => if_pos ⟨hu, rfl⟩
  refine ⟨⟨?_, ?_, ?_, ?_, ?_, ?_, ?_⟩, ?_, ?_, ?_, wq_adv ?_, ?_⟩
  · rw [adv_n (by decide), zp_e, if_neg (by omega), if_pos ⟨rfl, rfl⟩]
  · rw [adv_n (by decide), o _ (by decide)]
  · rw [adv_n (by decide), o _ (by decide)]
  · rw [adv_n (by decide), o _ (by decide)]
  · rw [adv_4, o _ (by decide)]
  · rw [adv_n (by decide), o _ (by decide)]
  · rw [adv_n (by decide), o _ (by decide)]
  · refine NEW_c (z1 := zp pl z d) ?_ (fun c c1 _ => adv_n (by omega))
    unfold NEW
    rw [e 0 (by decide), e 6 (by decide), e 7 (by decide), e 8 (by decide), e 10 (by decide), e 13 (by decide), e 14 (by decide), e 15 (by decide), e 1 (by decide), e 2 (by decide), e 3 (by decide), e 5 (by decide), e 9 (by decide), e 11 (by decide), e 12 (by decide)]
    exact ⟨⟨rfl, rfl, rfl, rfl, rfl, rfl, rfl, rfl⟩, rfl, rfl, rfl, rfl, rfl, rfl, rfl⟩
  · rw [adv_n (by omega), e 4 (by decide)]; rfl
  · rw [adv_n (by omega), zp_e, if_neg (by omega), if_neg (by omega), if_pos ⟨rfl, rfl⟩]
  · refine ⟨⟨?_, ?_, ?_, ?_, ?_⟩, fun u w x y => ?_, fun u w x y => ?_, fun u w x y s => ?_, fun u x => ?_, fun u t x y s => ?_⟩
    · rw [o _ (by decide)]; exact Nat.le_refl _
    · rw [zp_e, if_neg (by omega), if_pos ⟨rfl, rfl⟩]; omega
    · rw [o _ (by decide)]; exact Nat.le_refl _
    · rw [o _ (by decide)]; exact Nat.le_refl _
    · rw [o _ (by decide)]
    · rw [zp_e, if_neg (by omega), if_neg (by omega), if_neg (by omega)]
    · rw [zp_e, if_neg (by omega), if_neg (by omega), if_neg (by omega)]
    · rw [zp_e, if_neg (by omega), if_neg (by omega), if_neg (by omega)]
    · rw [zp_e, if_neg (by omega), if_neg (by omega), if_neg (by omega)]
    · rw [zp_e, if_neg (by omega), if_neg (by omega), if_neg (by omega)]
  · intro t
    rw [adv_n (by omega), zp_e, if_neg (by omega), if_neg (by omega), if_neg (by omega)]
theorem wq_zc (h : Wq z z1) (hm : z 30 0 ≤ m) : Wq z (zc z1 m) := by
  obtain ⟨⟨a1, a2, a3, a4, a5⟩, b1, b2, b3, b4, b5⟩ := h
  have o : ∀ u v, u ≠ 6 ∨ v ≠ m → u ≠ 30 ∨ v ≠ 3 → u ≠ 31 ∨ v ≠ z1 30 3 → zc z1 m u v = z1 u v := fun u v h1 h2 h3 => by rw [zc_e, if_neg (by omega), if_neg (by omega), if_neg (by omega)]
  refine ⟨⟨?_, ?_, ?_, ?_, ?_⟩, fun u w x y => ?_, fun u w x y => ?_, fun u w x y s => ?_, fun u x => ?_, fun u t x y s => ?_⟩
  · rw [o _ _ (by omega) (by omega) (by omega)]; exact a1
  · rw [o _ _ (by omega) (by omega) (by omega)]; exact a2
  · rw [zc_e, if_neg (by omega), if_pos ⟨rfl, rfl⟩]; omega
  · rw [o _ _ (by omega) (by omega) (by omega)]; exact a4
  · rw [o _ _ (by omega) (by omega) (by omega)]; exact a5
  · rw [o _ _ (by omega) (by omega) (by omega)]; exact b1 u w x y
  · rw [o _ _ (by omega) (by omega) (by omega)]; exact b2 u w x y
  · rw [o _ _ (by omega) (by omega) (by omega)]; exact b3 u w x y s
  · rw [o _ _ (by omega) (by omega) (by omega)]; exact b4 u x
  · rw [o _ _ (by omega) (by omega) (by omega)]; exact b5 u _ x y s
/-- a pair -/
theorem asm_pair {r2 : Nat} (ht : tko kd pl nt) (hw : WFz nt d z) (hd : d < 20) (h6 : kd (z 30 4) = 6) (hs1 : PSI kd pl nt (adv (zp pl z d)) 0 (d + 1) r z1) (h19 : kd (z1 30 4) = 19) (hm : z1 30 3 < 80) (hs2 : PSI kd pl nt (adv (zc z1 (z 30 0))) 0 (d + 1) r2 z2) (h17 : kd (z2 30 4) = 17) : PSI kd pl nt z 6 d (z 30 0) (zpr z2 (z 30 0) r r2) := by
  obtain ⟨v1, v2, v3, v4, v5, v6⟩ := hw
  obtain ⟨⟨f0, f1, f2, f3, f4, f5, f6⟩, new, n4, f32, wz, f33⟩ := zp_f (pl := pl) (z := z) (d := d)
  obtain ⟨w1, ⟨p1, p2, p3, p4, p5, p6, p7, p8⟩, s1, c1, a1, ⟨l1, -, -⟩, -, b1, g1⟩ := hs1
  generalize adv (zp pl z d) = z0 at *
  have wz1 := wz.tr w1
  have wzc : Wq z (adv (zc z1 (z 30 0))) := wq_adv (wq_zc wz1 (Nat.le_refl _))
  have C : ∀ u v, u ≠ 6 ∨ v ≠ z 30 0 → u ≠ 30 ∨ v ≠ 3 → u ≠ 31 ∨ v ≠ z1 30 3 → u ≠ 30 ∨ v ≠ 4 → adv (zc z1 (z 30 0)) u v = z1 u v := fun u v h1 h2 h3 h4 => by rw [adv_n h4, zc_e, if_neg (by omega), if_neg (by omega), if_neg (by omega)]
  have C0 := C 30 0 (by omega) (by omega) (by omega) (by omega)
  have C1 := C 30 1 (by omega) (by omega) (by omega) (by omega)
  have C2 := C 30 2 (by omega) (by omega) (by omega) (by omega)
  have C5 := C 30 5 (by omega) (by omega) (by omega) (by omega)
  have C6 := C 30 6 (by omega) (by omega) (by omega) (by omega)
  have C3 : adv (zc z1 (z 30 0)) 30 3 = z1 30 3 + 1 := by rw [adv_n (by decide), zc_e, if_neg (by omega), if_pos ⟨rfl, rfl⟩]
  have C4 : adv (zc z1 (z 30 0)) 30 4 = z1 30 4 + 1 := by rw [adv_4, zc_e, if_neg (by omega), if_neg (by omega), if_neg (by omega)]
  have C31 : adv (zc z1 (z 30 0)) 31 (z1 30 3) = z 30 0 := by rw [adv_n (by omega), zc_e, if_neg (by omega), if_neg (by omega), if_pos ⟨rfl, rfl⟩]
  have C66 : adv (zc z1 (z 30 0)) 6 (z 30 0) = z1 30 3 := by rw [adv_n (by omega), zc_e, if_pos ⟨rfl, rfl⟩]
  have new1 : NEW pl z z1 6 d 1000 (z 30 0) := NEW_c new (fun c c1 _ => w1.2.1 c _ c1 (by omega))
  have newC : NEW pl z (adv (zc z1 (z 30 0))) 6 d (z1 30 3) (z 30 0) := by
    have cc : ∀ c, c < 16 → c ≠ 6 → adv (zc z1 (z 30 0)) c (z 30 0) = z1 c (z 30 0) := fun c h1 h2 => C c _ (by omega) (by omega) (by omega) (by omega)
    obtain ⟨⟨n0, n6, n7, n8, n10, n13, n14, n15⟩, e1, e2, e3, n5, n9, n11, n12⟩ := new1
    unfold NEW
    rw [cc 0 (by decide) (by decide), C66, cc 7 (by decide) (by decide), cc 8 (by decide) (by decide), cc 10 (by decide) (by decide), cc 13 (by decide) (by decide), cc 14 (by decide) (by decide), cc 15 (by decide) (by decide), cc 1 (by decide) (by decide), cc 2 (by decide) (by decide), cc 3 (by decide) (by decide), cc 5 (by decide) (by decide), cc 9 (by decide) (by decide), cc 11 (by decide) (by decide), cc 12 (by decide) (by decide)]
    exact ⟨⟨n0, rfl, n7, n8, n10, n13, n14, n15⟩, e1, e2, e3, n5, n9, n11, n12⟩
  have newC4 : adv (zc z1 (z 30 0)) 4 (z 30 0) = 1000 := by
    rw [C 4 _ (by omega) (by omega) (by omega) (by omega), w1.2.1 4 _ (by decide) (by omega)]; exact n4
  have C32 : adv (zc z1 (z 30 0)) 32 (z 30 4) = z 30 0 := by
    rw [C 32 _ (by omega) (by omega) (by omega) (by omega), w1.2.2.2.2.2 32 _ (by decide) (by decide) (by omega)]; exact f32
  obtain ⟨w2, ⟨q1, q2, q3, q4, q5, q6, q7, q8⟩, s2, c2, a2, ⟨l2, -, -⟩, -, b2, g2⟩ := hs2
  have sC : SEG kd pl (adv (zc z1 (z 30 0))) (z 30 0 + 1) (z1 30 0) r (z 30 4 + 1) (z1 30 4) (z 30 3) (z1 30 3) := by
    rw [f0, f4, f3] at s1
    refine seg_fr s1 (fun c n h1 h2 h3 => C c n (by omega) (by omega) (by omega) (by omega)) (fun k h1 h2 => C 31 k (by omega) (by omega) (by omega) (by omega)) (fun c t h1 h2 h3 h4 => C c t (by omega) (by omega) (by omega) (by omega)) ⟨C1, by rw [C2]; exact Nat.le_refl _⟩
  have g33 : ∀ t, adv (zc z1 (z 30 0)) 33 t = z1 33 t := fun t => C 33 t (by omega) (by omega) (by omega) (by omega)
  have rtC : RT z1 (adv (zc z1 (z 30 0))) (z 30 0 + 1) (z1 30 0) r := fun c n h1 h2 h3 _ => C c n (by omega) (by omega) (by omega) (by omega)
  generalize adv (zc z1 (z 30 0)) = zC at *
  have wz2 := wzc.tr w2
  have m400 := s2.1.2.2
  have e01 := w1.1.2.2.2.2
  have new2 : NEW pl z z2 6 d (z1 30 3) (z 30 0) := NEW_c newC (fun c c1 _ => w2.2.1 c _ c1 (by have := w1.1.2.1; omega))
  have m0 := w1.1.2.1
  rw [f0] at m0
  have d13 := w1.1.2.2.1
  have c14 := w1.1.1
  have x1 := sC.1
  have x2 := s2.1
  rw [C0] at s2 c2 a2 x2
  have hnd : ndp kd pl z2 (z 30 4) (z 30 4 + 1) (z 30 3) (z2 30 3) (z 30 0) := by
    refine ndp_new new2 (by decide) ⟨Nat.le_refl _, by omega⟩ ⟨by omega, by omega, by rw [w2.2.2.2.2.1 _ (by omega)]; exact C31⟩ ?_ ⟨fun s => absurd s (by decide), fun _ => by rw [w2.2.1 4 _ (by decide) (by omega)]; exact newC4⟩ ?_ ⟨wz2.1.2.2.2.2, by omega⟩
    · rw [if_neg (by decide)]
      exact ⟨by rw [w2.2.2.2.2.2 32 _ (by decide) (by decide) (by omega)]; exact C32, h6⟩
    · have := wz2.1.2.2.2.1
      omega
  obtain ⟨⟨n0, n6, n7, n8, n10, n13, n14, n15⟩, e1, e2, e3, n5, n9, n11, n12⟩ := new2
  have m2 := w2.1.2.1
  have d23 := w2.1.2.2.1
  have c24 := w2.1.1
  have k0 := seg_one hnd n5 (fun s => by omega) (fun s => by omega) (by omega)
  have k1 := seg_w sC w2 (by omega) (by omega) (by omega)
  have r15 : z2 15 r = z1 15 r := by rw [w2.2.1 15 r (by decide) (by omega)]; exact rtC 15 r (by decide) (by omega) (by omega) (Or.inr ⟨by decide, by decide, by decide, by decide⟩)
  have y15 : z2 15 (z 30 0) = 8 * d + 6 := n15
  have g15 : zlk z2 1 (z 30 0) r 15 = z2 15 := funext fun q => by
    show (if 15 = 5 ∧ q = r then z 30 0 else if 15 = 1 ∧ q = z 30 0 then r else z2 15 q) = _
    rw [if_neg (by omega), if_neg (by omega)]
  have g0 : zlk z2 1 (z 30 0) r 0 = z2 0 := funext fun q => by
    show (if 0 = 5 ∧ q = r then z 30 0 else if 0 = 1 ∧ q = z 30 0 then r else z2 0 q) = _
    rw [if_neg (by omega), if_neg (by omega)]
  have u1 := seg_zlk (c := 1) (i := z 30 4) (j := z1 30 4) (a := z 30 3) (b := z2 30 3) k0 k1 (Or.inl ⟨rfl, rfl⟩) ⟨Nat.le_refl _, by omega, by omega, Nat.le_refl _⟩ ⟨Nat.le_refl _, by omega, by omega, by omega⟩ (Or.inl rfl) (lvz_lt (by rw [y15, r15]; omega) (by omega)) (by omega) (fun s => by omega)
  have k2 := seg_zlk_o (c := 1) (n := z 30 0) (v := r) s2 (by omega) (by omega) (by decide)
  have u2 := seg_zlk (c := 2) (i := z 30 4) (j := z2 30 4) (a := z 30 3) (b := z2 30 3) u1 k2 (Or.inl ⟨rfl, rfl⟩) ⟨Nat.le_refl _, by omega, by omega, Nat.le_refl _⟩ ⟨Nat.le_refl _, by omega, by omega, Nat.le_refl _⟩ (Or.inr (Or.inl rfl)) (lvz_lt (by rw [g15, y15]; omega) (by omega)) (by rw [g0]; omega) (fun s => by rw [g0] at s; omega)
  have E : ∀ u v, zpr z2 (z 30 0) r r2 u v = if u = 30 ∧ v = 4 then z2 30 4 + 1 else if u = 5 ∧ v = r2 then z 30 0 else if u = 2 ∧ v = z 30 0 then r2 else if u = 5 ∧ v = r then z 30 0 else if u = 1 ∧ v = z 30 0 then r else z2 u v := fun _ _ => rfl
  have u3 : SEG kd pl (zpr z2 (z 30 0) r r2) (z 30 0) (z2 30 0) (z 30 0) (z 30 4) (z2 30 4 + 1) (z 30 3) (z2 30 3) := seg_wd (seg_30 u2 (by decide)) ⟨Nat.le_refl _, by omega, Nat.le_refl _, Nat.le_refl _⟩
  have x30 : ∀ v, v ≠ 4 → zpr z2 (z 30 0) r r2 30 v = z2 30 v := fun v h => by rw [E, if_neg (by omega), if_neg (by omega), if_neg (by omega), if_neg (by omega), if_neg (by omega)]
  have x4 : zpr z2 (z 30 0) r r2 30 4 = z2 30 4 + 1 := by rw [E, if_pos ⟨rfl, rfl⟩]
  have xn : ∀ c, c < 16 → c ≠ 1 → c ≠ 2 → c ≠ 5 → zpr z2 (z 30 0) r r2 c (z 30 0) = z2 c (z 30 0) := fun c h1 h2 h3 h4 => by rw [E, if_neg (by omega), if_neg (by omega), if_neg (by omega), if_neg (by omega), if_neg (by omega)]
  have RT1 : RT z1 (zpr z2 (z 30 0) r r2) (z 30 0 + 1) (z1 30 0) r := fun c n h1 h2 h3 h4 => by
    rw [E, if_neg (by omega), if_neg (by omega), if_neg (by omega), if_neg (by omega), if_neg (by omega), w2.2.1 c n h1 (by omega)]
    exact rtC c n h1 h2 h3 h4
  have RT2 : RT z2 (zpr z2 (z 30 0) r r2) (z1 30 0) (z2 30 0) r2 := fun c n h1 h2 h3 h4 => by
    rw [E, if_neg (by omega), if_neg (by omega), if_neg (by omega), if_neg (by omega), if_neg (by omega)]
  have E1 : zpr z2 (z 30 0) r r2 1 (z 30 0) = r := by rw [E, if_neg (by omega), if_neg (by omega), if_neg (by omega), if_neg (by omega), if_pos ⟨rfl, rfl⟩]
  have E2 : zpr z2 (z 30 0) r r2 2 (z 30 0) = r2 := by rw [E, if_neg (by omega), if_neg (by omega), if_pos ⟨rfl, rfl⟩]
  have W : Wq z (zpr z2 (z 30 0) r r2) := wq_adv (wq_zlk (wq_zlk wz2 (by decide) (Nat.le_refl _) (by omega)) (by decide) (Nat.le_refl _) (by omega))
  generalize zpr z2 (z 30 0) r r2 = z' at *
  have hnt := tk_lt ht q2 (by omega)
  refine ⟨W, ⟨?_, ?_, ?_, ?_, ?_, ?_, ?_, ?_⟩, ?_, ?_, ?_, ?_, ?_, ?_, ?_⟩
  · rw [x4]; omega
  · rw [x4]; omega
  · rw [x30 0 (by decide), x30 3 (by decide)]; omega
  · rw [x30 3 (by decide)]; exact q4
  · rw [x30 6 (by decide)]; omega
  · rw [x30 5 (by decide)]; omega
  · rw [x30 5 (by decide)]; exact q7
  · rw [x30 2 (by decide), x30 5 (by decide)]; omega
  · rw [x30 0 (by decide), x4, x30 3 (by decide)]; exact u3
  · intro n h1 h2
    rw [x30 0 (by decide)] at h2 ⊢
    by_cases s : n = z 30 0
    · subst s
      unfold chq
      rw [xn 0 (by decide) (by decide) (by decide) (by decide), n0, E1, E2, xn 3 (by decide) (by decide) (by decide) (by decide), e3]
      exact ⟨by rw [if_pos (by decide)]; omega, by rw [if_pos (by decide)]; omega, by rw [if_neg (by decide)], fun s => by omega⟩
    · rw [f0] at s1 c1
      by_cases sa : n < z1 30 0
      · exact chq_rt (c1 n (by omega) sa) ⟨by omega, sa, by omega⟩ RT1 s1.2.1 ⟨by omega, by omega⟩
      · exact chq_rt (c2 n (by omega) h2) ⟨by omega, h2, by omega⟩ RT2 s2.2.1 ⟨by omega, by omega⟩
  · rw [x30 0 (by decide)]
    rw [f0] at a1
    refine adj_app (mid := z 30 0 + 1) adj_one (adj_app (mid := z1 30 0) (adj_rt a1 RT1) (adj_rt a2 RT2) (fun ha hb => ?_)) (fun _ hb => ?_)
    · have hn1 := (k1.2.2.1 (z1 30 0 - 1) (by omega) (by omega)).1
      have hn2 := (s2.2.2.1 (z1 30 0) (by omega) (by omega)).1
      have e8 : z2 8 (z1 30 0 - 1) = z1 8 (z1 30 0 - 1) := by rw [w2.2.1 8 _ (by decide) (by omega)]; exact rtC 8 _ (by decide) (by omega) (by omega) (Or.inr ⟨by decide, by decide, by decide, by decide⟩)
      unfold adj
      rw [show z1 30 0 - 1 + 1 = z1 30 0 by omega, RT1 8 _ (by decide) (by omega) (by omega) (Or.inr ⟨by decide, by decide, by decide, by decide⟩), RT2 8 _ (by decide) (by omega) (by omega) (Or.inr ⟨by decide, by decide, by decide, by decide⟩)]
      exact Or.inl (by omega)
    · rw [Nat.add_sub_cancel]
      have hn1 := (k1.2.2.1 (z 30 0 + 1) (Nat.le_refl _) (by omega)).1
      have e8 : z2 8 (z 30 0 + 1) = z1 8 (z 30 0 + 1) := by rw [w2.2.1 8 _ (by decide) (by omega)]; exact rtC 8 _ (by decide) (by omega) (by omega) (Or.inr ⟨by decide, by decide, by decide, by decide⟩)
      unfold adj
      rw [xn 8 (by decide) (by decide) (by decide) (by decide), n8, RT1 8 _ (by decide) (Nat.le_refl _) (by omega) (Or.inr ⟨by decide, by decide, by decide, by decide⟩)]
      exact Or.inl (by omega)
  · exact ⟨by rw [xn 15 (by decide) (by decide) (by decide) (by decide), y15]; omega, by rw [xn 9 (by decide) (by decide) (by decide) (by decide)]; exact n9, by rw [xn 11 (by decide) (by decide) (by decide) (by decide)]; exact n11⟩
  · intro _ _
    rw [xn 0 (by decide) (by decide) (by decide) (by decide), n0]; decide
  · rw [x4]
    rw [f4] at b1
    rw [C4] at b2
    exact bal_br (Or.inl h6) (balc_tr b1.c (balc_tr (balc_t (by omega) (by omega) (by omega) (by omega)) b2.c)) (by omega) (Or.inl h17)
  · intro t ht
    rw [E, if_neg (by omega), if_neg (by omega), if_neg (by omega), if_neg (by omega), if_neg (by omega), g2 t (by omega), g33 t, g1 t (by omega), f33 t]
/-- ( E ) -/
theorem asm_par (ht : tko kd pl nt) (hw : WFz nt d z) (h6 : kd (z 30 4) = 6) (hs1 : PSI kd pl nt (adv z) 0 (d + 1) r z1) (h17 : kd (z1 30 4) = 17) : PSI kd pl nt z 6 d r (adv (zu z1 13 r 1)) := by
  obtain ⟨w1, ⟨p1, p2, p3, p4, p5, p6, p7, p8⟩, s1, c1, a1, ⟨l1, l9, l11⟩, -, b1, g1⟩ := hs1
  rw [adv_4] at p1 s1 b1 g1
  simp only [adv_30 (z := z) (show 0 ≠ 4 by decide), adv_30 (z := z) (show 3 ≠ 4 by decide), adv_30 (z := z) (show 1 ≠ 4 by decide), adv_30 (z := z) (show 5 ≠ 4 by decide), adv_30 (z := z) (show 6 ≠ 4 by decide)] at p3 p5 p6 p8 s1 c1 a1
  have hnt := tk_lt ht p2 (by omega)
  have E : ∀ u v, adv (zu z1 13 r 1) u v = if u = 30 ∧ v = 4 then z1 30 4 + 1 else if u = 13 ∧ v = r then 1 else z1 u v := fun _ _ => rfl
  have x30 : ∀ v, v ≠ 4 → adv (zu z1 13 r 1) 30 v = z1 30 v := fun v h => by rw [E, if_neg (by omega), if_neg (by omega)]
  have x4 : adv (zu z1 13 r 1) 30 4 = z1 30 4 + 1 := by rw [E, if_pos ⟨rfl, rfl⟩]
  have RT1 : RT z1 (adv (zu z1 13 r 1)) (z 30 0) (z1 30 0) r := fun c n h1 h2 h3 h4 => by rw [E, if_neg (by omega), if_neg (by omega)]
  have u3 : SEG kd pl (adv (zu z1 13 r 1)) (z 30 0) (z1 30 0) r (z 30 4) (z1 30 4 + 1) (z 30 3) (z1 30 3) := seg_wd (seg_30 (seg_13 s1) (by decide)) ⟨by omega, by omega, Nat.le_refl _, Nat.le_refl _⟩
  have hr := s1.1
  have hn0 := (s1.2.2.1 (z 30 0) (Nat.le_refl _) (by omega)).1
  refine ⟨wq_adv (wq_zu ((wq_adv Wq.rf).tr w1) (by decide) hr.1), ⟨?_, ?_, ?_, ?_, ?_, ?_, ?_, ?_⟩, ?_, ?_, ?_, ?_, ?_, ?_, ?_⟩
  · rw [x4]; omega
  · rw [x4]; omega
  · rw [x30 0 (by decide), x30 3 (by decide)]; omega
  · rw [x30 3 (by decide)]; exact p4
  · rw [x30 6 (by decide)]; omega
  · rw [x30 5 (by decide)]; omega
  · rw [x30 5 (by decide)]; exact p7
  · rw [x30 2 (by decide), x30 5 (by decide)]; omega
  · rw [x30 0 (by decide), x4, x30 3 (by decide)]; exact u3
  · intro n h1 h2
    rw [x30 0 (by decide)] at h2 ⊢
    exact chq_rt (c1 n h1 h2) ⟨h1, h2, by omega⟩ RT1 s1.2.1 ⟨Nat.le_refl _, Nat.le_refl _⟩
  · rw [x30 0 (by decide)]; exact adj_rt a1 RT1
  · exact ⟨by rw [RT1 15 r (by decide) hr.1 hr.2.1 (Or.inr ⟨by decide, by decide, by decide, by decide⟩)]; omega, by rw [E, if_neg (by omega), if_neg (by omega)]; exact l9, by rw [E, if_neg (by omega), if_neg (by omega)]; exact l11⟩
  · intro _ s
    rw [RT1 8 _ (by decide) (Nat.le_refl _) (by omega) (Or.inr ⟨by decide, by decide, by decide, by decide⟩)] at s
    omega
  · rw [x4]
    exact bal_br (Or.inl h6) b1.c (by omega) (Or.inl h17)
  · intro t ht
    rw [E, if_neg (by omega), if_neg (by omega), g1 t (by omega), adv_n (by omega)]
end RUN
