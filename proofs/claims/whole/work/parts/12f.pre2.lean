section RUN
variable {kd pl : Nat → Nat} {nt : Nat} {z z' z1 z2 z3 : Zt} {lo hi r i j a b n m w k d c i1 j1 : Nat}
theorem zla_f : (zla pl z d 30 0 = z 30 0 + 1 ∧ zla pl z d 30 1 = z 30 1 ∧ zla pl z d 30 2 = z 30 2 + 1 ∧ zla pl z d 30 3 = z 30 3 + 1 ∧ zla pl z d 30 4 = z 30 4 + 3 ∧ zla pl z d 30 5 = z 30 5 + 1 ∧ zla pl z d 30 6 = 11 + z 30 2) ∧ NEW pl z (zla pl z d) 4 d (z 30 3) (z 30 0) ∧ zla pl z d 4 (z 30 0) = 11 + z 30 2 ∧ zla pl z d 31 (z 30 3) = z 30 0 ∧ zla pl z d 32 (z 30 4) = z 30 0 ∧ Wq z (zla pl z d) ∧ (∀ t, zla pl z d 33 t = z 33 t) := by
  obtain ⟨g2, g5, g6, g4⟩ := zbn_30 (z := adv (zk pl z 4 d)) (s := 2)
  have o : ∀ u v, (u ≠ 30 ∨ v ≠ 4) → (u ≠ 4 ∨ v ≠ z 30 0) → zla pl z d u v = zbn (adv (zk pl z 4 d)) 2 u v := fun u v h1 h2 => by
    unfold zla
    rw [adv_n h1, zu_n h2]
  refine ⟨⟨?_, ?_, ?_, ?_, ?_, ?_, ?_⟩, ?_, ?_, ?_, ?_, ?_, ?_⟩
  · rw [o _ _ (by decide) (by omega), zbn_o (by omega), adv_n (by decide), zk_0]
  · rw [o _ _ (by decide) (by omega), zbn_o (by omega), adv_n (by decide), zk_30 (by decide) (by decide)]
  · rw [o _ _ (by decide) (by omega), g2, adv_n (by decide), zk_30 (by decide) (by decide)]
  · rw [o _ _ (by decide) (by omega), zbn_o (by omega), adv_n (by decide), zk_3]
  · unfold zla
    rw [adv_4, zu_n (by omega), g4, adv_4, zk_30 (by decide) (by decide)]
  · rw [o _ _ (by decide) (by omega), g5, adv_n (by decide), zk_30 (by decide) (by decide)]
  · rw [o _ _ (by decide) (by omega), g6, adv_n (by decide), zk_30 (by decide) (by decide)]
  · refine NEW_c NEW_zk.1 (fun c c1 c2 => ?_)
    rw [o _ _ (by omega) (Or.inl c2), zbn_o (by omega), adv_n (by omega)]
  · unfold zla
    rw [adv_n (by omega), zu_s]
  · rw [o _ _ (by omega) (by omega), zbn_o (by omega), adv_n (by omega)]; exact zk_31
  · rw [o _ _ (by omega) (by omega), zbn_o (by omega), adv_n (by omega)]; exact zk_32 (by decide)
  · exact wq_adv (wq_zu (wq_zbn (wq_adv wq_zk)) (by decide) (Nat.le_refl _))
  · intro t
    rw [o _ _ (by omega) (by omega), zbn_o (by omega), adv_n (by omega), zk_e, if_neg (by omega), if_neg (by omega), if_neg (by omega), if_neg (by omega), if_neg (by simp)]
/-- a lambda -/
theorem asm_lam (ht : tko kd pl nt) (hw : WFz nt d z) (hd : d < 20) (hm : z 30 3 < 80) (h4 : kd (z 30 4) = 4) (h0 : kd (z 30 4 + 1) = 0) (h16 : kd (z 30 4 + 2) = 16) (hs : PSI kd pl nt (zla pl z d) 0 (d + 1) r z1) : PSI kd pl nt z 0 d (z 30 0) (zu (zlk z1 1 (z 30 0) r) 30 6 (z 30 6)) := by
  obtain ⟨v1, v2, v3, v4, v5, v6⟩ := hw
  obtain ⟨⟨f0, f1, f2, f3, f4, f5, f6⟩, new, n4, f31, f32, wz, f33⟩ := zla_f (pl := pl) (z := z) (d := d)
  obtain ⟨w1, ⟨q1, q2, q3, q4, q5, q6, q7, q8⟩, s1, c1, a1, ⟨l1, -, -⟩, -, b1, g1⟩ := hs
  generalize zla pl z d = z0 at *
  have m400 := s1.1.2.2
  have hr := s1.1
  have new1 : NEW pl z z1 4 d (z 30 3) (z 30 0) := NEW_c new (fun c c1 _ => w1.2.1 c _ c1 (by omega))
  have wz1 := wz.tr w1
  have hnd : ndp kd pl z1 (z 30 4) (z 30 4 + 1) (z 30 3) (z 30 3 + 1) (z 30 0) := by
    refine ndp_new new1 (by decide) ⟨Nat.le_refl _, by omega⟩ ⟨Nat.le_refl _, by omega, by rw [w1.2.2.2.2.1 _ (by omega)]; exact f31⟩ ?_ ⟨fun _ => ?_, fun s => absurd rfl s⟩ ?_ ⟨wz1.1.2.2.2.2, by omega⟩
    · rw [if_neg (by decide)]
      exact ⟨by rw [w1.2.2.2.2.2 32 _ (by decide) (by decide) (by omega)]; exact f32, h4⟩
    · rw [w1.2.1 4 _ (by decide) (by omega), n4]
      have := w1.1.2.2.2.1
      omega
    · have := wz1.1.2.2.2.1
      omega
  obtain ⟨⟨n0, n6, n7, n8, n10, n13, n14, n15⟩, e1, e2, e3, n5, n9, n11, n12⟩ := new1
  have s0 := seg_one hnd n5 (fun s => by omega) (fun s => by omega) (by omega)
  rw [f0] at s1 c1 a1
  have s2 := seg_zlk (c := 1) (i := z 30 4) (j := z1 30 4) (a := z 30 3) (b := z1 30 3) s0 s1 (Or.inl ⟨rfl, rfl⟩) ⟨Nat.le_refl _, by omega, by omega, Nat.le_refl _⟩ ⟨Nat.le_refl _, by omega, by omega, Nat.le_refl _⟩ (Or.inl rfl) (lvz_lt (by rw [n15]; show 8 * d + 0 < _; omega) (by omega)) (by omega) (fun s => by omega)
  have e : ∀ u v, zu (zlk z1 1 (z 30 0) r) 30 6 (z 30 6) u v = if u = 30 ∧ v = 6 then z 30 6 else if u = 5 ∧ v = r then z 30 0 else if u = 1 ∧ v = z 30 0 then r else z1 u v := fun _ _ => rfl
  have x30 : ∀ v, v ≠ 6 → zu (zlk z1 1 (z 30 0) r) 30 6 (z 30 6) 30 v = z1 30 v := fun v h => by rw [e, if_neg (by omega), if_neg (by omega), if_neg (by omega)]
  have xn : ∀ c, c < 16 → c ≠ 1 → c ≠ 5 → zu (zlk z1 1 (z 30 0) r) 30 6 (z 30 6) c (z 30 0) = z1 c (z 30 0) := fun c h1 h2 h3 => by rw [e, if_neg (by omega), if_neg (by omega), if_neg (by omega)]
  have rt : RT z1 (zu (zlk z1 1 (z 30 0) r) 30 6 (z 30 6)) (z 30 0 + 1) (z1 30 0) r := fun c n h1 h2 h3 h4 => by rw [e, if_neg (by omega), if_neg (by omega), if_neg (by omega)]
  refine ⟨wq_306 (wq_zlk wz1 (by decide) (Nat.le_refl _) (by omega)), ⟨?_, ?_, ?_, ?_, ?_, ?_, ?_, ?_⟩, ?_, ?_, ?_, ?_, fun s => absurd s (by decide), ?_, ?_⟩
  · rw [x30 4 (by decide)]; omega
  · rw [x30 4 (by decide)]; exact q2
  · rw [x30 0 (by decide), x30 3 (by decide)]; omega
  · rw [x30 3 (by decide)]; exact q4
  · rw [e, if_pos ⟨rfl, rfl⟩]
  · rw [x30 5 (by decide)]; omega
  · rw [x30 5 (by decide)]; exact q7
  · rw [x30 2 (by decide), x30 5 (by decide)]; omega
  · rw [x30 0 (by decide), x30 4 (by decide), x30 3 (by decide)]; exact seg_30 s2 (by decide)
  · intro n h1 h2
    rw [x30 0 (by decide)] at h2 ⊢
    by_cases s : n = z 30 0
    · subst s
      have E1 : zu (zlk z1 1 (z 30 0) r) 30 6 (z 30 6) 1 (z 30 0) = r := by rw [e, if_neg (by omega), if_neg (by omega), if_pos ⟨rfl, rfl⟩]
      unfold chq
      rw [xn 0 (by decide) (by decide) (by decide), n0, xn 2 (by decide) (by decide) (by decide), e2, xn 3 (by decide) (by decide) (by decide), e3, E1]
      exact ⟨by rw [if_pos (by decide)]; omega, by rw [if_neg (by decide)], by rw [if_neg (by decide)], fun s => by omega⟩
    · exact chq_rt (c1 n (by omega) h2) ⟨by omega, h2, m400⟩ rt s1.2.1 ⟨by omega, Nat.le_refl _⟩
  · rw [x30 0 (by decide)]
    refine adj_app (mid := z 30 0 + 1) adj_one (adj_rt a1 rt) (fun _ hb => ?_)
    rw [Nat.add_sub_cancel]
    have hn1 := (s1.2.2.1 (z 30 0 + 1) (Nat.le_refl _) hb).1
    unfold adj
    rw [xn 8 (by decide) (by decide) (by decide), n8, rt 8 _ (by decide) (Nat.le_refl _) hb (Or.inr ⟨by decide, by decide, by decide, by decide⟩)]
    exact Or.inl (by omega)
  · exact ⟨by rw [xn 15 (by decide) (by decide) (by decide), n15]; omega, by rw [xn 9 (by decide) (by decide) (by decide)]; exact n9, by rw [xn 11 (by decide) (by decide) (by decide)]; exact n11⟩
  · rw [x30 4 (by decide)]
    rw [f4] at b1
    have h16' : kd (z 30 4 + 1 + 1) = 16 := h16
    have b1' : bal kd (z 30 4 + 1 + 1 + 1) (z1 30 4) := b1
    exact bal_tr (bal_t (by omega) (by omega) (by omega) (by omega) (by omega)) (bal_tr (bal_t (by omega) (by omega) (by omega) (by omega) (by omega)) (bal_tr (bal_t (by rw [h16']; decide) (by rw [h16']; decide) (by rw [h16']; decide) (by rw [h16']; decide) (by rw [h16']; decide)) b1'))
  · intro t ht
    rw [e, if_neg (by omega), if_neg (by omega), if_neg (by omega), g1 t (by omega), f33 t]
/-- facts of a counted node and the next token -/
theorem zka_f (k : Nat) (h3 : k ≠ 3) : (adv (zk pl z k d) 30 0 = z 30 0 + 1 ∧ adv (zk pl z k d) 30 1 = z 30 1 ∧ adv (zk pl z k d) 30 2 = z 30 2 ∧ adv (zk pl z k d) 30 3 = z 30 3 + 1 ∧ adv (zk pl z k d) 30 4 = z 30 4 + 1 ∧ adv (zk pl z k d) 30 5 = z 30 5 ∧ adv (zk pl z k d) 30 6 = z 30 6) ∧ NEW pl z (adv (zk pl z k d)) k d (z 30 3) (z 30 0) ∧ adv (zk pl z k d) 4 (z 30 0) = 1000 ∧ adv (zk pl z k d) 31 (z 30 3) = z 30 0 ∧ adv (zk pl z k d) 32 (z 30 4) = z 30 0 ∧ Wq z (adv (zk pl z k d)) ∧ (∀ t, adv (zk pl z k d) 33 t = z 33 t) := by
  refine ⟨⟨?_, ?_, ?_, ?_, ?_, ?_, ?_⟩, ?_, ?_, ?_, ?_, wq_adv wq_zk, ?_⟩
  · rw [adv_n (by decide), zk_0]
  · rw [adv_n (by decide), zk_30 (by decide) (by decide)]
  · rw [adv_n (by decide), zk_30 (by decide) (by decide)]
  · rw [adv_n (by decide), zk_3]
  · rw [adv_4, zk_30 (by decide) (by decide)]
  · rw [adv_n (by decide), zk_30 (by decide) (by decide)]
  · rw [adv_n (by decide), zk_30 (by decide) (by decide)]
  · exact NEW_c NEW_zk.1 (fun c c1 _ => adv_n (by omega))
  · rw [adv_n (by omega)]; exact NEW_zk.2
  · rw [adv_n (by omega)]; exact zk_31
  · rw [adv_n (by omega)]; exact zk_32 h3
  · intro t
    rw [adv_n (by omega), zk_e, if_neg (by omega), if_neg (by omega), if_neg (by omega), if_neg (by omega), if_neg (by rw [if_neg h3]; omega)]
theorem adv_30 {v : Nat} (h : v ≠ 4) : adv z 30 v = z 30 v := adv_n (Or.inr h)
/-- an if -/
theorem asm_if {r1 r2 r3 : Nat} (ht : tko kd pl nt) (hw : WFz nt d z) (hd : d < 20) (hm : z 30 3 < 80) (h5 : kd (z 30 4) = 5) (hs1 : PSI kd pl nt (adv (zk pl z 5 d)) 0 (d + 1) r1 z1) (h20 : kd (z1 30 4) = 20) (hs2 : PSI kd pl nt (adv z1) 0 (d + 1) r2 z2) (h21 : kd (z2 30 4) = 21) (hs3 : PSI kd pl nt (adv z2) 0 (d + 1) r3 z3) : PSI kd pl nt z 0 d (z 30 0) (zif z1 z2 z3 (z 30 0) r1 r2 r3) := by
  obtain ⟨v1, v2, v3, v4, v5, v6⟩ := hw
  obtain ⟨⟨f0, f1, f2, f3, f4, f5, f6⟩, new, n4, f31, f32, wz, f33⟩ := zka_f (pl := pl) (z := z) (d := d) 5 (by decide)
  obtain ⟨w1, ⟨p1, p2, p3, p4, p5, p6, p7, p8⟩, s1, c1, a1, ⟨l1, -, -⟩, -, b1, g1⟩ := hs1
  generalize adv (zk pl z 5 d) = z0 at *
  obtain ⟨w2, ⟨q1, q2, q3, q4, q5, q6, q7, q8⟩, s2, c2, a2, ⟨l2, -, -⟩, -, b2, g2⟩ := hs2
  obtain ⟨w3, ⟨t1, t2, t3, t4, t5, t6, t7, t8⟩, s3, c3, a3, ⟨l3, -, -⟩, -, b3, g3⟩ := hs3
  rw [adv_4] at q1 s2 b2 g2 t1 s3 b3 g3
  rw [adv_30 (by decide)] at q3 q5 q6 q8 t3 t5 t6 t8 s2 c2 a2 s3 c3 a3
  simp only [adv_30 (z := z1) (show 0 ≠ 4 by decide), adv_30 (z := z1) (show 3 ≠ 4 by decide), adv_30 (z := z1) (show 1 ≠ 4 by decide), adv_30 (z := z2) (show 0 ≠ 4 by decide), adv_30 (z := z2) (show 3 ≠ 4 by decide), adv_30 (z := z2) (show 1 ≠ 4 by decide), adv_30 (z := z1) (show 5 ≠ 4 by decide), adv_30 (z := z2) (show 5 ≠ 4 by decide), adv_30 (z := z1) (show 6 ≠ 4 by decide), adv_30 (z := z2) (show 6 ≠ 4 by decide)] at q3 q5 q6 q8 t3 t5 t6 t8 s2 c2 a2 s3 c3 a3
  have w12 : Wq z1 z2 := (wq_adv Wq.rf).tr w2
  have w23 : Wq z2 z3 := (wq_adv Wq.rf).tr w3
  have w13 := w12.tr w23
  have w03 := w1.tr w13
  have wz3 := wz.tr w03
  have m400 := s3.1.2.2
  have new3 : NEW pl z z3 5 d (z 30 3) (z 30 0) := NEW_c new (fun c c1 _ => w03.2.1 c _ c1 (by omega))
  have e01 := w1.1.2.2.2.2
  have e12 := w12.1.2.2.2.2
  have e23 := w23.1.2.2.2.2
  have hnd : ndp kd pl z3 (z 30 4) (z 30 4 + 1) (z 30 3) (z 30 3 + 1) (z 30 0) := by
    refine ndp_new new3 (by decide) ⟨Nat.le_refl _, by omega⟩ ⟨Nat.le_refl _, by omega, by rw [w03.2.2.2.2.1 _ (by omega)]; exact f31⟩ ?_ ⟨fun s => absurd s (by decide), fun _ => by rw [w03.2.1 4 _ (by decide) (by omega)]; exact n4⟩ ?_ ⟨wz3.1.2.2.2.2, by omega⟩
    · rw [if_neg (by decide)]
      exact ⟨by rw [w03.2.2.2.2.2 32 _ (by decide) (by decide) (by omega)]; exact f32, h5⟩
    · have := wz3.1.2.2.2.1
      omega
  obtain ⟨⟨n0, n6, n7, n8, n10, n13, n14, n15⟩, e1, e2, e3, n5, n9, n11, n12⟩ := new3
  rw [f0] at s1 c1 a1
  have m0 := w1.1.2.1
  have m1 := w12.1.2.1
  have m2 := w23.1.2.1
  rw [f0] at m0
  have x1 := s1.1
  have x2 := s2.1
  have x3 := s3.1
  have k0 := seg_one hnd n5 (fun s => by omega) (fun s => by omega) (by omega)
  have k1 := seg_w s1 w13 (Nat.le_refl _) (Nat.le_refl _) (Nat.le_refl _)
  have k2 := seg_w s2 w23 (Nat.le_refl _) (Nat.le_refl _) (Nat.le_refl _)
  have c14 := w1.1.1
  have c24 := w12.1.1
  have c34 := w23.1.1
  have d13 := w1.1.2.2.1
  have d23 := w12.1.2.2.1
  have d33 := w23.1.2.2.1
  -- the tokens ahead
  have u0 := seg_zj_o (v := r2) (t := z1 30 4) k0 (by omega) (by omega)
  have u1 := seg_zj_o (v := r2) (t := z1 30 4) k1 (by omega) (by omega)
  have u2 := seg_zj (i := z1 30 4) (j := z2 30 4) (t := z1 30 4) k2 (by omega) (by omega) (by omega)
  have u3 := seg_zj_o (v := r2) (t := z1 30 4) s3 (by omega) (by omega)
  have o0 := seg_zj_o (v := r3) (t := z2 30 4) u0 (by omega) (by omega)
  have o1 := seg_zj_o (v := r3) (t := z2 30 4) u1 (by omega) (by omega)
  have o2 := seg_zj_o (v := r3) (t := z2 30 4) u2 (by omega) (by omega)
  have o3 := seg_zj (i := z2 30 4) (j := z3 30 4) (t := z2 30 4) u3 (by omega) (by omega) (by omega)
  have ey : ∀ u v, u ≠ 34 → u ≠ 9 → zj (zj z3 r2 (z1 30 4)) r3 (z2 30 4) u v = z3 u v := fun u v h1 h2 => by
    show (if u = 34 ∧ v = z2 30 4 then r3 else if u = 9 ∧ v = r3 then z2 30 4 else if u = 34 ∧ v = z1 30 4 then r2 else if u = 9 ∧ v = r2 then z1 30 4 else z3 u v) = _
    rw [if_neg (by omega), if_neg (by omega), if_neg (by omega), if_neg (by omega)]
  have E : ∀ u v, zif z1 z2 z3 (z 30 0) r1 r2 r3 u v = if u = 5 ∧ v = r3 then z 30 0 else if u = 3 ∧ v = z 30 0 then r3 else if u = 5 ∧ v = r2 then z 30 0 else if u = 2 ∧ v = z 30 0 then r2 else if u = 5 ∧ v = r1 then z 30 0 else if u = 1 ∧ v = z 30 0 then r1 else if u = 34 ∧ v = z2 30 4 then r3 else if u = 9 ∧ v = r3 then z2 30 4 else if u = 34 ∧ v = z1 30 4 then r2 else if u = 9 ∧ v = r2 then z1 30 4 else z3 u v := fun _ _ => rfl
  unfold zif
  unfold zif at E
  generalize hy : zj (zj z3 r2 (z1 30 4)) r3 (z2 30 4) = y at *
  have l15 : ∀ v, y 15 v = z3 15 v := fun v => ey 15 v (by decide) (by decide)
  have y0 : y 0 (z 30 0) = 5 := (ey 0 _ (by decide) (by decide)).trans n0
  have y15 : y 15 (z 30 0) = 8 * d + 0 := (l15 _).trans n15
  have g15 : ∀ v c n, c ≠ 15 → ∀ (x : Zt), zlk x c n v 15 = x 15 := fun v c n hc x => funext fun q => by
    show (if 15 = 5 ∧ q = v then n else if 15 = c ∧ q = n then v else x 15 q) = _
    rw [if_neg (by omega), if_neg (by omega)]
  have g0 : ∀ v c n, c ≠ 0 → ∀ (x : Zt), zlk x c n v 0 = x 0 := fun v c n hc x => funext fun q => by
    show (if 0 = 5 ∧ q = v then n else if 0 = c ∧ q = n then v else x 0 q) = _
    rw [if_neg (by omega), if_neg (by omega)]
  have r15a : z3 15 r1 = z1 15 r1 := w13.2.1 15 r1 (by decide) (by omega)
  have r15b : z3 15 r2 = z2 15 r2 := w23.2.1 15 r2 (by decide) (by omega)
  have f1' := seg_zlk (c := 1) (i := z 30 4) (j := z1 30 4) (a := z 30 3) (b := z1 30 3) o0 o1 (Or.inl ⟨rfl, rfl⟩) ⟨Nat.le_refl _, by omega, by omega, Nat.le_refl _⟩ ⟨Nat.le_refl _, by omega, by omega, Nat.le_refl _⟩ (Or.inl rfl) (lvz_lt (by rw [y15, l15, r15a]; omega) (by omega)) (by rw [y0]; decide) (fun s => by rw [y0] at s; omega)
  have o2' := seg_zlk_o (c := 1) (n := z 30 0) (v := r1) o2 (by omega) (by omega) (by decide)
  have o3' := seg_zlk_o (c := 1) (n := z 30 0) (v := r1) o3 (by omega) (by omega) (by decide)
  have f2' := seg_zlk (c := 2) (i := z 30 4) (j := z2 30 4) (a := z 30 3) (b := z2 30 3) f1' o2' (Or.inl ⟨rfl, rfl⟩) ⟨Nat.le_refl _, by omega, by omega, Nat.le_refl _⟩ ⟨Nat.le_refl _, by omega, by omega, Nat.le_refl _⟩ (Or.inr (Or.inl rfl)) (lvz_lt (by rw [g15 _ _ _ (by decide), y15, l15, r15b]; omega) (by omega)) (by rw [g0 _ _ _ (by decide), y0]; decide) (fun s => by rw [g0 _ _ _ (by decide), y0] at s; omega)
  have o3'' := seg_zlk_o (c := 2) (n := z 30 0) (v := r2) o3' (by omega) (by omega) (by decide)
  have f3' := seg_zlk (c := 3) (i := z 30 4) (j := z3 30 4) (a := z 30 3) (b := z3 30 3) f2' o3'' (Or.inl ⟨rfl, rfl⟩) ⟨Nat.le_refl _, by omega, by omega, Nat.le_refl _⟩ ⟨Nat.le_refl _, by omega, by omega, Nat.le_refl _⟩ (Or.inr (Or.inr rfl)) (lvz_lt (by rw [g15 _ _ _ (by decide), g15 _ _ _ (by decide), y15, l15]; omega) (by omega)) (by rw [g0 _ _ _ (by decide), g0 _ _ _ (by decide), y0]; decide) (fun s => by rw [g0 _ _ _ (by decide), g0 _ _ _ (by decide), y0] at s; omega)
  clear f1' f2' o2' o3' o3'' o0 o1 o2 o3 u0 u1 u2 u3
  generalize hz' : zlk (zlk (zlk y 1 (z 30 0) r1) 2 (z 30 0) r2) 3 (z 30 0) r3 = z' at *
  have x30 : ∀ v, z' 30 v = z3 30 v := fun v => by rw [E, if_neg (by omega), if_neg (by omega), if_neg (by omega), if_neg (by omega), if_neg (by omega), if_neg (by omega), if_neg (by omega), if_neg (by omega), if_neg (by omega), if_neg (by omega)]
  have xn : ∀ c, c < 16 → c ≠ 1 → c ≠ 2 → c ≠ 3 → c ≠ 5 → c ≠ 9 → z' c (z 30 0) = z3 c (z 30 0) := fun c h1 h2 h3 h4 h5 h6 => by rw [E, if_neg (by omega), if_neg (by omega), if_neg (by omega), if_neg (by omega), if_neg (by omega), if_neg (by omega), if_neg (by omega), if_neg (by omega), if_neg (by omega), if_neg (by omega)]
  have RT1 : RT z1 z' (z 30 0 + 1) (z1 30 0) r1 := fun c n h1 h2 h3 h4 => by
    rw [E, if_neg (by omega), if_neg (by omega), if_neg (by omega), if_neg (by omega), if_neg (by omega), if_neg (by omega), if_neg (by omega), if_neg (by omega), if_neg (by omega), if_neg (by omega)]
    exact w13.2.1 c n h1 h3
  have RT2 : RT z2 z' (z1 30 0) (z2 30 0) r2 := fun c n h1 h2 h3 h4 => by
    rw [E, if_neg (by omega), if_neg (by omega), if_neg (by omega), if_neg (by omega), if_neg (by omega), if_neg (by omega), if_neg (by omega), if_neg (by omega), if_neg (by omega), if_neg (by omega)]
    exact w23.2.1 c n h1 h3
  have RT3 : RT z3 z' (z2 30 0) (z3 30 0) r3 := fun c n h1 h2 h3 h4 => by
    rw [E, if_neg (by omega), if_neg (by omega), if_neg (by omega), if_neg (by omega), if_neg (by omega), if_neg (by omega), if_neg (by omega), if_neg (by omega), if_neg (by omega), if_neg (by omega)]
  have E1 : z' 1 (z 30 0) = r1 := by rw [E, if_neg (by omega), if_neg (by omega), if_neg (by omega), if_neg (by omega), if_neg (by omega), if_pos ⟨rfl, rfl⟩]
  have E2 : z' 2 (z 30 0) = r2 := by rw [E, if_neg (by omega), if_neg (by omega), if_neg (by omega), if_pos ⟨rfl, rfl⟩]
  have E3 : z' 3 (z 30 0) = r3 := by rw [E, if_neg (by omega), if_pos ⟨rfl, rfl⟩]
  have E52 : z' 5 r2 = z 30 0 := by rw [E, if_neg (by omega), if_neg (by omega), if_pos ⟨rfl, rfl⟩]
  have E53 : z' 5 r3 = z 30 0 := by rw [E, if_pos ⟨rfl, rfl⟩]
  have E92 : z' 9 r2 = z1 30 4 := by rw [E, if_neg (by omega), if_neg (by omega), if_neg (by omega), if_neg (by omega), if_neg (by omega), if_neg (by omega), if_neg (by omega), if_neg (by omega), if_neg (by omega), if_pos ⟨rfl, rfl⟩]
  have E93 : z' 9 r3 = z2 30 4 := by rw [E, if_neg (by omega), if_neg (by omega), if_neg (by omega), if_neg (by omega), if_neg (by omega), if_neg (by omega), if_neg (by omega), if_pos ⟨rfl, rfl⟩]
  have nt240 := ht.1
  refine ⟨?_, ⟨?_, ?_, ?_, ?_, ?_, ?_, ?_, ?_⟩, ?_, ?_, ?_, ?_, fun s => absurd s (by decide), ?_, ?_⟩
  · rw [← hz', ← hy]
    exact wq_zlk (wq_zlk (wq_zlk (wq_zj (wq_zj wz3 (by omega) (by omega)) (by omega) (by omega)) (by decide) (Nat.le_refl _) (by omega)) (by decide) (Nat.le_refl _) (by omega)) (by decide) (Nat.le_refl _) (by omega)
  · rw [x30]; omega
  · rw [x30]; exact t2
  · rw [x30, x30]; omega
  · rw [x30]; exact t4
  · rw [x30]; omega
  · rw [x30]; omega
  · rw [x30]; exact t7
  · rw [x30, x30]; omega
  · rw [x30, x30, x30]; exact f3'
  · intro n h1 h2
    rw [x30] at h2 ⊢
    by_cases s : n = z 30 0
    · subst s
      unfold chq
      rw [xn 0 (by decide) (by decide) (by decide) (by decide) (by decide) (by decide), n0, E1, E2, E3, E52, E53, E92, E93]
      exact ⟨by rw [if_pos (by decide)]; omega, by rw [if_pos (by decide)]; omega, by rw [if_pos rfl]; exact ⟨by omega, ⟨rfl, by omega, h20⟩, rfl, by omega, h21⟩, fun s => by omega⟩
    · by_cases sa : n < z1 30 0
      · exact chq_rt (c1 n (by omega) sa) ⟨by omega, sa, by omega⟩ RT1 s1.2.1 ⟨by omega, by omega⟩
      · by_cases sb : n < z2 30 0
        · exact chq_rt (c2 n (by omega) sb) ⟨by omega, sb, by omega⟩ RT2 s2.2.1 ⟨by omega, by omega⟩
        · exact chq_rt (c3 n (by omega) h2) ⟨by omega, h2, by omega⟩ RT3 s3.2.1 ⟨by omega, by omega⟩
  · rw [x30]
    refine adj_app (mid := z 30 0 + 1) adj_one (adj_app (mid := z1 30 0) (adj_rt a1 RT1) (adj_app (mid := z2 30 0) (adj_rt a2 RT2) (adj_rt a3 RT3) (fun ha hb => ?_)) (fun ha hb => ?_)) (fun _ hb => ?_)
    · have hn1 := (s2.2.2.1 (z2 30 0 - 1) (by omega) (by omega)).1
      have hn2 := (s3.2.2.1 (z2 30 0) (by omega) (by omega)).1
      unfold adj
      rw [show z2 30 0 - 1 + 1 = z2 30 0 by omega, RT2 8 _ (by decide) (by omega) (by omega) (Or.inr ⟨by decide, by decide, by decide, by decide⟩), RT3 8 _ (by decide) (by omega) (by omega) (Or.inr ⟨by decide, by decide, by decide, by decide⟩)]
      exact Or.inl (by omega)
    · have hn1 := (s1.2.2.1 (z1 30 0 - 1) (by omega) (by omega)).1
      have hn2 := (s2.2.2.1 (z1 30 0) (by omega) (by omega)).1
      unfold adj
      rw [show z1 30 0 - 1 + 1 = z1 30 0 by omega, RT1 8 _ (by decide) (by omega) (by omega) (Or.inr ⟨by decide, by decide, by decide, by decide⟩), RT2 8 _ (by decide) (by omega) (by omega) (Or.inr ⟨by decide, by decide, by decide, by decide⟩)]
      exact Or.inl (by omega)
    · rw [Nat.add_sub_cancel]
      have hn1 := (s1.2.2.1 (z 30 0 + 1) (Nat.le_refl _) (by omega)).1
      unfold adj
      rw [xn 8 (by decide) (by decide) (by decide) (by decide) (by decide) (by decide), n8, RT1 8 _ (by decide) (Nat.le_refl _) (by omega) (Or.inr ⟨by decide, by decide, by decide, by decide⟩)]
      exact Or.inl (by omega)
  · refine ⟨by rw [xn 15 (by decide) (by decide) (by decide) (by decide) (by decide) (by decide), n15]; omega, ?_, by rw [xn 11 (by decide) (by decide) (by decide) (by decide) (by decide) (by decide)]; exact n11⟩
    rw [E, if_neg (by omega), if_neg (by omega), if_neg (by omega), if_neg (by omega), if_neg (by omega), if_neg (by omega), if_neg (by omega), if_neg (by omega), if_neg (by omega), if_neg (by omega)]
    exact n9
  · rw [x30]
    rw [f4] at b1
    exact bal_tr (bal_t (by omega) (by omega) (by omega) (by omega) (by omega)) (bal_tr b1 (bal_tr (bal_t (by omega) (by omega) (by omega) (by omega) (by omega)) (bal_tr b2 (bal_tr (bal_t (by omega) (by omega) (by omega) (by omega) (by omega)) b3))))
  · intro t ht
    rw [E, if_neg (by omega), if_neg (by omega), if_neg (by omega), if_neg (by omega), if_neg (by omega), if_neg (by omega), if_neg (by omega), if_neg (by omega), if_neg (by omega), if_neg (by omega), g3 t (by omega), adv_n (by omega), g2 t (by omega), adv_n (by omega), g1 t (by omega), f33 t]
end RUN
