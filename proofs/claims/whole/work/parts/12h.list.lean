section RUN
variable {kd pl : Nat → Nat} {nt : Nat} {z z' z1 z2 z3 y : Zt} {lo hi r i j a b n m w k d c i1 j1 la jo : Nat} {es : List Nat}
def LI (kd pl : Nat → Nat) (nt : Nat) (z y : Zt) (d la : Nat) (es : List Nat) : Prop :=
  (Wq z y ∧ y 30 4 ≤ nt ∧ y 30 0 + z 30 3 = z 30 0 + y 30 3 ∧ y 30 3 ≤ 80 ∧ y 30 6 = z 30 6 ∧ z 30 5 ≤ y 30 5 ∧ y 30 5 ≤ 16 ∧ y 30 2 = z 30 1 + y 30 5 ∧ z 30 0 + 1 ≤ y 30 0 ∧ z 30 4 + 1 ≤ y 30 4) ∧
  SEG kd pl y (z 30 0) (y 30 0) (z 30 0) (z 30 4) (y 30 4) (z 30 3) (y 30 3) ∧ (∀ n, z 30 0 < n → n < y 30 0 → chq kd y (z 30 0) (y 30 0) n) ∧ ADJ y (z 30 0) (y 30 0) ∧
  (y 0 (z 30 0) = 7 ∧ y 2 (z 30 0) = 1000 ∧ y 3 (z 30 0) = 1000 ∧ y 15 (z 30 0) = 8 * d + 6 ∧ y 8 (z 30 0) = z 30 4 ∧ y 9 (z 30 0) = 1000 ∧ y 11 (z 30 0) = 1000) ∧
  (chn y (y 1 (z 30 0)) es ∧ es.Pairwise (fun x y => x < y) ∧ (∀ k, k ∈ es → z 30 0 ≤ k ∧ k < y 30 0 ∧ y 9 k < 1000 ∧ (kd (y 9 k) = 7 ∨ kd (y 9 k) = 19)) ∧ (∀ k, z 30 0 ≤ k → k < y 30 0 → (y 5 k = z 30 0 ↔ k ∈ es)) ∧ ((la = 1000 ∧ es = []) ∨ es.getLast? = some la)) ∧
  balc kd (z 30 4 + 1) (y 30 4) ∧ (∀ t, t ≤ z 30 4 → y 33 t = z 33 t)
theorem zel_e (u v : Nat) : zel z1 n la jo r u v = if u = 5 ∧ v = r then n else if u = 34 ∧ v = jo then r else if u = 9 ∧ v = r then jo else if (la = 1000 ∧ u = 1 ∧ v = n) ∨ (la ≠ 1000 ∧ u = 11 ∧ v = la) then r else z1 u v := by
  show (if u = 5 ∧ v = r then n else if u = 34 ∧ v = jo then r else if u = 9 ∧ v = r then jo else (if la = 1000 then zu z1 1 n r else zu z1 11 la r) u v) = _
  by_cases h : la = 1000
  · rw [if_pos h, zu_e]
    by_cases h2 : u = 1 ∧ v = n
    · rw [if_pos h2, if_pos (show (la = 1000 ∧ u = 1 ∧ v = n) ∨ (la ≠ 1000 ∧ u = 11 ∧ v = la) from Or.inl ⟨h, h2⟩)]
    · rw [if_neg h2, if_neg (show ¬ ((la = 1000 ∧ u = 1 ∧ v = n) ∨ (la ≠ 1000 ∧ u = 11 ∧ v = la)) by omega)]
  · rw [if_neg h, zu_e]
    by_cases h2 : u = 11 ∧ v = la
    · rw [if_pos h2, if_pos (show (la = 1000 ∧ u = 1 ∧ v = n) ∨ (la ≠ 1000 ∧ u = 11 ∧ v = la) from Or.inr ⟨h, h2⟩)]
    · rw [if_neg h2, if_neg (show ¬ ((la = 1000 ∧ u = 1 ∧ v = n) ∨ (la ≠ 1000 ∧ u = 11 ∧ v = la)) by omega)]
/-- the list so far, and one more element -/
theorem asm_el (ht : tko kd pl nt) (hl : LI kd pl nt z y d la es) (hj : jo + 1 = y 30 4 ∧ (kd jo = 7 ∨ kd jo = 19) ∧ z 30 4 ≤ jo) (hjo : ∀ n, z 30 0 ≤ n → n < y 30 0 → y 9 n ≠ jo) (hs : PSI kd pl nt y 0 (d + 1) r z1) : LI kd pl nt z (zel z1 (z 30 0) la jo r) d r (es ++ [r]) := by
  obtain ⟨⟨wy, y4, y0, y3, y6, y5, y5', y2, yN, yi⟩, sy, cy, ay, ⟨k0, k2, k3, k15, k8, k9, k11⟩, ⟨ch, pw, mb, iff, lst⟩, bc, g33⟩ := hl
  obtain ⟨w1, ⟨p1, p2, p3, p4, p5, p6, p7, p8⟩, s1, c1, a1, ⟨l1, l9, l11⟩, -, b1, g1⟩ := hs
  have nt240 := ht.1
  have x0 := sy.1
  have x1 := s1.1
  have wz1 := wy.tr w1
  have lar : la = 1000 ∨ (la ∈ es ∧ z 30 0 ≤ la ∧ la < y 30 0) := by
    rcases lst with h | h
    · exact Or.inl h.1
    · have hm := List.mem_of_getLast? h
      exact Or.inr ⟨hm, (mb la hm).1, (mb la hm).2.1⟩
  have fr : ∀ c n, c < 16 → n < y 30 0 → z1 c n = y c n := w1.2.1
  have E := zel_e (z1 := z1) (n := z 30 0) (la := la) (jo := jo) (r := r)
  have lan : la ≠ 1000 → la ≠ z 30 0 := fun h1 h2 => by
    rcases lar with h | ⟨h, -⟩
    · exact h1 h
    · have := (iff la (mb la h).1 (mb la h).2.1).mpr h
      rw [h2, sy.2.1] at this
      omega
  have A := seg_w sy w1 (Nat.le_refl _) (Nat.le_refl _) (Nat.le_refl _)
  have m1 := w1.1.2.1
  have d1 := w1.1.2.2.1
  have t1 := w1.1.1
  have z10 : z1 0 (z 30 0) = 7 := by rw [fr 0 _ (by decide) (by omega)]; exact k0
  have z115 : z1 15 (z 30 0) = 8 * d + 6 := by rw [fr 15 _ (by decide) (by omega)]; exact k15
  have e34 : ∀ t, t ≠ jo → zel z1 (z 30 0) la jo r 34 t = z1 34 t := fun t h => by rw [E, if_neg (by omega), if_neg (by omega), if_neg (by omega), if_neg (by omega)]
  have hle : ∀ n, z 30 0 ≤ n → n < z1 30 0 → n ≠ r → z1 9 n < 1000 → z1 9 n ≠ jo := fun n n1 n2 n3 n4 => by
    by_cases s : n < y 30 0
    · rw [fr 9 n (by decide) s]; exact hjo n n1 s
    · have := (s1.2.2.1 n (by omega) n2).2.2.2.1 n4
      omega
  have memz1 : ∀ k, k ∈ es → z1 5 k = z 30 0 := fun k hk => by
    rw [fr 5 k (by decide) (mb k hk).2.1]; exact (iff k (mb k hk).1 (mb k hk).2.1).mpr hk
  have eN : ∀ c, c ≠ 1 → c ≠ 5 → c ≠ 34 → c ≠ 9 → (la = 1000 ∨ c ≠ 11) → ∀ n, (c ≠ 11 ∨ n ≠ la) → zel z1 (z 30 0) la jo r c n = z1 c n := fun c c1 c2 c3 c4 c5 n c6 => by
    rw [E, if_neg (by omega), if_neg (by omega), if_neg (by omega), if_neg (by omega)]
  have e5 : ∀ n, n ≠ r → zel z1 (z 30 0) la jo r 5 n = z1 5 n := fun n h => by rw [E, if_neg (by omega), if_neg (by omega), if_neg (by omega), if_neg (by omega)]
  have e5r : zel z1 (z 30 0) la jo r 5 r = z 30 0 := by rw [E, if_pos ⟨rfl, rfl⟩]
  have e9 : ∀ n, n ≠ r → zel z1 (z 30 0) la jo r 9 n = z1 9 n := fun n h => by rw [E, if_neg (by omega), if_neg (by omega), if_neg (by omega), if_neg (by omega)]
  have e9r : zel z1 (z 30 0) la jo r 9 r = jo := by rw [E, if_neg (by omega), if_neg (by omega), if_pos ⟨rfl, rfl⟩]
  have e34r : zel z1 (z 30 0) la jo r 34 jo = r := by rw [E, if_neg (by omega), if_pos ⟨rfl, rfl⟩]
  have e11 : ∀ n, n ≠ la → zel z1 (z 30 0) la jo r 11 n = z1 11 n := fun n h => by rw [E, if_neg (by omega), if_neg (by omega), if_neg (by omega), if_neg (by omega)]
  have e1 : ∀ n, n ≠ z 30 0 → zel z1 (z 30 0) la jo r 1 n = z1 1 n := fun n h => by rw [E, if_neg (by omega), if_neg (by omega), if_neg (by omega), if_neg (by omega)]
  have e30 : ∀ v, zel z1 (z 30 0) la jo r 30 v = z1 30 v := fun v => by rw [E, if_neg (by omega), if_neg (by omega), if_neg (by omega), if_neg (by omega)]
  have e3x : ∀ c v, 31 ≤ c → c ≠ 34 → zel z1 (z 30 0) la jo r c v = z1 c v := fun c v h1 h2 => by rw [E, if_neg (by omega), if_neg (by omega), if_neg (by omega), if_neg (by omega)]
  have pw' : (es ++ [r]).Pairwise (fun x y => x < y) := by
    rw [List.pairwise_append]
    refine ⟨pw, List.pairwise_singleton _ _, fun x hx q hq => ?_⟩
    have : q = r := by simpa using hq
    have := (mb x hx).2.1
    omega
  have ch' : chn (zel z1 (z 30 0) la jo r) (zel z1 (z 30 0) la jo r 1 (z 30 0)) (es ++ [r]) := by
    rcases lst with ⟨h1, h2⟩ | h
    · subst h2
      refine ⟨by rw [E, if_neg (by omega), if_neg (by omega), if_neg (by omega), if_pos (Or.inl ⟨h1, rfl, rfl⟩)], ?_⟩
      show zel z1 (z 30 0) la jo r 11 r = 1000
      rw [e11 r (by omega)]; exact l11
    · have hla : la ≠ 1000 := by have := (mb la (List.mem_of_getLast? h)).2.1; omega
      have hla2 : la < y 30 0 := (mb la (List.mem_of_getLast? h)).2.1
      have e1N : zel z1 (z 30 0) la jo r 1 (z 30 0) = y 1 (z 30 0) := by
        rw [E, if_neg (by omega), if_neg (by omega), if_neg (by omega), if_neg (by omega)]; exact fr 1 _ (by decide) (by omega)
      rw [e1N]
      refine chn_app pw ch h (fun e he hne => ?_) ?_ ?_
      · rw [e11 e hne]; exact fr 11 e (by decide) (mb e he).2.1
      · rw [E, if_neg (by omega), if_neg (by omega), if_neg (by omega), if_pos (Or.inr ⟨hla, rfl, rfl⟩)]
      · rw [e11 r (by omega)]; exact l11
  have mb' : ∀ k, k ∈ es ++ [r] → z 30 0 ≤ k ∧ k < z1 30 0 ∧ zel z1 (z 30 0) la jo r 9 k < 1000 ∧ (kd (zel z1 (z 30 0) la jo r 9 k) = 7 ∨ kd (zel z1 (z 30 0) la jo r 9 k) = 19) := fun k hk => by
    rcases List.mem_append.mp hk with h | h
    · have := mb k h
      have kr : k ≠ r := by omega
      rw [e9 k kr, fr 9 k (by decide) this.2.1]
      exact ⟨this.1, by omega, this.2.2⟩
    · have h : k = r := by simpa using h
      subst h
      rw [e9r]
      exact ⟨by omega, x1.2.1, by omega, hj.2.1⟩
  have iff' : ∀ k, z 30 0 ≤ k → k < z1 30 0 → (zel z1 (z 30 0) la jo r 5 k = z 30 0 ↔ k ∈ es ++ [r]) := fun k h1 h2 => by
    by_cases s : k = r
    · subst s
      rw [e5r]
      exact ⟨fun _ => by simp, fun _ => rfl⟩
    · rw [e5 k s]
      have hmem : k ∈ es ++ [r] ↔ k ∈ es := by simp [s]
      rw [hmem]
      by_cases s2 : k < y 30 0
      · rw [fr 5 k (by decide) s2]; exact iff k h1 s2
      · have := s1.2.2.2.1 k (by omega) h2 s
        exact ⟨fun q => by omega, fun q => by have := (mb k q).2.1; omega⟩
  have S := seg_lnk (p := z 30 0) (q := r) (z' := zel z1 (z 30 0) la jo r) (i := z 30 4) (j := z1 30 4) (a := z 30 3) (b := z1 30 3) A s1 (Or.inl ⟨rfl, rfl⟩) ⟨Nat.le_refl _, by omega, t1, Nat.le_refl _⟩ ⟨Nat.le_refl _, by have := wy.1.2.2.1; omega, d1, Nat.le_refl _⟩ (fun u v h1 h2 h3 h4 h5 h6 h7 _ _ => by rw [E, if_neg (by omega), if_neg (by omega), if_neg (by omega), if_neg (by omega)]) (fun n _ _ h => e5 n h) e5r (fun n _ _ h => e9 n h) (fun _ => by rw [e9r, e34r]; exact ⟨hj.2.2, by omega, rfl⟩) (fun k _ => e3x 31 k (by decide) (by decide)) (fun t _ => ⟨e3x 32 t (by decide) (by decide), e3x 33 t (by decide) (by decide)⟩) (fun n h1 h2 h3 h4 => e34 _ (hle n h1 h2 h3 h4)) ⟨e30 1, e30 2⟩ (lvz_lt (by rw [z115]; omega) (by omega)) (fun n _ _ _ h => e1 n h) (fun n h1 h2 h3 h4 => e11 n (fun s => by
      rcases lar with q | ⟨q, q1, q2⟩
      · omega
      · exact h3 (by rw [s]; exact memz1 la q))) (fun n _ _ _ _ => by rw [E, if_neg (by omega), if_neg (by omega), if_neg (by omega), if_neg (by omega)]) (fun _ => ⟨es ++ [r], ch', pw', mb', iff'⟩) (fun s => by omega)
  have RTy : ∀ c n, c < 16 → z 30 0 < n → n < y 30 0 → c ≠ 11 → zel z1 (z 30 0) la jo r c n = y c n := fun c n h1 h2 h3 h4 => by
    rw [E, if_neg (by omega), if_neg (by omega), if_neg (by omega), if_neg (by omega)]; exact fr c n h1 h3
  have RT1 : RT z1 (zel z1 (z 30 0) la jo r) (y 30 0) (z1 30 0) r := fun c n h1 h2 h3 h4 => by
    rw [E, if_neg (by omega), if_neg (by omega), if_neg (by omega), if_neg (by omega)]
  have W : Wq z (zel z1 (z 30 0) la jo r) := by
    have h0 : Wq z (if la = 1000 then zu z1 1 (z 30 0) r else zu z1 11 la r) := by
      split
      · exact wq_zu wz1 (by decide) (Nat.le_refl _)
      · exact wq_zu wz1 (by decide) (by omega)
    exact wq_zu (wq_zj h0 (by omega) hj.2.2) (by decide) (by omega)
  refine ⟨⟨W, by rw [e30]; exact p2, by rw [e30, e30]; omega, by rw [e30]; exact p4, by rw [e30]; omega, by rw [e30]; omega, by rw [e30]; exact p7, by rw [e30, e30]; have := wy.1.2.2.2.2; omega, by rw [e30]; omega, by rw [e30]; omega⟩, ?_, ?_, ?_, ⟨?_, ?_, ?_, ?_, ?_, ?_, ?_⟩, ⟨?_, pw', ?_, ?_, Or.inr (by simp)⟩, ?_, ?_⟩
  · rw [e30, e30, e30]; exact S
  · intro n h1 h2
    rw [e30] at h2 ⊢
    by_cases s : n < y 30 0
    · have hc := cy n h1 s
      -- only next elements change here
      have g : ∀ c, c < 16 → c ≠ 11 → zel z1 (z 30 0) la jo r c n = y c n := fun c h3 h4 => RTy c n h3 h1 s h4
      unfold chq at hc ⊢
      rw [g 0 (by decide) (by decide), g 1 (by decide) (by decide), g 2 (by decide) (by decide), g 3 (by decide) (by decide), g 12 (by decide) (by decide)]
      obtain ⟨q1, q2, q3, q4⟩ := hc
      refine ⟨?_, ?_, ?_, q4⟩
      · split at q1
        · rename_i s; rw [if_pos s]; omega
        · rename_i s; rw [if_neg s]; exact q1
      · split at q2
        · rename_i s; rw [if_pos s]; omega
        · rename_i s; rw [if_neg s]; exact q2
      · split at q3
        · rename_i s3
          rw [if_pos (by omega)] at q2
          rw [if_pos s3]
          obtain ⟨u1, ⟨u2, u3, u4⟩, u5, u6, u7⟩ := q3
          have n2 : y 2 n ≠ z 30 0 := fun q => by rw [q, sy.2.1] at u2; omega
          have n3 : y 3 n ≠ z 30 0 := fun q => by rw [q, sy.2.1] at u5; omega
          rw [RTy 5 _ (by decide) (by omega) (by omega) (by decide), RTy 9 _ (by decide) (by omega) (by omega) (by decide), RTy 5 _ (by decide) (by omega) (by omega) (by decide), RTy 9 _ (by decide) (by omega) (by omega) (by decide)]
          exact ⟨by omega, ⟨u2, u3, u4⟩, u5, u6, u7⟩
        · rename_i s; rw [if_neg s]; exact q3
    · exact chq_rt (c1 n (by omega) h2) ⟨by omega, h2, by omega⟩ RT1 s1.2.1 ⟨by omega, Nat.le_refl _⟩
  · rw [e30]
    have ay' : ADJ (zel z1 (z 30 0) la jo r) (z 30 0) (y 30 0) := fun n n1 n2 => by
      have h := ay n n1 n2
      have q : ∀ c n, (c = 0 ∨ c = 8) → n < y 30 0 → zel z1 (z 30 0) la jo r c n = y c n := fun c n hc hn => by
        rw [E, if_neg (by omega), if_neg (by omega), if_neg (by omega), if_neg (by omega)]; exact fr c n (by omega) hn
      unfold adj at h ⊢
      rw [q 8 _ (by omega) (by omega), q 8 _ (by omega) (by omega), q 0 _ (by omega) (by omega), q 0 _ (by omega) (by omega)]
      exact h
    refine adj_app (mid := y 30 0) ay' (adj_rt a1 RT1) (fun ha hb => ?_)
    have hn1 := (A.2.2.1 (y 30 0 - 1) (by omega) (by omega)).1
    have hn2 := (s1.2.2.1 (y 30 0) (by omega) (by omega)).1
    unfold adj
    rw [show y 30 0 - 1 + 1 = y 30 0 by omega, E, if_neg (by omega), if_neg (by omega), if_neg (by omega), if_neg (by omega), RT1 8 _ (by decide) (by omega) (by omega) (Or.inr ⟨by decide, by decide, by decide, by decide⟩)]
    exact Or.inl (by omega)
  · rw [E, if_neg (by omega), if_neg (by omega), if_neg (by omega), if_neg (by omega)]; exact z10
  · rw [E, if_neg (by omega), if_neg (by omega), if_neg (by omega), if_neg (by omega), fr 2 _ (by decide) (by omega)]; exact k2
  · rw [E, if_neg (by omega), if_neg (by omega), if_neg (by omega), if_neg (by omega), fr 3 _ (by decide) (by omega)]; exact k3
  · rw [E, if_neg (by omega), if_neg (by omega), if_neg (by omega), if_neg (by omega)]; exact z115
  · rw [E, if_neg (by omega), if_neg (by omega), if_neg (by omega), if_neg (by omega), fr 8 _ (by decide) (by omega)]; exact k8
  · rw [e9 _ (by omega), fr 9 _ (by decide) (by omega)]; exact k9
  · by_cases s : la = 1000
    · rw [e11 _ (by omega), fr 11 _ (by decide) (by omega)]; exact k11
    · rw [e11 _ (fun q => lan s q.symm), fr 11 _ (by decide) (by omega)]; exact k11
  · exact ch'
  · intro k hk
    rw [e30]; exact mb' k hk
  · intro k h1 h2
    rw [e30] at h2
    exact iff' k h1 h2
  · rw [e30]; exact balc_tr bc b1.c
  · intro t ht
    rw [e3x 33 t (by decide) (by decide), g1 t (by omega), g33 t ht]
end RUN
