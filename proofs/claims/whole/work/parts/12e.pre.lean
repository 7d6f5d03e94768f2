section RUN
variable {kd pl : Nat → Nat} {nt : Nat} {z z' z1 z2 : Zt} {lo hi r i j a b n m w k d c i1 j1 : Nat}
theorem zu_e {c n v : Nat} (u w : Nat) : zu z c n v u w = if u = c ∧ w = n then v else z u w := rfl
theorem zu_n {c n v u w : Nat} (h : u ≠ c ∨ w ≠ n) : zu z c n v u w = z u w := if_neg (by omega)
theorem zu_s {c n v : Nat} : zu z c n v c n = v := if_pos ⟨rfl, rfl⟩
theorem zbn_e {s : Nat} (c n : Nat) : zbn z s c n = if c = 20 ∧ n = z 30 2 then z 30 4 else if c = 21 ∧ n = z 30 2 then z 30 6 else if c = 22 ∧ n = z 30 2 then s else if c = 23 ∧ n = z 30 2 then z 30 1 - 1 else if c = 30 ∧ n = 2 then z 30 2 + 1 else if c = 30 ∧ n = 5 then z 30 5 + 1 else if c = 30 ∧ n = 6 then 11 + z 30 2 else if c = 30 ∧ n = 4 then z 30 4 + 1 else z c n := rfl
theorem zbn_o {s c n : Nat} (h : c < 20 ∨ (c < 24 ∧ n ≠ z 30 2) ∨ (24 ≤ c ∧ c ≠ 30) ∨ (c = 30 ∧ n ≠ 2 ∧ n ≠ 5 ∧ n ≠ 6 ∧ n ≠ 4)) : zbn z s c n = z c n := by
  rw [zbn_e, if_neg (by omega), if_neg (by omega), if_neg (by omega), if_neg (by omega), if_neg (by omega), if_neg (by omega), if_neg (by omega), if_neg (by omega)]
theorem zbn_30 {s : Nat} : zbn z s 30 2 = z 30 2 + 1 ∧ zbn z s 30 5 = z 30 5 + 1 ∧ zbn z s 30 6 = 11 + z 30 2 ∧ zbn z s 30 4 = z 30 4 + 1 := by
  refine ⟨?_, ?_, ?_, ?_⟩
  · rw [zbn_e, if_neg (by omega), if_neg (by omega), if_neg (by omega), if_neg (by omega), if_pos ⟨rfl, rfl⟩]
  · rw [zbn_e, if_neg (by omega), if_neg (by omega), if_neg (by omega), if_neg (by omega), if_neg (by omega), if_pos ⟨rfl, rfl⟩]
  · rw [zbn_e, if_neg (by omega), if_neg (by omega), if_neg (by omega), if_neg (by omega), if_neg (by omega), if_neg (by omega), if_pos ⟨rfl, rfl⟩]
  · rw [zbn_e, if_neg (by omega), if_neg (by omega), if_neg (by omega), if_neg (by omega), if_neg (by omega), if_neg (by omega), if_neg (by omega), if_pos ⟨rfl, rfl⟩]
theorem zbn_b {s : Nat} : zbn z s 20 (z 30 2) = z 30 4 ∧ zbn z s 21 (z 30 2) = z 30 6 ∧ zbn z s 22 (z 30 2) = s ∧ zbn z s 23 (z 30 2) = z 30 1 - 1 := by
  refine ⟨?_, ?_, ?_, ?_⟩
  · rw [zbn_e, if_pos ⟨rfl, rfl⟩]
  · rw [zbn_e, if_neg (by omega), if_pos ⟨rfl, rfl⟩]
  · rw [zbn_e, if_neg (by omega), if_neg (by omega), if_pos ⟨rfl, rfl⟩]
  · rw [zbn_e, if_neg (by omega), if_neg (by omega), if_neg (by omega), if_pos ⟨rfl, rfl⟩]
theorem wq_zbn {s : Nat} (h : Wq z z1) : Wq z (zbn z1 s) := by
  obtain ⟨⟨a1, a2, a3, a4, a5⟩, b1, b2, b3, b4, b5⟩ := h
  obtain ⟨g2, g5, g6, g4⟩ := zbn_30 (z := z1) (s := s)
  refine ⟨⟨by rw [g4]; omega, ?_, ?_, by rw [g2]; omega, ?_⟩, fun u w x y => ?_, fun u w x y => ?_, fun u w x y s => ?_, fun u x => ?_, fun u t x y s => ?_⟩
  all_goals rw [zbn_o (by omega)]
  · exact a2
  · exact a3
  · exact a5
  · exact b1 u w x y
  · exact b2 u w x y
  · exact b3 u w x y s
  · exact b4 u x
  · exact b5 u _ x y s
theorem seg_zj_o {v t : Nat} (h : SEG kd pl z lo hi r i1 j1 a b) (hv : v < lo ∨ hi ≤ v) (ht : t < i1 ∨ j1 ≤ t) : SEG kd pl (zj z v t) lo hi r i1 j1 a b := by
  have e : ∀ u w, zj z v t u w = if u = 34 ∧ w = t then v else if u = 9 ∧ w = v then t else z u w := fun _ _ => rfl
  refine seg_fr h (fun c n c1 c2 c3 => ?_) (fun k _ _ => ?_) (fun c t c1 c2 _ _ => ?_) ⟨?_, ?_⟩
  · rw [e, if_neg (by omega), if_neg (by omega)]
  · rw [e, if_neg (by omega), if_neg (by omega)]
  · rw [e, if_neg (by omega), if_neg (by omega)]
  · rw [e, if_neg (by omega), if_neg (by omega)]
  · rw [e, if_neg (by omega), if_neg (by omega)]; exact Nat.le_refl _
theorem seg_zlk_o {c v : Nat} (h : SEG kd pl z lo hi r i1 j1 a b) (hn : n < lo ∨ hi ≤ n) (hv : v < lo ∨ hi ≤ v) (hc : c < 16) : SEG kd pl (zlk z c n v) lo hi r i1 j1 a b := by
  have e : ∀ u w, zlk z c n v u w = if u = 5 ∧ w = v then n else if u = c ∧ w = n then v else z u w := fun _ _ => rfl
  refine seg_fr h (fun c n c1 c2 c3 => ?_) (fun k _ _ => ?_) (fun c t c1 c2 _ _ => ?_) ⟨?_, ?_⟩
  · rw [e, if_neg (by omega), if_neg (by omega)]
  · rw [e, if_neg (by omega), if_neg (by omega)]
  · rw [e, if_neg (by omega), if_neg (by omega)]
  · rw [e, if_neg (by omega), if_neg (by omega)]
  · rw [e, if_neg (by omega), if_neg (by omega)]; exact Nat.le_refl _
theorem seg_30 {v x : Nat} (h : SEG kd pl z lo hi r i1 j1 a b) (hv : v ≠ 1 ∧ v ≠ 2) : SEG kd pl (zu z 30 v x) lo hi r i1 j1 a b := by
  refine seg_fr h (fun c n c1 c2 c3 => zu_n (by omega)) (fun k _ _ => zu_n (by omega)) (fun c t c1 c2 _ _ => zu_n (by omega)) ⟨zu_n (by omega), ?_⟩
  rw [zu_n (by omega)]; exact Nat.le_refl _
theorem seg_wd {i' j' a' b' : Nat} (h : SEG kd pl z lo hi r i j a b) (h1 : i' ≤ i ∧ j ≤ j' ∧ a' ≤ a ∧ b ≤ b') : SEG kd pl z lo hi r i' j' a' b' := by
  obtain ⟨x0, xr, xn, xp, xc, xl⟩ := h
  refine ⟨x0, xr, fun n n1 n2 => ?_, xp, xc, xl⟩
  obtain ⟨⟨t1, t2, t3, t4⟩, ⟨t5, t6, t7⟩, t8, t9, t10⟩ := xn n n1 n2
  exact ⟨⟨t1, t2, by omega, by omega⟩, ⟨by omega, by omega, t7⟩, t8, fun s => by have := t9 s; exact ⟨by omega, by omega, this.2.2⟩, t10⟩
theorem lvz_lt {x y : Nat} (h : z 15 x < z 15 y) (hx : x < 500) : lvz z x < lvz z y := by
  unfold lvz
  split <;> split <;> omega
/-- a leaf -/
theorem asm_leaf (ht : tko kd pl nt) (hw : WFz nt d z) (hk : kd (z 30 4) ≤ 2) (hm : z 30 3 < 80) : PSI kd pl nt z 6 d (z 30 0) (adv (zk pl z (kd (z 30 4)) d)) := by
  obtain ⟨v1, v2, v3, v4, v5, v6⟩ := hw
  have hi := tk_lt ht v1 (by omega)
  have e30 : ∀ v, v ≠ 0 → v ≠ 3 → v ≠ 4 → adv (zk pl z (kd (z 30 4)) d) 30 v = z 30 v := fun v a b c => by rw [adv_n (Or.inr c), zk_30 a b]
  have e0 : adv (zk pl z (kd (z 30 4)) d) 30 0 = z 30 0 + 1 := by rw [adv_n (by decide), zk_0]
  have e3 : adv (zk pl z (kd (z 30 4)) d) 30 3 = z 30 3 + 1 := by rw [adv_n (by decide), zk_3]
  have e4 : adv (zk pl z (kd (z 30 4)) d) 30 4 = z 30 4 + 1 := by rw [adv_4, zk_30 (by decide) (by decide)]
  have new : NEW pl z (adv (zk pl z (kd (z 30 4)) d)) (kd (z 30 4)) d (z 30 3) (z 30 0) := NEW_c NEW_zk.1 (fun c c1 _ => adv_n (by omega))
  have new4 : adv (zk pl z (kd (z 30 4)) d) 4 (z 30 0) = 1000 := by rw [adv_n (by omega)]; exact NEW_zk.2
  have hnd : ndp kd pl (adv (zk pl z (kd (z 30 4)) d)) (z 30 4) (z 30 4 + 1) (z 30 3) (z 30 3 + 1) (z 30 0) := by
    refine ndp_new new (by omega) ⟨Nat.le_refl _, by omega⟩ ⟨Nat.le_refl _, by omega, by rw [adv_n (by omega)]; exact zk_31⟩ ?_ ⟨fun s => by omega, fun _ => new4⟩ (by rw [e30 2 (by decide) (by decide) (by decide)]; exact v6) ⟨e30 1 (by decide) (by decide) (by decide), by omega⟩
    rw [if_neg (by omega), adv_n (by omega)]
    exact ⟨zk_32 (by omega), rfl⟩
  obtain ⟨⟨n0, n6, n7, n8, n10, n13, n14, n15⟩, n1, n2, n3, n5, n9, n11, n12⟩ := new
  have hlv : lvk (kd (z 30 4)) = 6 := by
    unfold lvk
    rw [if_neg (by omega), if_neg (by omega), if_neg (by omega)]
  refine ⟨wq_adv wq_zk, ⟨?_, ?_, ?_, ?_, ?_, ?_, ?_, ?_⟩, ?_, ?_, ?_, ?_, ?_, ?_, ?_⟩
  · rw [e4]; omega
  · rw [e4]; omega
  · rw [e0, e3]; omega
  · rw [e3]; omega
  · rw [e30 6 (by decide) (by decide) (by decide)]
  · rw [e30 5 (by decide) (by decide) (by decide)]; exact Nat.le_refl _
  · rw [e30 5 (by decide) (by decide) (by decide)]; omega
  · rw [e30 2 (by decide) (by decide) (by decide), e30 5 (by decide) (by decide) (by decide)]; omega
  · rw [e0, e4, e3]; exact seg_one hnd n5 (fun _ => n12) (fun _ => n1) (by omega)
  · intro n h1 h2
    rw [e0] at h2
    have e : n = z 30 0 := by omega
    subst e
    unfold chq
    rw [n0, n1, n2, n3]
    exact ⟨by rw [if_neg (by omega)]; exact fun _ => rfl, by rw [if_neg (by omega)], by rw [if_neg (by omega)], fun s => by omega⟩
  · rw [e0]; exact adj_one
  · exact ⟨by rw [n15, hlv]; omega, n9, n11⟩
  · intro _ _; rw [n0]; omega
  · rw [e4]; exact bal_t (by omega) (by omega) (by omega) (by omega) (by omega)
  · intro t ht
    rw [adv_n (by omega), zk_e, if_neg (by omega), if_neg (by omega), if_neg (by omega), if_neg (by omega), if_neg (by rw [if_neg (show kd (z 30 4) ≠ 3 by omega)]; omega)]
end RUN
