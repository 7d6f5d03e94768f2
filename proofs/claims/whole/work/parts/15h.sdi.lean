/-! ===== what a declaration leaves in the table ===== -/
def Wd (z z' : Zt) : Prop := (z 30 4 ≤ z' 30 4 ∧ z 30 0 ≤ z' 30 0 ∧ z 30 3 ≤ z' 30 3 ∧ z 30 2 ≤ z' 30 2 ∧ z' 30 1 = z 30 1 + 1) ∧ (∀ c n, c < 16 → n < z 30 0 → z' c n = z c n) ∧ (∀ c d, 16 ≤ c → c < 20 → d < z 30 1 → z' c d = z c d) ∧ (∀ c n, 20 ≤ c → c < 24 → n < z 30 2 → z' c n = z c n) ∧ (∀ k, k < z 30 3 → z' 31 k = z 31 k) ∧ (∀ c t, 32 ≤ c → c ≤ 34 → t < z 30 4 → z' c t = z c t)
/-- the scope of a declaration's body -/
def LPs (z : Zt) (d : Nat) : Nat := if z 17 d = 0 then 1000 else 11 + z 16 d + z 17 d
def SDI (kd pl : Nat → Nat) (nt : Nat) (z : Zt) (r : Nat) (z' : Zt) : Prop :=
  (Wd z z' ∧ WFd nt z' ∧ z' 30 0 = z' 30 3) ∧
  ((z' 16 (z 30 1) = z 30 2 ∧ z' 18 (z 30 1) = r ∧ z 30 2 + z' 17 (z 30 1) < z' 30 2 ∧ z 30 4 + z' 17 (z 30 1) + 2 ≤ z' 30 4 ∧ z' 32 (z 30 4) = 2000 + z 30 1) ∧
   (∀ i, i ≤ z' 17 (z 30 1) → (z' 20 (z 30 2 + i) = z 30 4 + i ∧ kd (z 30 4 + i) = 0) ∧ z' 21 (z 30 2 + i) = (if i ≤ 1 then 1000 else 10 + z 30 2 + i) ∧ z' 22 (z 30 2 + i) = (if i = 0 then 0 else 1) ∧ z' 23 (z 30 2 + i) = z 30 1)) ∧
  (∀ b, z 30 2 + z' 17 (z 30 1) < b → b < z' 30 2 → z' 22 b = 2 ∧ z' 23 b = z 30 1 ∧ ∃ l, scl z' (z' 21 b) l (LPs z' (z 30 1))) ∧
  SEG kd pl z' (z 30 0) (z' 30 0) r (z 30 4 + z' 17 (z 30 1) + 2) (z' 30 4) (z 30 3) (z' 30 3) ∧ CHD kd z' (z 30 0) (z' 30 0) ∧ ADJ z' (z 30 0) (z' 30 0) ∧ (∀ n, z 30 0 ≤ n → n < z' 30 0 → ∃ l, scl z' (z' 10 n) l (LPs z' (z 30 1)))
section SDIS
variable {kd pl : Nat → Nat} {nt : Nat} {pr : Nat → Bool} {f : Nat} {z : Zt}
theorem seg_zz {z z' : Zt} {lo hi r i j a b : Nat} (h : SEG kd pl z lo hi r i j a b) (hc : ∀ c n, c ≠ 18 → z' c n = z c n) : SEG kd pl z' lo hi r i j a b := by
  have e : z' = fun c n => if c = 18 then z' c n else z c n := by
    funext c n
    by_cases s : c = 18
    · rw [if_pos s]
    · rw [if_neg s]; exact hc c n s
  obtain ⟨s1, s2, s3, s4, s5, s6⟩ := h
  refine ⟨s1, by rw [hc 5 _ (by decide)]; exact s2, fun n n1 n2 => ?_, fun n n1 n2 n3 => ?_, fun m m1 m2 m3 m4 => ?_, fun m m1 m2 m3 => ?_⟩
  · have := s3 n n1 n2
    unfold ndp at this ⊢
    rw [hc 0 _ (by decide), hc 7 _ (by decide), hc 8 _ (by decide), hc 6 _ (by decide), hc 31 _ (by decide), hc 33 _ (by decide), hc 32 _ (by decide), hc 9 _ (by decide), hc 34 _ (by decide), hc 14 _ (by decide), hc 30 1 (by decide), hc 10 _ (by decide), hc 30 2 (by decide), hc 4 _ (by decide)]
    exact this
  · have := s4 n n1 n2 n3
    unfold lvz at this ⊢
    rw [hc 5 _ (by decide), hc 15 _ (by decide), hc 15 _ (by decide)]
    exact this
  · rw [hc 0 _ (by decide)] at m3
    rw [hc 12 _ (by decide)] at m4
    have := s5 m m1 m2 m3 m4
    unfold crm at this ⊢
    rw [hc 12 _ (by decide), hc 2 _ (by decide), hc 5 _ (by decide)]
    refine ⟨this.1, this.2.1, this.2.2.1, this.2.2.2.1, fun k k1 k2 => ?_⟩
    rw [hc 5 _ (by decide)]
    exact this.2.2.2.2 k k1 k2
  · rw [hc 0 _ (by decide)] at m3
    obtain ⟨es, e1, e2, e3, e4⟩ := s6 m m1 m2 m3
    refine ⟨es, ?_, e2, fun k hk => ?_, fun k k1 k2 => ?_⟩
    · rw [hc 1 _ (by decide)]
      exact chn_congr (fun q _ => hc 11 _ (by decide)) e1
    · rw [hc 9 _ (by decide)]; exact e3 k hk
    · rw [hc 5 _ (by decide)]; exact e4 k k1 k2
theorem chd_zz {z z' : Zt} {lo hi : Nat} (h : CHD kd z lo hi) (hc : ∀ c n, c ≠ 18 → z' c n = z c n) : CHD kd z' lo hi := fun n n1 n2 => by
  have := h n n1 n2
  unfold chq at this ⊢
  simp only [hc 0 _ (by decide), hc 1 _ (by decide), hc 2 _ (by decide), hc 3 _ (by decide), hc 5 _ (by decide), hc 9 _ (by decide), hc 12 _ (by decide)]
  exact this
theorem adj_zz {z z' : Zt} {lo hi : Nat} (h : ADJ z lo hi) (hc : ∀ c n, c ≠ 18 → z' c n = z c n) : ADJ z' lo hi := fun n n1 n2 => by
  have := h n n1 n2
  unfold adj at this ⊢
  rw [hc 8 _ (by decide), hc 8 _ (by decide), hc 0 _ (by decide), hc 0 _ (by decide)]
  exact this
theorem D_all (ht : tko kd pl nt) (hf : 148 ≤ f) (hw : WFd nt z) (h03 : z 30 0 = z 30 3) (q : Nat × Zt) (h : sD kd pl pr f z = .inr q) : SDI kd pl nt z q.1 q.2 ∧ q.2 18 (z 30 1) = q.1 := by
  unfold sD at h
  split at h
  · exact (flt_r h).elim
  rename_i h0
  have n0 : kd (z 30 4) = 0 := by omega
  have c6 : z 30 1 < 6 := by omega
  obtain ⟨r0, z1, hx, h2⟩ := rb_r h
  have hwp := wfp_zd ht hw n0 c6
  obtain ⟨⟨hw1, ⟨y0, y1, y2, y3, y4, y5, y6⟩, yc, yb, yn⟩, k0⟩ := P_lpP ht 18 _ _ _ hwp hx
  obtain ⟨⟨x1, x2, x3, x4, x5, x6⟩, x7, x8⟩ := id hw1
  obtain ⟨⟨q1, q2, q4, q6⟩, ⟨q20, q21, q22, q23⟩, q16, q17, q18, q32⟩ := zd_f (z := z)
  have q3 : zd z 30 3 = z 30 3 := zd_o (by omega) (by omega) (by omega) (by omega)
  have q5 : zd z 30 5 = z 30 5 := zd_o (by omega) (by omega) (by omega) (by omega)
  have q0 : zd z 30 0 = z 30 0 := zd_o (by omega) (by omega) (by omega) (by omega)
  rw [q0] at y0
  rw [q1] at y1 yn
  rw [q2] at y2 y4 y5 y6 yb yn
  rw [q3] at y3
  rw [q4] at y4 yn
  rw [q5] at y5
  rw [q6] at y6 yn
  split at h2
  · exact (flt_r h2).elim
  rename_i h15
  have k15 : kd (z1 30 4) = 15 := Classical.not_not.mp h15
  obtain ⟨r, z2, hx2, h3⟩ := rb_r h2
  cases h3
  have z16 : z1 16 (z 30 1) = z 30 2 := by rw [yc 16 _ (by omega)]; exact q16
  rw [z16] at hx2
  obtain ⟨k, hk⟩ : ∃ k, z1 30 2 = z 30 2 + 1 + k := ⟨z1 30 2 - (z 30 2 + 1), by omega⟩
  rw [show z1 30 2 - 1 - z 30 2 = k by omega] at hx2
  obtain ⟨zb, hzb⟩ : ∃ zb, zb = zu z1 17 (z 30 1) k := ⟨_, rfl⟩
  rw [← hzb] at hx2
  have b17 : zb 17 (z 30 1) = k := by rw [hzb, zu_s]
  have zbo : ∀ c m, (c ≠ 17 ∨ m ≠ z 30 1) → zb c m = z1 c m := fun c m h => by rw [hzb, zu_n h]
  have tl := tk_lt ht x1 (by omega)
  have a4 : adv zb 30 4 = z1 30 4 + 1 := by rw [adv_4, zbo _ _ (by omega)]
  have ao : ∀ c m, (c ≠ 30 ∨ m ≠ 4) → (c ≠ 17 ∨ m ≠ z 30 1) → adv zb c m = z1 c m := fun c m h h2 => by rw [adv_n h, zbo c m h2]
  have hwa : WFz nt 0 (adv zb) := by
    unfold WFz
    rw [a4, ao 30 3 (by omega) (by omega), ao 30 0 (by omega) (by omega), ao 30 2 (by omega) (by omega), ao 30 1 (by omega) (by omega), ao 30 5 (by omega) (by omega), ao 30 6 (by omega) (by omega)]
    exact ⟨by omega, by omega, by omega, by omega, ⟨by omega, by omega, by omega, by omega⟩, by omega⟩
  have hr0 := P_all (pr := pr) ht f 0 0 (adv zb) (by omega) (by omega) hwa
  rw [hx2] at hr0
  have hr0 : PSI kd pl nt (adv zb) 0 0 r z2 := hr0
  have hsc := SC_all _ _ _ _ _ hx2
  replace hsc : ScR (adv zb) z2 := hsc
  obtain ⟨w1, ⟨p1, p2, p3, p4, p5, p6, p7, p8⟩, s1, c1, ad1, -⟩ := hr0
  obtain ⟨⟨g1, g2, g3, g4⟩, ⟨g5, g6⟩, g7, g8⟩ := hsc
  have a0 := ao 30 0 (by omega) (by omega)
  have a1 := ao 30 1 (by omega) (by omega)
  have a2 := ao 30 2 (by omega) (by omega)
  have a3 := ao 30 3 (by omega) (by omega)
  have a5 := ao 30 5 (by omega) (by omega)
  have a6 := ao 30 6 (by omega) (by omega)
  have w17 : z2 17 (z 30 1) = k := by rw [w1.2.2.1 17 _ (by decide) (by decide), adv_n (by omega)]; exact b17
  have w16 : z2 16 (z 30 1) = z 30 2 := by rw [w1.2.2.1 16 _ (by decide) (by decide), ao 16 _ (by omega) (by omega)]; exact z16
  obtain ⟨zz, hzz⟩ : ∃ zz, zz = zu z2 18 (z 30 1) r := ⟨_, rfl⟩
  have zo : ∀ c m, c ≠ 18 → zz c m = z2 c m := fun c m h => by rw [hzz, zu_n (Or.inl h)]
  have z18 : zz 18 (z 30 1) = r := by rw [hzz, zu_s]
  have hlp : LPs zz (z 30 1) = adv zb 30 6 := by
    unfold LPs
    rw [zo 17 _ (by decide), zo 16 _ (by decide), w17, w16, a6, y6]
    by_cases s : k = 0
    · rw [if_pos s, if_pos (by omega)]
    · rw [if_neg s, if_neg (by omega)]; omega
  have scz : ∀ l s s0, scl z2 s l s0 → scl zz s l s0 := scl_mv (by rw [zo 30 2 (by decide)]; exact Nat.le_refl _) (fun c b _ _ _ => zo c b (by omega))
  show SDI kd pl nt z r (zu z2 18 (z 30 1) r) ∧ zu z2 18 (z 30 1) r 18 (z 30 1) = r
  rw [← hzz]
  have v := hw.2.2.2
  rw [a0] at s1 c1 ad1 g7
  rw [a4] at s1
  rw [a3] at s1
  refine ⟨⟨⟨⟨⟨?_, ?_, ?_, ?_, ?_⟩, ?_, ?_, ?_, ?_, ?_⟩, ⟨?_, ?_, ?_, ?_, ?_, ?_⟩, ?_⟩, ⟨⟨?_, z18, ?_, ?_, ?_⟩, fun i hi => ?_⟩, fun b hb1 hb2 => ?_, ?_, ?_, ?_, fun n hn1 hn2 => ?_⟩, z18⟩
  · rw [zo 30 4 (by decide)]; omega
  · rw [zo 30 0 (by decide)]; omega
  · rw [zo 30 3 (by decide)]; omega
  · rw [zo 30 2 (by decide)]; omega
  · rw [zo 30 1 (by decide)]; omega
  · intro c n hc hn
    rw [zo c n (by omega), w1.2.1 c n hc (by omega), ao c n (by omega) (by omega), yc c n (by omega), zd_o (by omega) (by omega) (by omega) (by omega)]
  · intro c d hc hc2 hd
    by_cases s18 : c = 18
    · subst s18
      rw [hzz, zu_n (by omega), w1.2.2.1 18 d (by decide) (by decide), ao _ _ (by omega) (by omega), yc _ _ (by omega), zd_o (by omega) (by omega) (by omega) (by omega)]
    · rw [zo c d s18, w1.2.2.1 c d hc hc2, ao c d (by omega) (by omega), yc c d (by omega), zd_o (by omega) (by omega) (by omega) (by omega)]
  · intro c n hc hc2 hn
    rw [zo c n (by omega), w1.2.2.2.1 c n hc hc2 (by omega), ao c n (by omega) (by omega), yb c n hc (by omega) (by omega), zd_o (by omega) (by omega) (by omega) (by omega)]
  · intro j hj
    rw [zo 31 j (by decide), w1.2.2.2.2.1 j (by omega), ao 31 j (by omega) (by omega), yc 31 j (by omega), zd_o (by omega) (by omega) (by omega) (by omega)]
  · intro c t hc hc2 htt
    rw [zo c t (by omega), w1.2.2.2.2.2 c t hc hc2 (by omega), ao c t (by omega) (by omega), yc c t (by omega), zd_o (by omega) (by omega) (by omega) (by omega)]
  · rw [zo 30 4 (by decide)]; exact p2
  · rw [zo 30 3 (by decide)]; exact p4
  · rw [zo 30 0 (by decide), zo 30 3 (by decide)]; omega
  · rw [zo 30 2 (by decide), zo 30 1 (by decide), zo 30 5 (by decide)]; omega
  · rw [zo 30 5 (by decide)]; omega
  · rw [zo 30 1 (by decide)]; omega
  · rw [zo 30 0 (by decide), zo 30 3 (by decide)]; omega
  · rw [zo 16 _ (by decide)]; exact w16
  · rw [zo 17 _ (by decide), zo 30 2 (by decide), w17]; omega
  · rw [zo 17 _ (by decide), zo 30 4 (by decide), w17]; omega
  · rw [zo 32 _ (by decide), w1.2.2.2.2.2 32 _ (by decide) (by decide) (by omega), ao 32 _ (by omega) (by omega), yc 32 _ (by omega)]; exact q32
  · rw [zo 17 _ (by decide), w17] at hi
    rw [zo 20 _ (by decide), zo 21 _ (by decide), zo 22 _ (by decide), zo 23 _ (by decide), w1.2.2.2.1 20 _ (by decide) (by decide) (by omega), w1.2.2.2.1 21 _ (by decide) (by decide) (by omega), w1.2.2.2.1 22 _ (by decide) (by decide) (by omega), w1.2.2.2.1 23 _ (by decide) (by decide) (by omega), ao 20 _ (by omega) (by omega), ao 21 _ (by omega) (by omega), ao 22 _ (by omega) (by omega), ao 23 _ (by omega) (by omega)]
    by_cases i0 : i = 0
    · subst i0
      rw [Nat.add_zero, yb 20 _ (by decide) (by decide) (by omega), yb 21 _ (by decide) (by decide) (by omega), yb 22 _ (by decide) (by decide) (by omega), yb 23 _ (by decide) (by decide) (by omega), q20, q21, q22, q23]
      exact ⟨⟨rfl, n0⟩, by rw [if_pos (by decide)], by rw [if_pos rfl], rfl⟩
    · obtain ⟨u1, u2, u3, u4, u5⟩ := yn (z 30 2 + i) (by omega) (by omega)
      have e20 : z1 20 (z 30 2 + i) = z 30 4 + i := by omega
      rw [e20] at u2
      refine ⟨⟨e20, u2⟩, ?_, ?_, by rw [u5]; omega⟩
      · rw [u3]
        by_cases i1 : i = 1
        · rw [if_pos (by omega), if_pos (by omega)]
        · rw [if_neg (by omega), if_neg (by omega)]; omega
      · rw [u4, if_neg i0]
  · rw [zo 17 _ (by decide), w17] at hb1
    rw [zo 30 2 (by decide)] at hb2
    rw [zo 22 _ (by decide), zo 23 _ (by decide), zo 21 _ (by decide), hlp]
    obtain ⟨u1, u2, l, hl⟩ := g8 b (by omega) hb2
    exact ⟨u1, by rw [u2]; omega, l, scz _ _ _ hl⟩
  · rw [zo 30 0 (by decide), zo 17 _ (by decide), zo 30 4 (by decide), zo 30 3 (by decide), w17, show z 30 4 + k + 2 = z1 30 4 + 1 by omega, ← y3, ← y0]
    exact seg_zz s1 zo
  · rw [zo 30 0 (by decide), ← y0]; exact chd_zz c1 zo
  · rw [zo 30 0 (by decide), ← y0]; exact adj_zz ad1 zo
  · rw [zo 30 0 (by decide)] at hn2
    rw [zo 10 _ (by decide), hlp]
    obtain ⟨l, hl⟩ := g7 n (by omega) hn2
    exact ⟨l, scz _ _ _ hl⟩
end SDIS
