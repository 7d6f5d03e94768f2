/-! ===== the reference's parser: declarations ===== -/
/-- the state between expressions -/
def mSD (tp : Nat → Nat) (n : Nat) (I : lm_I) (L : lm_L) (z : Zt) : Prop :=
  (tpM I tp n ∧ tkm I L (xk tp n (z 30 4)) (xp tp n (z 30 4)) (xy tp n (z 30 4)) (tq tp n (z 30 4 + 1))) ∧
  (I 96 9 = nI (z 30 3) ∧ I 96 21 = nI (z 30 2) ∧ I 96 27 = nI (z 30 5) ∧ I 96 28 = nI (z 30 1) ∧ I 96 46 = nI 0) ∧
  (∀ b, b < z 30 2 → L 110 b = xy tp n (z 20 b) ∧ I 111 b = nI (xp tp n (z 20 b)) ∧ I 112 b = nI (z 22 b) ∧ I 113 b = nI (z 23 b) ∧ I 114 b = (if z 22 b = 2 then sM z (z 21 b) else -9) ∧ (z 21 b = 1000 ∨ z 21 b < 11 + b))
/-- what a declaration keeps: nodes below M, binders below B, declarations below D -/
def frU (M B D : Nat) (I I' : lm_I) (L L' : lm_L) : Prop := frD I I' L L' ∧ (∀ m, m < D → I' 115 m = I 115 m ∧ I' 116 m = I 116 m) ∧ ((∀ o m, 99 ≤ o → o ≤ 109 → m < M → I' o m = I o m) ∧ (∀ o m, 110 ≤ o → o ≤ 114 → m < B → I' o m = I o m)) ∧ (∀ m, m < M → L' 101 m = L 101 m) ∧ (∀ m, m < B → L' 110 m = L 110 m)
section MDECL
variable {tp : Nat → Nat} {n nt e d M B D M2 B2 D2 op oc s dv x1 x5 : Nat} {S : lm_S} {I I' I1 I2 : lm_I} {L L' L1 L2 : lm_L} {R : lm_R} {Q : Option Value → lm_M → Prop} {z z' : Zt}
theorem frU.rf : frU M B D I I L L := ⟨frD.rf, fun _ _ => ⟨rfl, rfl⟩, ⟨fun _ _ _ _ _ => rfl, fun _ _ _ _ _ => rfl⟩, fun _ _ => rfl, fun _ _ => rfl⟩
theorem frU.tr (h : frU M B D I I1 L L1) (h2 : frU M2 B2 D2 I1 I2 L1 L2) (hM : M ≤ M2) (hB : B ≤ B2) (hD : D ≤ D2) : frU M B D I I2 L L2 := by
  obtain ⟨a1, a2, ⟨a3, a4⟩, a5, a6⟩ := h
  obtain ⟨b1, b2, ⟨b3, b4⟩, b5, b6⟩ := h2
  exact ⟨a1.tr b1, fun m q => ⟨(b2 m (by omega)).1.trans (a2 m q).1, (b2 m (by omega)).2.trans (a2 m q).2⟩, ⟨fun o m p q w => (b3 o m p q (by omega)).trans (a3 o m p q w), fun o m p q w => (b4 o m p q (by omega)).trans (a4 o m p q w)⟩, fun m q => (b5 m (by omega)).trans (a5 m q), fun m q => (b6 m (by omega)).trans (a6 m q)⟩
theorem frP.t (h : frP M2 B2 op oc I I1 L L1) (hM : M ≤ M2) (hB : B ≤ B2) : frU M B D I I1 L L1 := by
  obtain ⟨a1, ⟨a2, a3, a4⟩, ⟨a5, a6, a7, a8⟩, a9, a10⟩ := h
  exact ⟨a1, fun m _ => ⟨by rw [a2], by rw [a3]⟩, ⟨fun o m p q w => a5 o m p q (by omega), fun o m p q w => a6 o m p q (by omega)⟩, fun m w => a9 m (by omega), fun m w => a10 m (by omega)⟩
theorem frK.t (h : frK I I' L L') : frU M B D I I' L L' := (h.m (M := M) (B := B) (op := 0) (oc := 0)).t (Nat.le_refl _) (Nat.le_refl _)
theorem mST_D (g : mST tp n I L d z) : mSD tp n I L z := ⟨g.1, ⟨g.2.1.1, g.2.1.2.1, g.2.1.2.2.1, g.2.1.2.2.2.1, g.2.1.2.2.2.2.1⟩, g.2.2⟩
theorem mSD_ST (g : mSD tp n I L z) (h38 : I 96 38 = nI d) (h31 : I 96 31 = nI (d + 1)) (h41 : I 96 41 = sM z (z 30 6)) : mST tp n I L d z := by
  obtain ⟨a, ⟨b1, b2, b3, b4, b5⟩, c⟩ := g
  exact ⟨a, ⟨b1, b2, b3, b4, b5, h38, h31, h41⟩, c⟩
theorem mSD_mv (g : mSD tp n I L z) (h97 : I' 97 = I 97) (hb : ∀ o b, 110 ≤ o → o ≤ 114 → b < z 30 2 → I' o b = I o b) (hk : ∀ k, (k = 1 ∨ (4 ≤ k ∧ k ≤ 7) ∨ k = 9 ∨ k = 21 ∨ k = 27 ∨ k = 28 ∨ k = 46) → I' 96 k = I 96 k) (h8 : L' 96 8 = L 96 8) (hl : ∀ b, b < z 30 2 → L' 110 b = L 110 b) (h30 : ∀ k, 1 ≤ k → k ≤ 5 → z' 30 k = z 30 k) (hc : ∀ c b, 20 ≤ c → c ≤ 23 → z' c b = z c b) : mSD tp n I' L' z' := by
  have es : ∀ s, sM z' s = sM z s := fun s => sM_eq (fun _ _ => hc 22 _ (by decide) (by decide))
  obtain ⟨⟨⟨a1, a2, a3⟩, a4, a5, a6, a7, a8⟩, ⟨b1, b2, b3, b4, b5⟩, c1⟩ := g
  unfold mSD
  rw [h30 4 (by decide) (by decide), h30 3 (by decide) (by decide), h30 2 (by decide) (by decide), h30 5 (by decide) (by decide), h30 1 (by decide) (by decide)]
  refine ⟨⟨⟨a1, by rw [hk 1 (by omega)]; exact a2, by rw [h97]; exact a3⟩, by rw [hk 6 (by omega)]; exact a4, by rw [hk 5 (by omega)]; exact a5, by rw [hk 7 (by omega)]; exact a6, by rw [h8]; exact a7, by rw [hk 4 (by omega)]; exact a8⟩, ⟨by rw [hk 9 (by omega)]; exact b1, by rw [hk 21 (by omega)]; exact b2, by rw [hk 27 (by omega)]; exact b3, by rw [hk 28 (by omega)]; exact b4, by rw [hk 46 (by omega)]; exact b5⟩, fun b q => ?_⟩
  rw [hc 20 b (by decide) (by decide), hc 22 b (by decide) (by decide), hc 23 b (by decide) (by decide), hc 21 b (by decide) (by decide), es, hl b q, hb 111 b (by decide) (by decide) q, hb 112 b (by decide) (by decide) q, hb 113 b (by decide) (by decide) q, hb 114 b (by decide) (by decide) q]
  exact c1 b q
theorem mSD_tM (g : mSD tp n I L z) (h : xk tp n (z 30 4) ≤ 23) : tM I L (xk tp n (z 30 4)) (xy tp n (z 30 4)) := ⟨g.1.2.2.1, g.1.2.2.2.1, g.1.2.2.2.2.1, h⟩
theorem k_nxD (hS : lp_shape S) (hR : lp_refs R) (g : mSD tp n I L z) (h23 : xk tp n (z 30 4) ≠ 23) (hQ : ∀ I' L', mSD tp n I' L' (adv z) → frN I I' → frNL L L' → Q none (S, I', L', R)) : lc (e + 2) 151 [.ref 96] (S, I, L, R) Q := by
  refine k_151 (i := z 30 4 + 1) hS hR g.1.1 (g.1.2.2.2.2.2 h23) (fun I' L' t f f2 => hQ I' L' ?_ f f2)
  have ae : ∀ c n, c ≠ 30 ∨ n ≠ 4 → adv z c n = z c n := fun c n h => adv_n h
  have es : ∀ s, sM (adv z) s = sM z s := fun s => sM_eq (fun _ _ => ae _ _ (Or.inl (by decide)))
  have fk := f.2
  refine ⟨⟨tpM_fr g.1.1 f, by rw [adv_4]; exact t⟩, ?_, fun b q => ?_⟩
  · rw [ae _ _ (by decide), ae _ _ (by decide), ae _ _ (by decide), ae _ _ (by decide), fk 9 (by decide) (by decide) (by decide) (by decide), fk 21 (by decide) (by decide) (by decide) (by decide), fk 27 (by decide) (by decide) (by decide) (by decide), fk 28 (by decide) (by decide) (by decide) (by decide), fk 46 (by decide) (by decide) (by decide) (by decide)]
    exact g.2.1
  · rw [ae _ _ (by decide)] at q
    rw [ae _ _ (by omega), ae _ _ (by omega), ae _ _ (by omega), ae _ _ (by omega), es, f2 110 b (by omega), f.1 111 (by decide), f.1 112 (by decide), f.1 113 (by decide), f.1 114 (by decide)]
    exact g.2.2 b q
/-- a binder of a declaration or behind it -/
theorem mSD_bd (g : mSD tp n I L z) (hk : xk tp n (z 30 4) = 0) (hs : s ≠ 2) (hB : z 30 2 < 900) (h97 : I' 97 = I 97) (hf : ∀ j, j ≠ 21 → j ≠ 27 → j ≠ 28 → I' 96 j = I 96 j) (h27 : I' 96 27 = nI x5) (h28 : I' 96 28 = nI x1) (h21 : I' 96 21 = nI (z 30 2 + 1)) (hr : ∀ o m, 111 ≤ o → o ≤ 114 → m ≠ z 30 2 → I' o m = I o m) (hn : I' 111 (z 30 2) = I 96 6 ∧ I' 112 (z 30 2) = nI s ∧ I' 113 (z 30 2) = nI dv ∧ I' 114 (z 30 2) = -9) (hL : L' = lm_up L 110 (z 30 2) (L 96 8))
    (z30 : z' 30 1 = x1 ∧ z' 30 2 = z 30 2 + 1 ∧ z' 30 3 = z 30 3 ∧ z' 30 4 = z 30 4 ∧ z' 30 5 = x5) (zc : ∀ c b, 20 ≤ c → c ≤ 23 → b ≠ z 30 2 → z' c b = z c b) (zB : z' 20 (z 30 2) = z 30 4 ∧ (z' 21 (z 30 2) = 1000 ∨ z' 21 (z 30 2) < 11 + z 30 2) ∧ z' 22 (z 30 2) = s ∧ z' 23 (z 30 2) = dv) : mSD tp n I' L' z' := by
  obtain ⟨⟨⟨a1, a2, a3⟩, a4, a5, a6, a7, a8⟩, ⟨b1, b2, b3, b4, b5⟩, c1⟩ := g
  obtain ⟨y1, y2, y3, y4, y5⟩ := z30
  obtain ⟨q20, q21, q22, q23⟩ := zB
  have L8 : L' 96 8 = L 96 8 := by rw [hL, lL_o (by decide)]
  have m1 : mty (xk tp n (z 30 4)) = 1 := by rw [hk]; rfl
  have es : ∀ x, x ≠ 11 + z 30 2 → sM z' x = sM z x := fun x h => sM_eq (fun _ _ => zc 22 _ (by decide) (by decide) (by omega))
  unfold mSD
  rw [y1, y2, y3, y4, y5]
  refine ⟨⟨⟨a1, by rw [hf 1 (by decide) (by decide) (by decide)]; exact a2, by rw [h97]; exact a3⟩, by rw [hf 6 (by decide) (by decide) (by decide)]; exact a4, by rw [hf 5 (by decide) (by decide) (by decide)]; exact a5, by rw [hf 7 (by decide) (by decide) (by decide)]; exact a6, by rw [L8]; exact a7, by rw [hf 4 (by decide) (by decide) (by decide)]; exact a8⟩, ⟨by rw [hf 9 (by decide) (by decide) (by decide)]; exact b1, h21, h27, h28, by rw [hf 46 (by decide) (by decide) (by decide)]; exact b5⟩, fun b q => ?_⟩
  by_cases sb : b = z 30 2
  · subst sb
    obtain ⟨n1, n2, n3, n4⟩ := hn
    rw [q20, q22, q23, if_neg hs]
    exact ⟨by rw [hL, lL_at]; exact (a7 m1).1, by rw [n1]; exact a4, n2, n3, n4, q21⟩
  · have hc := c1 b (by omega)
    rw [zc 20 b (by decide) (by decide) sb, zc 21 b (by decide) (by decide) sb, zc 22 b (by decide) (by decide) sb, zc 23 b (by decide) (by decide) sb, es _ (by omega), hr 111 b (by decide) (by decide) sb, hr 112 b (by decide) (by decide) sb, hr 113 b (by decide) (by decide) sb, hr 114 b (by decide) (by decide) sb]
    have l1 : L' 110 b = L 110 b := by
      rw [hL]
      simp [lm_up, sb]
    rw [l1]
    exact hc
end MDECL
