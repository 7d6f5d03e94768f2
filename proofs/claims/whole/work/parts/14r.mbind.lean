section MBIND
variable {tp : Nat → Nat} {n nt e e1 k M d oc cb B op v r r2 s p : Nat} {sv nv : Int32} {S : lm_S} {I I' I1 I2 I3 : lm_I} {L L' L1 L2 L3 : lm_L} {R : lm_R} {Q K : Option Value → lm_M → Prop} {z z0 z1 z2 : Zt} {rec : Nat → Nat → Zt → Rs}
/-- a binder's row, the token and the scope left as they were -/
def zbx (z : Zt) (s : Nat) : Zt := zu (zu (zbn z s) 30 4 (z 30 4)) 30 6 (z 30 6)
theorem zbx_o {c b : Nat} (h : c ≠ 30 ∨ (b ≠ 4 ∧ b ≠ 6)) : zbx z s c b = zbn z s c b := by
  unfold zbx
  rw [zu_n (by omega), zu_n (by omega)]
theorem zbx_4 : zbx z s 30 4 = z 30 4 := by unfold zbx; rw [zu_n (by decide), zu_s]
theorem zbx_6 : zbx z s 30 6 = z 30 6 := by unfold zbx; rw [zu_s]
theorem mST_bd (g : mST tp n I L d z) (hk : xk tp n (z 30 4) = 0) (hw : z 30 6 = 1000 ∨ z 30 6 < 11 + z 30 2) (hB : z 30 2 < 900) (h97 : I' 97 = I 97) (hf : ∀ j, j ≠ 21 → j ≠ 27 → I' 96 j = I 96 j) (h27 : I' 96 27 = nI (z 30 5 + 1)) (h21 : I' 96 21 = nI (z 30 2 + 1)) (hr : ∀ o m, 111 ≤ o → o ≤ 114 → m ≠ z 30 2 → I' o m = I o m) (hn : I' 111 (z 30 2) = I 96 6 ∧ I' 112 (z 30 2) = nI s ∧ I' 113 (z 30 2) = nI (z 30 1 - 1) ∧ I' 114 (z 30 2) = (if s = 2 then sM z (z 30 6) else -9)) (hL : L' = lm_up L 110 (z 30 2) (L 96 8)) : mST tp n I' L' d (zbx z s) := by
  obtain ⟨⟨⟨a1, a2, a3⟩, a4, a5, a6, a7, a8⟩, ⟨b1, b2, b3, b4, b5, b6, b7, b8⟩, c1⟩ := g
  have L8 : L' 96 8 = L 96 8 := by rw [hL, lL_o (by decide)]
  have m1 : mty (xk tp n (z 30 4)) = 1 := by rw [hk]; rfl
  have eb : ∀ c b, 20 ≤ c → c ≤ 23 → b ≠ z 30 2 → zbx z s c b = z c b := fun c b h1 h2 h3 => by rw [zbx_o (by omega), zbn_o (by omega)]
  have es : ∀ x, x ≠ 11 + z 30 2 → sM (zbx z s) x = sM z x := fun x h => sM_eq (fun _ _ => eb 22 _ (by decide) (by decide) (by omega))
  obtain ⟨q20, q21, q22, q23⟩ := zbn_b (z := z) (s := s)
  obtain ⟨q2, q5, -, -⟩ := zbn_30 (z := z) (s := s)
  have x1 : zbx z s 30 1 = z 30 1 := by rw [zbx_o (by omega), zbn_o (by omega)]
  have x2 : zbx z s 30 2 = z 30 2 + 1 := by rw [zbx_o (by omega)]; exact q2
  have x3 : zbx z s 30 3 = z 30 3 := by rw [zbx_o (by omega), zbn_o (by omega)]
  have x5 : zbx z s 30 5 = z 30 5 + 1 := by rw [zbx_o (by omega)]; exact q5
  unfold mST
  rw [zbx_4, x1, x2, x3, x5, zbx_6, es _ (by omega)]
  refine ⟨⟨⟨a1, by rw [hf 1 (by decide) (by decide)]; exact a2, by rw [h97]; exact a3⟩, by rw [hf 6 (by decide) (by decide)]; exact a4, by rw [hf 5 (by decide) (by decide)]; exact a5, by rw [hf 7 (by decide) (by decide)]; exact a6, by rw [L8]; exact a7, by rw [hf 4 (by decide) (by decide)]; exact a8⟩, ⟨by rw [hf 9 (by decide) (by decide)]; exact b1, h21, h27, by rw [hf 28 (by decide) (by decide)]; exact b4, by rw [hf 46 (by decide) (by decide)]; exact b5, by rw [hf 38 (by decide) (by decide)]; exact b6, by rw [hf 31 (by decide) (by decide)]; exact b7, by rw [hf 41 (by decide) (by decide)]; exact b8⟩, fun b q => ?_⟩
  by_cases sb : b = z 30 2
  · subst sb
    obtain ⟨n1, n2, n3, n4⟩ := hn
    rw [zbx_o (Or.inl (by decide)), zbx_o (Or.inl (by decide)), zbx_o (Or.inl (by decide)), zbx_o (Or.inl (by decide)), q20, q21, q22, q23, es _ (by omega)]
    exact ⟨by rw [hL, lL_at]; exact (a7 m1).1, by rw [n1]; exact a4, n2, n3, n4, by omega⟩
  · have hc := c1 b (by omega)
    rw [eb 20 b (by decide) (by decide) sb, eb 21 b (by decide) (by decide) sb, eb 22 b (by decide) (by decide) sb, eb 23 b (by decide) (by decide) sb, es _ (by omega), hr 111 b (by decide) (by decide) sb, hr 112 b (by decide) (by decide) sb, hr 113 b (by decide) (by decide) sb, hr 114 b (by decide) (by decide) sb]
    have l1 : L' 110 b = L 110 b := by
      rw [hL]
      simp [lm_up, sb]
    rw [l1]
    exact hc
end MBIND
