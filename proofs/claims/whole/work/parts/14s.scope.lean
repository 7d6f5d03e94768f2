section MBIND
variable {tp : Nat → Nat} {n nt e e1 k M d oc cb B op v r r2 s p : Nat} {sv nv : Int32} {S : lm_S} {I I' I1 I2 I3 : lm_I} {L L' L1 L2 L3 : lm_L} {R : lm_R} {Q K : Option Value → lm_M → Prop} {z z0 z1 z2 : Zt} {rec : Nat → Nat → Zt → Rs}
/-- the scope is set to the newest binder -/
theorem mST_sc {z' : Zt} (g : mST tp n I L d z) (h22 : z 22 v = 2) (hv : v < 900) (h97 : I' 97 = I 97) (hb : ∀ o b, 110 ≤ o → o ≤ 114 → b < z 30 2 → I' o b = I o b) (hk : ∀ k, (k = 1 ∨ (4 ≤ k ∧ k ≤ 7) ∨ k = 9 ∨ k = 21 ∨ k = 27 ∨ k = 28 ∨ k = 46) → I' 96 k = I 96 k) (h38 : I' 96 38 = nI e) (h31 : I' 96 31 = nI (e + 1)) (h41 : I' 96 41 = nI v) (h8 : L' 96 8 = L 96 8) (hl : ∀ b, b < z 30 2 → L' 110 b = L 110 b) (h30 : ∀ k, 1 ≤ k → k ≤ 5 → z' 30 k = z 30 k) (h306 : z' 30 6 = 11 + v) (hc : ∀ c b, 20 ≤ c → c ≤ 23 → z' c b = z c b) : mST tp n I' L' e z' := by
  have es : ∀ s, sM z' s = sM z s := fun s => sM_eq (fun _ _ => hc 22 _ (by decide) (by decide))
  have e6 : sM z (11 + v) = nI v := by
    unfold sM
    rw [if_pos ⟨by omega, by omega, by rw [Nat.add_sub_cancel_left]; exact h22⟩, Nat.add_sub_cancel_left]
  obtain ⟨⟨⟨a1, a2, a3⟩, a4, a5, a6, a7, a8⟩, ⟨b1, b2, b3, b4, b5, b6, b7, b8⟩, c1⟩ := g
  unfold mST
  rw [h30 4 (by decide) (by decide), h30 3 (by decide) (by decide), h30 2 (by decide) (by decide), h30 5 (by decide) (by decide), h30 1 (by decide) (by decide), h306, es, e6]
  refine ⟨⟨⟨a1, by rw [hk 1 (by omega)]; exact a2, by rw [h97]; exact a3⟩, by rw [hk 6 (by omega)]; exact a4, by rw [hk 5 (by omega)]; exact a5, by rw [hk 7 (by omega)]; exact a6, by rw [h8]; exact a7, by rw [hk 4 (by omega)]; exact a8⟩, ⟨by rw [hk 9 (by omega)]; exact b1, by rw [hk 21 (by omega)]; exact b2, by rw [hk 27 (by omega)]; exact b3, by rw [hk 28 (by omega)]; exact b4, by rw [hk 46 (by omega)]; exact b5, h38, h31, h41⟩, fun b q => ?_⟩
  rw [hc 20 b (by decide) (by decide), hc 22 b (by decide) (by decide), hc 23 b (by decide) (by decide), hc 21 b (by decide) (by decide), es, hl b q, hb 111 b (by decide) (by decide) q, hb 112 b (by decide) (by decide) q, hb 113 b (by decide) (by decide) q, hb 114 b (by decide) (by decide) q]
  exact c1 b q
end MBIND
