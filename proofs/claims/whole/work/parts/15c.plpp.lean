section PLPP
variable {kd pl : Nat → Nat} {nt : Nat}
theorem wfp_zbn2 (ht : tko kd pl nt) {z : Zt} (hw : WFp nt z) (hk : kd (z 30 4) = 0) (h5 : z 30 5 < 16) : WFp nt (zbn z 1) := by
  obtain ⟨⟨v1, v2, v3, v4⟩, v5, v6⟩ := hw
  obtain ⟨q2, q5, q6, q4⟩ := zbn_30 (z := z) (s := 1)
  obtain ⟨-, -, q22, -⟩ := zbn_b (z := z) (s := 1)
  have q0 : zbn z 1 30 0 = z 30 0 := zbn_o (by omega)
  have q1 : zbn z 1 30 1 = z 30 1 := zbn_o (by omega)
  have q3 : zbn z 1 30 3 = z 30 3 := zbn_o (by omega)
  have := tk_lt ht v1 (by omega)
  refine ⟨⟨by omega, by omega, by omega, by omega, by omega, by omega⟩, by omega, Or.inr ⟨by omega, by omega, ?_⟩⟩
  rw [q6, Nat.add_sub_cancel_left]
  exact q22
/-- what the names behind a declaration's name leave -/
def LPP (kd : Nat → Nat) (nt : Nat) (z z1 : Zt) : Prop := WFp nt z1 ∧ (z1 30 0 = z 30 0 ∧ z1 30 1 = z 30 1 ∧ z 30 2 ≤ z1 30 2 ∧ z1 30 3 = z 30 3 ∧ z1 30 4 + z 30 2 = z 30 4 + z1 30 2 ∧ z1 30 5 + z 30 2 = z 30 5 + z1 30 2 ∧ z1 30 6 = (if z1 30 2 = z 30 2 then z 30 6 else 10 + z1 30 2)) ∧ (∀ c m, c < 20 ∨ 31 ≤ c → z1 c m = z c m) ∧ (∀ c b, 20 ≤ c → c ≤ 23 → b < z 30 2 → z1 c b = z c b) ∧ (∀ b, z 30 2 ≤ b → b < z1 30 2 → z1 20 b + z 30 2 = z 30 4 + b ∧ kd (z1 20 b) = 0 ∧ z1 21 b = (if b = z 30 2 then z 30 6 else 10 + b) ∧ z1 22 b = 1 ∧ z1 23 b = z 30 1 - 1)
theorem P_lpP (ht : tko kd pl nt) : ∀ (m : Nat) (z z1 : Zt) (r : Nat), WFp nt z → lpP kd pl m z = .inr (r, z1) → LPP kd nt z z1 ∧ kd (z1 30 4) ≠ 0 := by
  intro m
  induction m with
  | zero => intro z z1 r hw h; cases h
  | succ m ih =>
    intro z z1 r hw h
    unfold lpP at h
    by_cases n0 : kd (z 30 4) = 0
    · rw [if_neg (fun q => q n0)] at h
      by_cases c16 : 16 ≤ z 30 5
      · rw [if_pos c16] at h; cases h
      · rw [if_neg c16] at h
        obtain ⟨⟨a1, ⟨a2, a3, a4, a5, a6, a7, a8⟩, a9, a10, a11⟩, a12⟩ := ih _ _ _ (wfp_zbn2 ht hw n0 (by omega)) h
        obtain ⟨q2, q5, q6, q4⟩ := zbn_30 (z := z) (s := 1)
        obtain ⟨q20, q21, q22, q23⟩ := zbn_b (z := z) (s := 1)
        have q0 : zbn z 1 30 0 = z 30 0 := zbn_o (by omega)
        have q1 : zbn z 1 30 1 = z 30 1 := zbn_o (by omega)
        have q3 : zbn z 1 30 3 = z 30 3 := zbn_o (by omega)
        rw [q2] at a4 a6 a7 a8 a10 a11
        rw [q4] at a6 a11
        rw [q5] at a7
        rw [q6] at a8 a11
        rw [q1] at a3 a11
        rw [q0] at a2
        rw [q3] at a5
        refine ⟨⟨a1, ⟨a2, a3, by omega, a5, by omega, by omega, ?_⟩, fun c x hc => ?_, fun c b h1 h2 h3 => ?_, fun b h1 h2 => ?_⟩, a12⟩
        · rw [if_neg (by omega), a8]
          split <;> omega
        · rw [a9 c x hc, zbn_o (by omega)]
        · rw [a10 c b h1 h2 (by omega), zbn_o (by omega)]
        · by_cases sb : b = z 30 2
          · subst sb
            rw [if_pos rfl, a10 20 _ (by decide) (by decide) (by omega), a10 21 _ (by decide) (by decide) (by omega), a10 22 _ (by decide) (by decide) (by omega), a10 23 _ (by decide) (by decide) (by omega), q20, q21, q22, q23]
            exact ⟨rfl, n0, rfl, rfl, rfl⟩
          · obtain ⟨b1, b2, b3, b4, b5⟩ := a11 b (by omega) h2
            rw [if_neg sb]
            refine ⟨by omega, b2, ?_, b4, b5⟩
            rw [b3]
            split <;> omega
    · rw [if_pos n0] at h
      cases h
      exact ⟨⟨hw, ⟨rfl, rfl, Nat.le_refl _, rfl, rfl, rfl, (if_pos rfl).symm⟩, fun _ _ _ => rfl, fun _ _ _ _ _ => rfl, fun b h1 h2 => by omega⟩, n0⟩
theorem wfp_zd (ht : tko kd pl nt) {z : Zt} (hw : WFd nt z) (hk : kd (z 30 4) = 0) (h6 : z 30 1 < 6) : WFp nt (zd z) := by
  obtain ⟨v1, v2, v3, v4⟩ := hw
  obtain ⟨⟨q1, q2, q4, q6⟩, -⟩ := zd_f (z := z)
  have q0 : zd z 30 0 = z 30 0 := zd_o (by omega) (by omega) (by omega) (by omega)
  have q3 : zd z 30 3 = z 30 3 := zd_o (by omega) (by omega) (by omega) (by omega)
  have q5 : zd z 30 5 = z 30 5 := zd_o (by omega) (by omega) (by omega) (by omega)
  have := tk_lt ht v1 (by omega)
  exact ⟨⟨by omega, by omega, by omega, by omega, by omega, by omega⟩, by omega, Or.inl q6⟩
end PLPP
