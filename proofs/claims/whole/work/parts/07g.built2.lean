section SOLVER
variable {e n u c0 : Nat} {S : lm_S} {I : lm_I} {L : lm_L} {R : lm_R} {Q : Option Value → lm_M → Prop} {P So Le Ri dp : Nat → Nat}
/-- the three constants' cells -/
def cst (n : Nat) (P So Le Ri : Nat → Nat) (c0 : Nat) : Prop := c0 + 3 < n ∧ ∀ val a, Sol n P So Le Ri val → val (c0 + 1) = con 1 a a ∧ val (c0 + 2) = con 2 a a ∧ val (c0 + 3) = con 3 a a
/-- the right side is made: what the caller may count on -/
def mk (S : lm_S) (I : lm_I) (L : lm_L) (R : lm_R) (Q : Option Value → lm_M → Prop) (n : Nat) (P So Le Ri : Nat → Nat) (u m : Nat) (T : (Nat → Ty) → Ty → Prop) : Prop :=
  ∀ (I' : lm_I) (n' : Nat) (P' So' Le' Ri' dp' : Nat → Nat) (q : Nat), svf I' n' P' So' Le' Ri' dp' u → frS I I' → n' ≤ n + m → rhsOK n n' P So Le Ri P' So' Le' Ri' q T → Q (some (.int (nI q))) (S, I', L, R)
theorem b_list (g0 : svf I n P So Le Ri dp u) {I1 I2 : lm_I} {x y z : Nat} (g1 : svf I1 (n + 1) (ext P n n) (ext So n 0) (ext Le n x) (ext Ri n y) (ext dp n 0) u) (g2 : svf I2 (n + 2) (ext (ext P n n) (n + 1) (n + 1)) (ext (ext So n 0) (n + 1) 4) (ext (ext Le n x) (n + 1) n) (ext (ext Ri n y) (n + 1) z) (ext (ext dp n 0) (n + 1) 0) u) {r : Nat} (hr : r < n + 2) (k : Nat) (X : (Nat → Ty) → Ty → Ty)
    (hX : ∀ val, Sol (n + 1) (ext P n n) (ext So n 0) (ext Le n x) (ext Ri n y) val → ∀ val2, (∀ j, j < n + 1 → val2 j = val j) → val2 (n + 1) = con 4 (val n) (val n) → Sol (n + 2) (ext (ext P n n) (n + 1) (n + 1)) (ext (ext So n 0) (n + 1) 4) (ext (ext Le n x) (n + 1) n) (ext (ext Ri n y) (n + 1) z) val2 → val2 r = X val (val n)) (hXb : ∀ val a b, Sol n P So Le Ri val → bt k a b = con 6 (con 4 a a) (X val a)) (hXc : ∀ val val' a, (∀ j, j < n → val' j = val j) → X val' a = X val a) :
    rhsOK n (n + 3) P So Le Ri (ext (ext (ext P n n) (n + 1) (n + 1)) (n + 2) (n + 2)) (ext (ext (ext So n 0) (n + 1) 4) (n + 2) 6) (ext (ext (ext Le n x) (n + 1) n) (n + 2) (n + 1)) (ext (ext (ext Ri n y) (n + 1) z) (n + 2) r) (n + 2) (fun _ τ => ∃ a b, τ = bt k a b) := by
  have r1 := rhs_0 g0 (a := x) (b := y)
  have r2 := rhs_1 g1 (s := 4) (a := n) (b := z) (by decide) (by omega) (by omega)
  have r3 := rhs_1 g2 (s := 6) (a := n + 1) (b := r) (by decide) (by omega) (by omega)
  have r23 := rhs_more (T := fun val τ => τ = con 6 (con 4 (val n) (val n)) (X val (val n))) r2 r3 (fun val τ hs ht => by
      have h1 := r2.2.2.1 val hs
      have h2 : val (n + 1) = con 4 (val n) (val n) := h1.2
      rw [ht, h2, hX val h1.1 val (fun _ _ => rfl) h2 hs]) (fun val τ hs ht => ⟨con 4 (val n) (val n), rfl, fun val1 v1 s1 e1 => by
      rw [ht, e1, hX val hs val1 v1 e1 s1]⟩) (fun val val' τ hv ht => by
      rw [ht, hv n (by omega), hXc val val' _ (fun j hj => hv j (by omega))])
  refine rhs_more r1 r23 (fun val τ hs ht => ⟨val n, val n, ?_⟩) (fun val τ hs ht => ?_) (fun _ _ _ _ h => h)
  · rw [ht, hXb val (val n) (val n) (r1.2.2.1 val hs).1]
  · obtain ⟨a, b, ht⟩ := ht
    refine ⟨a, trivial, fun val1 v1 s1 e1 => ?_⟩
    show τ = con 6 (con 4 (val1 n) (val1 n)) (X val1 (val1 n))
    rw [ht, e1, hXb val a b hs, hXc val val1 a v1]
end SOLVER
