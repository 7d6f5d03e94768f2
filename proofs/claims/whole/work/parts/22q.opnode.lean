section OPNODE
variable {e p : Nat} {S : lm_S} {I : lm_I} {L : lm_L} {R : lm_R} {a b : Int32} {K P : Nat → Nat}
/-- one call on both, as the law asks it -/
theorem op_node (hS : lp_shape S) (hR : lp_refs R) (hp : p = 2 ∨ p = 36) (hc : R 0 2 = .ref p) {N : Nat} (hN : N ≤ 80) (N1 : 1 ≤ N) (h48 : I 96 48 = nI 1) (h49 : I 96 49 = nI N) (h12 : I (p + 7) 12 = nI N) (hr : ∀ k, k < N → I (p + 8) k = nI (K k) ∧ I (p + 9) k = nI (P k) ∧ K k ≤ 13) (hr2 : ∀ k, k < N → I 125 k = nI (K k) ∧ I 126 k = nI (P k) ∧ K k ≤ 13) (hm : ∀ k, k < N → K k = 0 → I (p + 15) k = I 131 k) {Inv : lm_M → Prop} (hI : Inv (S, I, L, R)) : lc (e + 3) 127 [.ref 0, .int a, .int b] (S, I, L, R) (fun v M1 => ∃ r : Int32, v = some (.int r) ∧ (M1.1.2.2 96).1 = 10 ∧ lc (e + 3) 202 [.ref 96, .int a, .int b] M1 (fun v2 M2 => v2 = some (.int r) ∧ Inv M2)) := by
  have sh : (S.2.2 96).1 = 10 := by rw [sh_96 hS]
  have inj : ∀ k j, k < 100 → j < 100 → nI k = nI j → k = j := fun k j hk hj q => by
    have x := nI_ti (k := k) (by omega)
    have y := nI_ti (k := j) (by omega)
    rw [q, y] at x
    omega
  have ij : ∀ k j, k < N → j < N → a = nI k → a = nI j → k = j := fun k j hk hj x y => inj k j (by omega) (by omega) (x.symm.trans y)
  have ib : ∀ k j, k < 3 → j < 3 → k ≠ j → b = nI k → b = nI j → False := fun k j hk hj n x y => n (inj k j (by omega) (by omega) (x.symm.trans y))
  refine c_127 hS hR hp hc hN h12 hr (fun q => ⟨_, rfl, sh, ?_⟩) (fun k k1 k2 kb => ⟨_, rfl, sh, ?_⟩) (fun k k1 k2 kb => ⟨_, rfl, sh, ?_⟩) (fun k k1 k2 kb => ⟨_, rfl, sh, ?_⟩)
  · have no : ∀ k j, k < N → a = nI k → j < 3 → b = nI j → False := fun k j x1 x2 x3 x4 => by
      rcases q with q | q
      · exact q k x1 x2
      · exact q j x3 x4
    exact k_202 hS hR hN N1 h48 h49 hr2 (fun _ => ⟨rfl, hI⟩) (fun j j1 j2 jb => (no j 0 j1 j2 (by decide) jb).elim) (fun j j1 j2 jb => (no j 1 j1 j2 (by decide) jb).elim) (fun j j1 j2 jb => (no j 2 j1 j2 (by decide) jb).elim)
  · refine k_202 hS hR hN N1 h48 h49 hr2 (fun q => ?_) (fun j j1 j2 jb => ?_) (fun j j1 j2 jb => (ib 0 1 (by decide) (by decide) (by decide) kb jb).elim) (fun j j1 j2 jb => (ib 0 2 (by decide) (by decide) (by decide) kb jb).elim)
    · rcases q with q | q
      · exact (q k k1 k2).elim
      · exact (q 0 (by decide) kb).elim
    · rw [ij k j k1 j1 k2 j2]; exact ⟨rfl, hI⟩
  · refine k_202 hS hR hN N1 h48 h49 hr2 (fun q => ?_) (fun j j1 j2 jb => (ib 1 0 (by decide) (by decide) (by decide) kb jb).elim) (fun j j1 j2 jb => ?_) (fun j j1 j2 jb => (ib 1 2 (by decide) (by decide) (by decide) kb jb).elim)
    · rcases q with q | q
      · exact (q k k1 k2).elim
      · exact (q 1 (by decide) kb).elim
    · rw [ij k j k1 j1 k2 j2]; exact ⟨rfl, hI⟩
  · refine k_202 hS hR hN N1 h48 h49 hr2 (fun q => ?_) (fun j j1 j2 jb => (ib 2 0 (by decide) (by decide) (by decide) kb jb).elim) (fun j j1 j2 jb => (ib 2 1 (by decide) (by decide) (by decide) kb jb).elim) (fun j j1 j2 jb => ?_)
    · rcases q with q | q
      · exact (q k k1 k2).elim
      · exact (q 2 (by decide) kb).elim
    · have e1 := ij k j k1 j1 k2 j2
      subst e1
      refine ⟨?_, hI⟩
      by_cases s : K k = 0
      · rw [if_pos s, if_pos s, hm k k1 s]
      · rw [if_neg s, if_neg s]
end OPNODE
