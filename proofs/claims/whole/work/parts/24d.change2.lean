section CHANGE2
variable {kd pl : Nat → Nat} {nt c p : Nat} {z : Zt} {ky bi : Nat → Int64} {mn : Nat → Nat} {l : Nat → Rr} {cs n m : Nat} {A : Nat → Bool} {w : Nat → Ty}
theorem ch_ne (hx : TXX kd pl nt z) {k : Nat} (hk : k < z 30 0) (k7 : z 0 k ≠ 7) : (z 1 k < z 30 0 → z 1 k ≠ k) ∧ (z 2 k < z 30 0 → z 2 k ≠ k) ∧ (z 3 k < z 30 0 → z 3 k ≠ k) := by
  obtain ⟨h1, -, -⟩ := hx.2.1 k (Nat.zero_le _) hk k7
  have ne : ∀ e, e < z 30 0 → z 5 e = k → e ≠ k := fun e he h5 q => by
    have n80 : z 30 0 ≤ 80 := by have := hx.1.1.1.2.1; have := hx.1.1.2; omega
    rcases hx.1.2.1.2.1 e he with x | x
    · omega
    · have := x.2.2.2
      rw [h5, q] at this
      omega
  exact ⟨fun h => ne _ h ((h1 _ (Nat.zero_le _) h).mpr (Or.inl rfl)), fun h => ne _ h ((h1 _ (Nat.zero_le _) h).mpr (Or.inr (Or.inl rfl))), fun h => ne _ h ((h1 _ (Nat.zero_le _) h).mpr (Or.inr (Or.inr rfl)))⟩
/-- the change of a text, but for wraps -/
theorem eK (hx : TXX kd pl nt z) (hsq : SQ l c (RUL z)) (ht : tok (tz z mn l c)) (hc : CHG z cs n m) (h4 : cs ≤ 4) (hA : cs = 4 → ∀ k, k < z 30 0 → (A k = true ↔ (n < k ∧ k ≤ z 12 n))) : ECS z mn l c cs n m w ↔ ∀ r, r < c → ¬ goneM A cs (l r).2.1 (l r).2.2.1 → rr4 (mrow (sg (z 30 0) (z 30 2) 8 0) (hz z mn cs n m (l r))) w := by
  have hT := hx.1
  have n80 : z 30 0 ≤ 80 := ht.1
  obtain ⟨c7, hn, c0, c1, c2, c3, c4⟩ := hc
  have un : ∀ r, r < c → ¬ aff z cs n (l r) → (rr4 (mrow (sg (z 30 0) (z 30 2) 8 0) (hz z mn cs n m (l r))) w ↔ rr4 (cF z mn (l r)) w) := fun r hr h => by
    rw [hz_un h]
    exact ((cF_row hT ht hr).1 w).symm
  have ng : ∀ x : Rr, aff z cs n x → ¬ goneM A cs x.2.1 x.2.2.1 := fun x h g => by
    have e4 := g.1
    have e1 : x.2.2.1 = n := by have := h.2; omega
    have := (hA e4 n hn).mp (by rw [← e1]; exact g.2.2)
    omega
  have ad : (∀ q, q ∈ edA z cs n m → rr4 q w) ↔ ∀ r, r < c → aff z cs n (l r) → rr4 (mrow (sg (z 30 0) (z 30 2) 8 0) (hz z mn cs n m (l r))) w := by
    rcases (show cs = 0 ∨ cs = 1 ∨ cs = 2 ∨ cs = 3 ∨ cs = 4 by omega) with rfl | rfl | rfl | rfl | rfl
    · exact ad0 hT hsq n80 hn (c0 rfl).1
    · exact ad1 hT hsq n80 hn (c1 rfl)
    · have k3 := (c2 rfl).1
      have i1 : z 1 n < z 30 0 := by
        obtain ⟨q1, -⟩ := hT.2.1.2.2.1 n (Nat.zero_le _) hn
        rw [if_pos (by omega)] at q1
        exact q1.2
      exact ad2 hT hsq n80 hn k3 (c2 rfl).2 ((ch_ne hx hn (by omega)).1 i1)
    · exact ad3 hT hsq n80 hn (c3 rfl)
    · exact ad4 hT hsq n80 hn (c4 rfl)
  have o1 : ∀ x : Rr, RUL z x → (x.2.1 = 1 ∧ owr x = 1000) ∨ (x.2.1 ≠ 1 ∧ owr x = x.2.2.1 ∧ x.2.2.1 < z 30 0) := fun x hx' => by
    unfold owr
    rcases (RUL_t hT hx').1 with y | y
    · exact Or.inl ⟨y.1, if_pos y.1⟩
    · exact Or.inr ⟨y.1, if_neg y.1, y.2.1⟩
  have i12 : cs = 4 → z 12 n < z 30 0 := fun e4 => by
    have k3 := c4 e4
    have := (hT.2.1.2.2.1 n (Nat.zero_le _) hn).2.2.2 k3
    exact (hT.2.1.2.2.2.2.1 n hn k3 this).1
  have i1 : cs = 2 → z 1 n < z 30 0 := fun e2 => by
    obtain ⟨q1, -⟩ := hT.2.1.2.2.1 n (Nat.zero_le _) hn
    have := (c2 e2).1
    rw [if_pos (by omega)] at q1
    exact q1.2
  have eg : ∀ x, RUL z x → ¬ aff z cs n x → ¬ goneM A cs x.2.1 x.2.2.1 → edG z mn cs n x = cF z mn x := fun x hx' na ng => by
    have oc := o1 x hx'
    have na' : x.2.1 = 1 ∨ (x.2.2.1 ≠ n ∧ ¬ (cs = 2 ∧ x.2.2.1 = z 1 n)) := by
      apply Classical.byContradiction
      intro q
      refine na ⟨fun y => q (Or.inl y), ?_⟩
      by_cases y : x.2.2.1 = n
      · exact Or.inl y
      · by_cases y2 : cs = 2 ∧ x.2.2.1 = z 1 n
        · exact Or.inr y2
        · exact absurd (Or.inr ⟨y, y2⟩) q
    unfold edG
    by_cases e2 : cs = 2
    · have i1 := i1 e2
      rw [if_pos e2]
      unfold gS
      rw [if_neg (by omega), if_neg (by omega)]
    · rw [if_neg e2]
      by_cases e4 : cs = 4
      · have i12 := i12 e4
        rw [if_pos e4]
        unfold gS
        refine if_neg (fun q => ?_)
        rcases oc with y | y
        · omega
        · refine ng ⟨e4, y.1, (hA e4 _ y.2.2).mpr ?_⟩
          omega
      · rw [if_neg e4, if_pos (by omega)]
        unfold gS
        rw [if_neg (by omega)]
  have eg0 : ∀ x, RUL z x → (aff z cs n x ∨ goneM A cs x.2.1 x.2.2.1) → (edG z mn cs n x).1 = 0 := fun x hx' h => by
    have oc := o1 x hx'
    unfold edG
    by_cases e2 : cs = 2
    · have i1 := i1 e2
      rw [if_pos e2]
      have h : aff z cs n x := by
        rcases h with h | h
        · exact h
        · exact absurd h.1 (by omega)
      have h1 := h.1
      have h2 := h.2
      unfold gS
      by_cases q : z 1 n ≤ owr x ∧ owr x ≤ z 1 n
      · rw [if_pos q]
      · rw [if_neg q, if_pos (by omega)]
    · rw [if_neg e2]
      by_cases e4 : cs = 4
      · rw [if_pos e4]
        unfold gS
        rw [if_pos]
        have i12 := i12 e4
        have k12 := (hT.2.1.2.2.2.2.1 n hn (c4 e4) (by omega)).2
        rcases h with h | h
        · have h1 := h.1
          have h2 := h.2
          omega
        · have h1 := h.2.1
          have h2 := (hA e4 x.2.2.1 (by omega)).mp h.2.2
          omega
      · rw [if_neg e4, if_pos (by omega)]
        have h : aff z cs n x := by
          rcases h with h | h
          · exact h
          · exact absurd h.1 e4
        have h1 := h.1
        have h2 := h.2
        unfold gS
        rw [if_pos (by omega)]
  have RU : ∀ r, r < c → RUL z (l r) := fun r hr => (hsq.2 (l r)).mpr ⟨r, hr, rfl⟩
  constructor
  · rintro ⟨h1, h2⟩ r hr hg
    by_cases a : aff z cs n (l r)
    · exact ad.mp h2 r hr a
    · refine (un r hr a).mpr ?_
      have := h1 r hr
      rw [eg (l r) (RU r hr) a hg] at this
      exact this (cF_row hT ht hr).2.2
  · intro h
    refine ⟨fun i hi h1 => ?_, ad.mpr (fun r hr a => h r hr (ng (l r) a))⟩
    by_cases a : aff z cs n (l i) ∨ goneM A cs (l i).2.1 (l i).2.2.1
    · rw [eg0 (l i) (RU i hi) a] at h1
      omega
    · have a1 : ¬ aff z cs n (l i) := fun x => a (Or.inl x)
      have a2 : ¬ goneM A cs (l i).2.1 (l i).2.2.1 := fun x => a (Or.inr x)
      rw [eg (l i) (RU i hi) a1 a2]
      exact (un i hi a1).mp (h i hi a2)
theorem CHG_ok (hT : TX kd pl nt z) (ht : tok (tz z mn l c)) (hc : CHG z cs n m) : chok (tz z mn l c) cs n m := by
  have n80 : z 30 0 ≤ 80 := ht.1
  obtain ⟨c7, hn, c0, c1, c2, c3, c4⟩ := hc
  exact ⟨by omega, fun q => (c0 q).2, fun q => ⟨hn, (c2 q).1, (c2 q).2⟩, fun q => ⟨hn, c4 q⟩, fun _ => hn⟩
/-- a change that is no wrap -/
theorem eqC4 (hx : TXX kd pl nt z) (hsq : SQ l c (RUL z)) (ht : tok (tz z mn l c)) (hc : CHG z cs n m) (h4 : cs ≤ 4) (hA : cs = 4 → ∀ k, k < z 30 0 → (A k = true ↔ (n < k ∧ k ≤ z 12 n))) : eqv (z 30 0) (z 30 2) (sg (z 30 0) (z 30 2) cs n) (tu (z 30 0) (z 30 2) n) (ECS z mn l c cs n m) (mMS (tz z mn l c) A cs n m (fun _ => nI 1)) := by
  have n80 : z 30 0 ≤ 80 := ht.1
  have hk := CHG_ok hx.1 ht hc
  have vr : ∀ j, vrow cs n j = (1, 80 + j, j, 0) := fun j => by unfold vrow; rw [if_neg (by omega)]
  rw [sg_le4 h4]
  refine ⟨fun w hw => ⟨fun j hj => ?_, fun r hr h1 h2 => ?_⟩, fun w hw => ?_⟩
  · replace hj : j < z 30 0 := hj
    rw [vr j]
    show w (sg (z 30 0) (z 30 2) 8 0 (80 + j)) = w (sg (z 30 0) (z 30 2) 8 0 j)
    rw [sg8_1 (by omega), sg8_0 (by omega)]
  · exact (row_map (cs' := 8) (cn' := 0) ht hk hr).mp ((eK hx hsq ht hc h4 hA).mp hw r hr h2)
  · have ag := vrow_tu (N := z 30 0) (B := z 30 2) (cs := cs) (cn := n) (w := w) n80 (fun h => absurd h (by omega)) hw.1
    rw [sg_le4 h4] at ag
    refine ⟨(eK hx hsq ht hc h4 hA).mpr (fun r hr hg => ?_), ag⟩
    have q : rr4 (rowT (tz z mn l c) cs n m r) w := hw.2 r hr (by show nI 1 ≠ 0; decide) hg
    exact (row_map (cs' := 8) (cn' := 0) ht hk hr).mpr ((rr4_agr (row_v ht hk hr) ag).mpr q)
end CHANGE2
