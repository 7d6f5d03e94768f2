/-! ===== the reference's parser: what a part leaves behind ===== -/
/-- the head of the loop behind a part of level c with root r -/
def mX (tp : Nat → Nat) (n c d oc : Nat) (I : lm_I) (L : lm_L) (z0 : Zt) (r : Nat) (z : Zt) : Prop := mST tp n I L d z ∧ (I 96 39 = nI (z 6 r) ∧ I 96 40 = -9 ∧ I 96 43 = nI oc ∧ ∃ w, w ≤ 1 ∧ I 96 47 = nI w ∧ (1 ≤ c → w = 0)) ∧ SGm (xp tp n) (xy tp n) I L z (z0 30 0) (z 30 0) r (-9) ∧ (bga (xk tp n (z 30 4)) = false ∧ (lvo (xk tp n (z 30 4)) < c ∨ lvo (xk tp n (z 30 4)) = 0))
def mF (S : lm_S) (R : lm_R) (Q : Option Value → lm_M → Prop) (I : lm_I) (L : lm_L) (t : Nat) : Prop := ∀ I' L', I' 96 6 = nI t → frD I I' L L' → Q (some (.int (nI 0))) (S, I', L', R)
def mQ (tp : Nat → Nat) (n e : Nat) (S : lm_S) (R : lm_R) (Q : Option Value → lm_M → Prop) (c d oc : Nat) (z : Zt) (I : lm_I) (L : lm_L) (x : Rs) : Prop := match x with
  | .inl t => mF S R Q I L t
  | .inr q => if c ≤ 2 ∧ lvo (xk tp n (q.2 30 4)) = 2 then mF S R Q I L (xp tp n (q.2 30 4)) else ∀ I' L', mX tp n c d oc I' L' z q.1 q.2 → frP (z 30 3) (z 30 2) (d + 1) oc I I' L L' → hdQ e S R Q I' L'
/-- the head of the loop before a part -/
def mE (tp : Nat → Nat) (n d base oc lt : Nat) (I : lm_I) (L : lm_L) (z : Zt) : Prop := mST tp n I L d z ∧ (I 96 39 = -9 ∧ I 96 40 = -9 ∧ I 96 43 = nI oc ∧ I 121 d = nI base) ∧ (base ≤ oc ∧ oc ≤ z 30 3 ∧ tpO I base oc lt (z 30 3)) ∧ ∃ s, s ≤ 1 ∧ I 96 42 = nI s ∧ (s = 0 ∨ (xk tp n (z 30 4) ≠ 4 ∧ xk tp n (z 30 4) ≠ 5))
section MASM
variable {tp : Nat → Nat} {n nt e k M d op oc base lt cv B l cR w r o a : Nat} {sv : Int32} {S : lm_S} {I I' I1 I2 I3 : lm_I} {L L' L1 L2 L3 : lm_L} {R : lm_R} {Q : Option Value → lm_M → Prop} {z z' zL zA zR : Zt}
theorem mF.fr (h : mF S R Q I L M) (f : frD I I1 L L1) : mF S R Q I1 L1 M := fun I' L' a b => h I' L' a (f.tr b)
theorem frP_rd (h1 : M ≤ o) (h2 : M ≤ w) (h3 : M ≤ cv) : frP M B op oc I (rdM I o w cv a) L L := by
  obtain ⟨f1, f2, f3, f4, f5, f6, f7⟩ := rdM_f (I := I) (o := o) (w := w) (cv := cv) (oc := a)
  exact ⟨⟨fun o p q => f1 o p (by omega) (by omega) (by omega), fun k q => f2 k (by omega) (by omega), fun _ _ _ _ => rfl, fun _ _ => rfl⟩, ⟨f1 115 (by decide) (by decide) (by decide) (by decide), f1 116 (by decide) (by decide) (by decide) (by decide), f2 28 (by decide) (by decide)⟩, ⟨fun o m p q w => by
      by_cases s1 : o = 102
      · subst s1; exact (f4 m (by omega)).1
      · by_cases s2 : o = 103
        · subst s2; exact (f4 m (by omega)).2
        · by_cases s3 : o = 105
          · subst s3; exact f6 m (by omega) (by omega)
          · rw [f1 o (by omega) s1 s2 s3], fun o m p q w => by rw [f1 o (by omega) (by omega) (by omega) (by omega)], fun o m p q w => by rw [f1 o (by omega) (by omega) (by omega) (by omega)], fun o m p q w => by rw [f1 o (by omega) (by omega) (by omega) (by omega)]⟩, fun _ _ => rfl, fun _ _ => rfl⟩
theorem mST_rd (g : mST tp n I L d z) : mST tp n (rdM I o w cv a) L d z := by
  obtain ⟨f1, f2, -⟩ := rdM_f (I := I) (o := o) (w := w) (cv := cv) (oc := a)
  exact mST_mv g (f1 97 (by decide) (by decide) (by decide) (by decide)) (fun o m p q _ => by rw [f1 o (by omega) (by omega) (by omega) (by omega)]) (fun k q => f2 k (by omega) (by omega)) (by rw [f2 38 (by decide) (by decide)]; exact g.2.1.2.2.2.2.2.1) (by rw [f2 31 (by decide) (by decide)]; exact g.2.1.2.2.2.2.2.2.1) rfl (fun _ _ => rfl)
theorem tpO_fr (h : tpO I base oc lt M) (f : frP M B op oc I I' L L') (hM : M ≤ M) {M2 : Nat} (h2 : M ≤ M2) : tpO I' base oc lt M2 := by
  rcases h with h | ⟨h1, o, k, h3, h4, h5, h6⟩
  · exact Or.inl h
  · exact Or.inr ⟨h1, o, k, by rw [f.2.2.1.2.2.2 123 _ (by decide) (by decide) (by omega)]; exact h3, by omega, by rw [f.2.2.1.1 99 _ (by decide) (by decide) h4]; exact h5, h6⟩
/-- a node between two parts, in the draft -/
theorem masm_bin (ht : tko (xk tp n) (xp tp n) nt) (hw : WFz nt d z) (hL : PSI (xk tp n) (xp tp n) nt z l d w zL)
    (hk : (zA = zk (xp tp n) zL k d ∧ k = 3) ∨ (zA = adv (zk (xp tp n) zL k d) ∧ 8 ≤ k ∧ k ≤ 13))
    (hR : PSI (xk tp n) (xp tp n) nt zA cR d r zR) {av1 av2 : Int32} (sL : SGm (xp tp n) (xy tp n) I1 L1 zL (z 30 0) (zL 30 0) w av1) (sR : SGm (xp tp n) (xy tp n) I2 L2 zR (zA 30 0) (zR 30 0) r av2)
    (hI1 : ∀ o m, 99 ≤ o → o ≤ 109 → m < zL 30 3 → (m ≠ zL 6 w ∨ o ≠ 105) → I3 o m = I1 o m) (hL1 : ∀ m, m < zL 30 3 → L3 101 m = L1 101 m)
    (hI2 : ∀ o m, 99 ≤ o → o ≤ 109 → zL 30 3 < m → (m ≠ zR 6 r ∨ o ≠ 105) → I3 o m = I2 o m) (hL2 : ∀ m, zL 30 3 < m → L3 101 m = L2 101 m)
    (h5 : I3 105 (zL 6 w) = nI (zL 30 3) ∧ I3 105 (zR 6 r) = nI (zL 30 3)) (hm : I3 99 (zL 30 3) = nI k ∧ I3 100 (zL 30 3) = nI (xp tp n (zL 30 4)) ∧ I3 102 (zL 30 3) = nI (zL 6 w) ∧ I3 103 (zL 30 3) = nI (zR 6 r) ∧ I3 104 (zL 30 3) = -9 ∧ I3 105 (zL 30 3) = -9 ∧ I3 106 (zL 30 3) = sM zL (zL 30 6) ∧ I3 107 (zL 30 3) = nI (zL 30 1 - 1) ∧ I3 109 (zL 30 3) = nI 0) (hz : z' = zlk (zlk zR 1 (zL 30 0) w) 2 (zL 30 0) r) : SGm (xp tp n) (xy tp n) I3 L3 z' (z 30 0) (zR 30 0) (zL 30 0) (-9) := by
  have hn0 := hL.1.1.2.1
  have hw1 := hL.2.2.1.1
  have w3 := hL.1.1.2.2.1
  have A : ∀ u v, (u ≠ 30 ∨ v ≠ 4) → zA u v = zk (xp tp n) zL k d u v := fun u v h => by
    rcases hk with ⟨rfl, -⟩ | ⟨rfl, -⟩
    · rfl
    · exact adv_n h
  have A0 : zA 30 0 = zL 30 0 + 1 := by rw [A _ _ (by decide)]; exact zk_0
  have A3 : zA 30 3 = zL 30 3 + 1 := by rw [A _ _ (by decide)]; exact zk_3
  have A2 : zA 30 2 = zL 30 2 := by rw [A _ _ (by decide)]; exact zk_30 (by decide) (by decide)
  have wLA : Wq zL zA := by
    rcases hk with ⟨rfl, -⟩ | ⟨rfl, -⟩
    · exact wq_zk
    · exact wq_adv wq_zk
  have wR := hR.1
  have wLR := wLA.tr wR
  have hr1 := hR.2.2.1.1
  rw [A0] at hr1 sR
  have sgR := hR.2.2.1
  have chR := hR.2.2.2.1
  rw [A0, A3] at sgR
  rw [A0] at chR
  have e2 : ∀ u v, z' u v = if u = 5 ∧ v = r then zL 30 0 else if u = 2 ∧ v = zL 30 0 then r else if u = 5 ∧ v = w then zL 30 0 else if u = 1 ∧ v = zL 30 0 then w else zR u v := fun _ _ => by rw [hz]; rfl
  have rtL : RT zL z' (z 30 0) (zL 30 0) w := fun c n c1 h1 h2 h3 => by
    rw [e2, if_neg (by omega), if_neg (by omega), if_neg (by omega), if_neg (by omega)]
    exact wLR.2.1 c n c1 h2
  have rtR : RT zR z' (zL 30 0 + 1) (zR 30 0) r := fun c n c1 h1 h2 h3 => by
    rw [e2, if_neg (by omega), if_neg (by omega), if_neg (by omega), if_neg (by omega)]
  have em : ∀ c, c ≠ 1 → c ≠ 2 → c ≠ 5 → z' c (zL 30 0) = zR c (zL 30 0) := fun c c1 c2 c3 => by rw [e2, if_neg (by omega), if_neg (by omega), if_neg (by omega), if_neg (by omega)]
  have new : NEW (xp tp n) zL zR k d (zL 30 3) (zL 30 0) := by
    refine NEW_c (NEW_c (NEW_zk (pl := xp tp n) (z := zL) (k := k) (d := d)).1 (z2 := zA) (fun c c1 _ => A c _ (by omega))) (fun c c1 _ => ?_)
    exact wR.2.1 c _ c1 (by omega)
  obtain ⟨⟨n0, n6, n7, n8, n10, n13, n14, n15⟩, n1, n2, n3, n5, n9, n11, n12⟩ := new
  have e22 : ∀ b, z' 22 b = zR 22 b := fun b => by rw [e2, if_neg (by omega), if_neg (by omega), if_neg (by omega), if_neg (by omega)]
  have l22 : ∀ b, b < zL 30 2 → z' 22 b = zL 22 b := fun b h => by
    rw [e22]
    exact wLR.2.2.2.1 22 b (by decide) (by decide) h
  have p5w : z' 5 w = zL 30 0 := by rw [e2, if_neg (by omega), if_neg (by omega), if_pos ⟨rfl, rfl⟩]
  have p5r : z' 5 r = zL 30 0 := by rw [e2, if_pos ⟨rfl, rfl⟩]
  have k0 : z' 0 (zL 30 0) = k := by rw [em 0 (by decide) (by decide) (by decide)]; exact n0
  have k6 : z' 6 (zL 30 0) = zL 30 3 := by rw [em 6 (by decide) (by decide) (by decide)]; exact n6
  have kk : k = 3 ∨ (8 ≤ k ∧ k ≤ 13) := by omega
  have nw := (hL.2.2.1.2.2.1 w hw1.1 hw1.2.1).2.1
  have nr := (sgR.2.2.1 r hr1.1 hr1.2.1).2.1
  have m400 : zR 30 0 ≤ 400 := hR.2.2.1.1.2.2
  have SL : SGm (xp tp n) (xy tp n) I3 L3 z' (z 30 0) (zL 30 0) w (nI (zL 30 3)) := by
    refine SGm_mv sL hL.2.2.1 hL.2.2.2.1 rtL (fun o m h1 h2 h3 h4 h5 => hI1 o m h1 h2 h4 (by omega)) (fun m h1 h2 => hL1 m h2) l22 h5.1 ?_ (fun _ h => ?_)
    · rw [hI1 109 _ (by decide) (by decide) nw.2.1 (Or.inr (by decide)), show z' 13 w = zL 13 w by rw [e2, if_neg (by omega), if_neg (by omega), if_neg (by omega), if_neg (by omega)]; exact wLR.2.1 13 w (by decide) hw1.2.1]
      exact (sL w hw1.1 hw1.2.1).1.2.2.2.2.2.2.2.2
    · rw [p5w, k0] at h; omega
  have SR : SGm (xp tp n) (xy tp n) I3 L3 z' (zL 30 0 + 1) (zR 30 0) r (nI (zL 30 3)) := by
    refine SGm_mv sR sgR chR rtR (fun o m h1 h2 h3 h4 h5 => hI2 o m h1 h2 (by omega) (by omega)) (fun m h1 h2 => hL2 m (by omega)) (fun b _ => e22 b) h5.2 ?_ (fun _ h => ?_)
    · rw [hI2 109 _ (by decide) (by decide) (by omega) (Or.inr (by decide)), show z' 13 r = zR 13 r by rw [e2, if_neg (by omega), if_neg (by omega), if_neg (by omega), if_neg (by omega)]]
      exact (sR r hr1.1 hr1.2.1).1.2.2.2.2.2.2.2.2
    · rw [p5r, k0] at h; omega
  intro x x1 x2
  rcases Nat.lt_trichotomy x (zL 30 0) with s | s | s
  · rw [if_neg (by omega)]
    have := SL x x1 s
    by_cases sw : x = w
    · rw [if_pos sw] at this
      rw [sw] at this ⊢
      rw [p5w, oM_lt (by omega), k6]; exact this
    · rw [if_neg sw] at this; exact this
  · subst s
    rw [if_pos rfl]
    obtain ⟨m1, m2, m3, m4, m5, m6, m7, m8, m9⟩ := hm
    have k1 : z' 1 (zL 30 0) = w := by rw [e2, if_neg (by omega), if_neg (by omega), if_neg (by omega), if_pos ⟨rfl, rfl⟩]
    have k2 : z' 2 (zL 30 0) = r := by rw [e2, if_neg (by omega), if_pos ⟨rfl, rfl⟩]
    have k3 : z' 3 (zL 30 0) = 1000 := by rw [em 3 (by decide) (by decide) (by decide)]; exact n3
    have k5 : z' 5 (zL 30 0) = 1000 := by rw [e2, if_neg (by omega), if_neg (by omega), if_neg (by omega), if_neg (by omega)]; exact n5
    have k6w : z' 6 w = zL 6 w := rtL 6 w (by decide) hw1.1 hw1.2.1 (Or.inr ⟨by decide, by decide, by decide, by decide⟩)
    have k6r : z' 6 r = zR 6 r := rtR 6 r (by decide) hr1.1 hr1.2.1 (Or.inr ⟨by decide, by decide, by decide, by decide⟩)
    have v6 := hw.2.2.2.2.2
    have p5 := hL.2.1.2.2.2.2.1
    have es : sM z' (zL 30 6) = sM zL (zL 30 6) := sM_eq (fun q1 q2 => l22 _ (by have := hL.1.1.2.2.2.1; omega))
    unfold mN
    rw [k0, k1, k2, k3, k5, k6, em 7 (by decide) (by decide) (by decide), em 10 (by decide) (by decide) (by decide), em 14 (by decide) (by decide) (by decide), em 13 (by decide) (by decide) (by decide), n7, n10, n14, n13, oM_lt (show w < 1000 by omega), oM_lt (show r < 1000 by omega), k6w, k6r, if_neg (by omega), es]
    exact ⟨⟨m1, m2, m3, m4, m5, m6, m7, m8, m9⟩, fun h => by omega, fun h => by omega, fun h => by omega, fun h => by omega⟩
  · rw [if_neg (by omega)]
    have := SR x (by omega) x2
    by_cases sw : x = r
    · rw [if_pos sw] at this
      rw [sw] at this ⊢
      rw [p5r, oM_lt (by omega), k6]; exact this
    · rw [if_neg sw] at this; exact this
end MASM
