section MLAM2
variable {tp : Nat → Nat} {n nt e d oc c v r M B op M0 : Nat} {S : lm_S} {I I' I1 I3 : lm_I} {L L' L1 L3 : lm_L} {R : lm_R} {Q K : Option Value → lm_M → Prop} {z z1 : Zt} {rec : Nat → Nat → Zt → Rs}
/-- v becomes a part of M in the draft -/
def lkM (I : lm_I) (c M v : Nat) : lm_I := lm_row (lm_row I c (upd (I c) M (nI v))) 105 (upd (I 105) v (nI M))
theorem lkM_f (hc : c = 102 ∨ c = 103 ∨ c = 104) : (∀ o, o ≠ c → o ≠ 105 → lkM I c M v o = I o) ∧ (∀ m, m ≠ M → lkM I c M v c m = I c m) ∧ lkM I c M v c M = nI v ∧ (∀ m, m ≠ v → lkM I c M v 105 m = I 105 m) ∧ lkM I c M v 105 v = nI M := by
  unfold lkM
  refine ⟨fun o h h2 => by rw [lm_row_n h2, lm_row_n h], fun m h => by rw [lm_row_n (by omega), lm_row_s, pk_un h], by rw [lm_row_n (by omega), lm_row_s, pk_us], fun m h => by rw [lm_row_s, pk_un h], by rw [lm_row_s, pk_us]⟩
theorem lkM_p (hc : c = 102 ∨ c = 103 ∨ c = 104) (hM : M0 ≤ M) (hv : M0 ≤ v) : frP M0 B op oc I (lkM I c M v) L L := by
  obtain ⟨b1, b2, b3, b4, b5⟩ := lkM_f (I := I) (M := M) (v := v) hc
  exact ⟨⟨fun o p q => b1 o (by omega) (by omega), fun k q => by rw [b1 96 (by omega) (by decide)], fun _ _ _ _ => rfl, fun _ _ => rfl⟩, ⟨b1 115 (by omega) (by decide), b1 116 (by omega) (by decide), by rw [b1 96 (by omega) (by decide)]⟩, ⟨fun o m p q w => by
      by_cases s1 : o = c
      · subst s1; exact b2 m (by omega)
      · by_cases s2 : o = 105
        · subst s2; exact b4 m (by omega)
        · rw [b1 o s1 s2], fun o m p q w => by rw [b1 o (by omega) (by omega)], fun o m p q w => by rw [b1 o (by omega) (by omega)], fun o m p q w => by rw [b1 o (by omega) (by omega)]⟩, fun _ _ => rfl, fun _ _ => rfl⟩
/-- a lambda's node and its body, in the draft -/
theorem masm_lam (hw : WFz nt d z) (hs : PSI (xk tp n) (xp tp n) nt (zla (xp tp n) z d) 0 (d + 1) r z1) {av1 : Int32} (s1 : SGm (xp tp n) (xy tp n) I1 L1 z1 (z 30 0 + 1) (z1 30 0) r av1)
    (hI1 : ∀ o m, 99 ≤ o → o ≤ 109 → z 30 3 < m → (m ≠ z1 6 r ∨ o ≠ 105) → I3 o m = I1 o m) (hL1 : ∀ m, z 30 3 < m → L3 101 m = L1 101 m) (h5 : I3 105 (z1 6 r) = nI (z 30 3))
    (hm : I3 99 (z 30 3) = nI 4 ∧ I3 100 (z 30 3) = nI (xp tp n (z 30 4)) ∧ I3 102 (z 30 3) = nI (z1 6 r) ∧ I3 103 (z 30 3) = -9 ∧ I3 104 (z 30 3) = -9 ∧ I3 105 (z 30 3) = -9 ∧ I3 106 (z 30 3) = sM z (z 30 6) ∧ I3 107 (z 30 3) = nI (z 30 1 - 1) ∧ I3 109 (z 30 3) = nI 0) (hl : L3 101 (z 30 3) = (nI (z 30 2)).toInt64) : SGm (xp tp n) (xy tp n) I3 L3 (zu (zlk z1 1 (z 30 0) r) 30 6 (z 30 6)) (z 30 0) (z1 30 0) (z 30 0) (-9) := by
  obtain ⟨⟨f0, f1, f2, f3, f4, f5, f6⟩, new, n4, f31, f32, wz, f33⟩ := zla_f (pl := xp tp n) (z := z) (d := d)
  have w1 := hs.1
  have sg1 := hs.2.2.1
  have ch1 := hs.2.2.2.1
  rw [f0] at sg1 ch1
  rw [f3] at sg1
  have hr1 := sg1.1
  have nr1 := (sg1.2.2.1 r hr1.1 hr1.2.1).2.1
  have m400 := hr1.2.2
  have e2 : ∀ u v, zu (zlk z1 1 (z 30 0) r) 30 6 (z 30 6) u v = if u = 30 ∧ v = 6 then z 30 6 else if u = 5 ∧ v = r then z 30 0 else if u = 1 ∧ v = z 30 0 then r else z1 u v := fun _ _ => rfl
  have rt : RT z1 (zu (zlk z1 1 (z 30 0) r) 30 6 (z 30 6)) (z 30 0 + 1) (z1 30 0) r := fun c n h1 h2 h3 h4 => by rw [e2, if_neg (by omega), if_neg (by omega), if_neg (by omega)]
  have e22 : ∀ b, zu (zlk z1 1 (z 30 0) r) 30 6 (z 30 6) 22 b = z1 22 b := fun b => by rw [e2, if_neg (by omega), if_neg (by omega), if_neg (by omega)]
  have p5 : zu (zlk z1 1 (z 30 0) r) 30 6 (z 30 6) 5 r = z 30 0 := by rw [e2, if_neg (by omega), if_pos ⟨rfl, rfl⟩]
  have nd : ∀ c, c < 16 → c ≠ 1 → zu (zlk z1 1 (z 30 0) r) 30 6 (z 30 6) c (z 30 0) = zla (xp tp n) z d c (z 30 0) := fun c h1 h2 => by
    rw [e2, if_neg (by omega), if_neg (by omega), if_neg (by omega)]
    exact w1.2.1 c _ h1 (by omega)
  obtain ⟨⟨n0, n6, n7, n8, n10, n13, n14, n15⟩, n1, n2, n3, n5, n9, n11, n12⟩ := new
  have k0 : zu (zlk z1 1 (z 30 0) r) 30 6 (z 30 6) 0 (z 30 0) = 4 := by rw [nd 0 (by decide) (by decide)]; exact n0
  have k6 : zu (zlk z1 1 (z 30 0) r) 30 6 (z 30 6) 6 (z 30 0) = z 30 3 := by rw [nd 6 (by decide) (by decide)]; exact n6
  have SL : SGm (xp tp n) (xy tp n) I3 L3 (zu (zlk z1 1 (z 30 0) r) 30 6 (z 30 6)) (z 30 0 + 1) (z1 30 0) r (nI (z 30 3)) := by
    refine SGm_mv s1 sg1 ch1 rt (fun o m h1 h2 h3 h4 h5 => hI1 o m h1 h2 (by omega) (by omega)) (fun m h1 h2 => hL1 m (by omega)) (fun b _ => e22 b) h5 ?_ (fun _ h => ?_)
    · rw [hI1 109 _ (by decide) (by decide) (by omega) (Or.inr (by decide)), show zu (zlk z1 1 (z 30 0) r) 30 6 (z 30 6) 13 r = z1 13 r by rw [e2, if_neg (by omega), if_neg (by omega), if_neg (by omega)]]
      exact (s1 r hr1.1 hr1.2.1).1.2.2.2.2.2.2.2.2
    · rw [p5, k0] at h; omega
  intro x x1 x2
  by_cases s0 : x = z 30 0
  · subst s0
    rw [if_pos rfl]
    obtain ⟨m1, m2, m3, m4, m5, m6, m7, m8, m9⟩ := hm
    have k1 : zu (zlk z1 1 (z 30 0) r) 30 6 (z 30 6) 1 (z 30 0) = r := by rw [e2, if_neg (by omega), if_neg (by omega), if_pos ⟨rfl, rfl⟩]
    have k6r : zu (zlk z1 1 (z 30 0) r) 30 6 (z 30 6) 6 r = z1 6 r := rt 6 r (by decide) hr1.1 hr1.2.1 (Or.inr ⟨by decide, by decide, by decide, by decide⟩)
    have v6 := hw.2.2.2.2.2
    have w12 := w1.1.2.2.2.1
    rw [f2] at w12
    have es : sM (zu (zlk z1 1 (z 30 0) r) 30 6 (z 30 6)) (z 30 6) = sM z (z 30 6) := sM_eq (fun q1 q2 => by
      rw [e22, w1.2.2.2.1 22 _ (by decide) (by decide) (by rw [f2]; omega)]
      exact wz.2.2.2.1 22 _ (by decide) (by decide) (by omega))
    unfold mN
    rw [k0, k1, nd 2 (by decide) (by decide), nd 3 (by decide) (by decide), nd 4 (by decide) (by decide), nd 5 (by decide) (by decide), k6, nd 7 (by decide) (by decide), nd 10 (by decide) (by decide), nd 14 (by decide) (by decide), nd 13 (by decide) (by decide), n2, n3, n4, n5, n7, n10, n14, n13, oM_lt (show r < 1000 by omega), k6r, if_neg (by omega), es, Nat.add_sub_cancel_left]
    exact ⟨⟨m1, m2, m3, m4, m5, m6, m7, m8, m9⟩, fun h => by omega, fun _ => hl, fun h => by omega, fun h => by omega⟩
  · rw [if_neg s0]
    have := SL x (by omega) x2
    by_cases sw : x = r
    · rw [if_pos sw] at this
      rw [sw] at this ⊢
      rw [p5, oM_lt (by omega), k6]; exact this
    · rw [if_neg sw] at this; exact this
theorem mST_s6 {z' : Zt} {d' : Nat} (g : mST tp n I L d z) (h97 : I' 97 = I 97) (hb : ∀ o b, 110 ≤ o → o ≤ 114 → b < z 30 2 → I' o b = I o b) (hk : ∀ k, (k = 1 ∨ (4 ≤ k ∧ k ≤ 7) ∨ k = 9 ∨ k = 21 ∨ k = 27 ∨ k = 28 ∨ k = 46) → I' 96 k = I 96 k) (h38 : I' 96 38 = nI d') (h31 : I' 96 31 = nI (d' + 1)) (h41 : I' 96 41 = sM z (z' 30 6)) (h8 : L' 96 8 = L 96 8) (hl : ∀ b, b < z 30 2 → L' 110 b = L 110 b) (h30 : ∀ k, 1 ≤ k → k ≤ 5 → z' 30 k = z 30 k) (hc : ∀ c b, 20 ≤ c → c ≤ 23 → z' c b = z c b) : mST tp n I' L' d' z' := by
  have es : ∀ s, sM z' s = sM z s := fun s => sM_eq (fun _ _ => hc 22 _ (by decide) (by decide))
  obtain ⟨⟨⟨a1, a2, a3⟩, a4, a5, a6, a7, a8⟩, ⟨b1, b2, b3, b4, b5, b6, b7, b8⟩, c1⟩ := g
  unfold mST
  rw [h30 4 (by decide) (by decide), h30 3 (by decide) (by decide), h30 2 (by decide) (by decide), h30 5 (by decide) (by decide), h30 1 (by decide) (by decide), es]
  refine ⟨⟨⟨a1, by rw [hk 1 (by omega)]; exact a2, by rw [h97]; exact a3⟩, by rw [hk 6 (by omega)]; exact a4, by rw [hk 5 (by omega)]; exact a5, by rw [hk 7 (by omega)]; exact a6, by rw [h8]; exact a7, by rw [hk 4 (by omega)]; exact a8⟩, ⟨by rw [hk 9 (by omega)]; exact b1, by rw [hk 21 (by omega)]; exact b2, by rw [hk 27 (by omega)]; exact b3, by rw [hk 28 (by omega)]; exact b4, by rw [hk 46 (by omega)]; exact b5, h38, h31, h41⟩, fun b q => ?_⟩
  rw [hc 20 b (by decide) (by decide), hc 22 b (by decide) (by decide), hc 23 b (by decide) (by decide), hc 21 b (by decide) (by decide), es, hl b q, hb 111 b (by decide) (by decide) q, hb 112 b (by decide) (by decide) q, hb 113 b (by decide) (by decide) q, hb 114 b (by decide) (by decide) q]
  exact c1 b q
/-- the end of a lambda or an if: the node is the current one, and ended -/
def fiM (I : lm_I) (M : Nat) : lm_I := lm_row I 96 (upd (upd (upd (I 96) 39 (nI M)) 42 (nI 0)) 47 (nI 1))
theorem fin_st {z' : Zt} {I0 I9 Ip : lm_I} {s p : Nat} {nv : Int32} (g0 : mST tp n I0 L (d + 1) z1) (hc : c = 102 ∨ c = 103 ∨ c = 104) (h9 : ∀ o, o ≠ 96 → I9 o = lkM I0 c M v o) (h96 : ∀ k, k ≠ 41 → I9 96 k = I0 96 k) (h41 : I9 96 41 = sM z1 (z' 30 6)) (fo : fO I0 (d + 1) s nv 1000 oc p) (hp : ppM I9 Ip (d + 1) d) (h30 : ∀ k, 1 ≤ k → k ≤ 5 → z' 30 k = z1 30 k) (hz : ∀ c b, 20 ≤ c → c ≤ 23 → z' c b = z1 c b) (hM : M0 ≤ M) (hv : M0 ≤ v) : mST tp n (fiM Ip M) L d z' ∧ (fiM Ip M 96 39 = nI M ∧ fiM Ip M 96 40 = -9 ∧ fiM Ip M 96 43 = nI oc ∧ fiM Ip M 96 47 = nI 1) ∧ (∀ o, o ≠ 96 → fiM Ip M o = lkM I0 c M v o) ∧ frP M0 B op oc I0 (fiM Ip M) L L := by
  obtain ⟨p1, p2, p3, p4, p5, p6, p7⟩ := hp
  obtain ⟨b1, b2, b3, b4, b5⟩ := lkM_f (I := I0) (M := M) (v := v) hc
  have fo' : ∀ o, o ≠ 96 → fiM Ip M o = lkM I0 c M v o := fun o h => by unfold fiM; rw [lm_row_n h, p1 o h, h9 o h]
  have fk : ∀ k, k ≠ 31 → k ≠ 38 → k ≠ 39 → k ≠ 40 → k ≠ 42 → k ≠ 43 → k ≠ 47 → k ≠ 41 → fiM Ip M 96 k = I0 96 k := fun k h1 h2 h3 h4 h5 h6 h7 h8 => by unfold fiM; rw [lm_row_s, pk_un h7, pk_un h5, pk_un h3, p2 k h1 h3 h4 h6 h2, h96 k h8]
  have fp : ∀ k, k ≠ 39 → k ≠ 42 → k ≠ 47 → fiM Ip M 96 k = Ip 96 k := fun k h1 h2 h3 => by unfold fiM; rw [lm_row_s, pk_un h3, pk_un h2, pk_un h1]
  have lp := lkM_p (I := I0) (L := L) (B := B) (op := op) (oc := oc) (M0 := M0) (M := M) (v := v) hc hM hv
  refine ⟨mST_s6 g0 (by rw [fo' 97 (by decide), b1 97 (by omega) (by decide)]) (fun o b p q _ => by rw [fo' o (by omega), b1 o (by omega) (by omega)]) (fun k q => fk k (by omega) (by omega) (by omega) (by omega) (by omega) (by omega) (by omega) (by omega)) (by rw [fp 38 (by decide) (by decide) (by decide)]; exact p7) (by rw [fp 31 (by decide) (by decide) (by decide)]; exact p3) (by rw [fp 41 (by decide) (by decide) (by decide), p2 41 (by decide) (by decide) (by decide) (by decide) (by decide)]; exact h41) rfl (fun _ _ => rfl) h30 hz, ⟨?_, ?_, ?_, ?_⟩, fo', ?_⟩
  · unfold fiM; rw [lm_row_s, pk_un (by decide), pk_un (by decide), pk_us]
  · rw [fp 40 (by decide) (by decide) (by decide), p5, h9 120 (by decide), b1 120 (by omega) (by decide), fo.2.2.1]; rfl
  · rw [fp 43 (by decide) (by decide) (by decide), p6, h9 121 (by decide), b1 121 (by omega) (by decide)]; exact fo.2.2.2.1
  · unfold fiM; rw [lm_row_s, pk_us]
  · obtain ⟨⟨l1, l2, l3, l4⟩, ⟨l5, l6, l7⟩, ⟨l8, l9, l10, l11⟩, l12, l13⟩ := lp
    exact ⟨⟨fun o p q => by rw [fo' o p]; exact l1 o p q, fun k q => fk k (by omega) (by omega) (by omega) (by omega) (by omega) (by omega) (by omega) (by omega), l3, l4⟩, ⟨by rw [fo' 115 (by decide)]; exact l5, by rw [fo' 116 (by decide)]; exact l6, fk 28 (by decide) (by decide) (by decide) (by decide) (by decide) (by decide) (by decide) (by decide)⟩, ⟨fun o m p q w => by rw [fo' o (by omega)]; exact l8 o m p q w, fun o m p q w => by rw [fo' o (by omega)]; exact l9 o m p q w, fun o m p q w => by rw [fo' o (by omega)]; exact l10 o m p q w, fun o m p q w => by rw [fo' o (by omega)]; exact l11 o m p q w⟩, l12, l13⟩
/-- a lambda -/
theorem m_lam (hS : lp_shape S) (hR : lp_refs R) (ht : tko (xk tp n) (xp tp n) nt) (hw : WFz nt d z) (g : mE0 tp n d oc I L z) (hk : xk tp n (z 30 4) = 4)
    (hP : d < 20 → ∀ z, WFz nt (d + 1) z → PST (xk tp n) (xp tp n) nt z 0 (d + 1) (rec 0 (d + 1) z))
    (hex : d < 20 → ∀ z I L Q oc, WFz nt (d + 1) z → mE0 tp n (d + 1) oc I L z → mQ tp n (e + 6) S R Q 0 (d + 1) oc z I L (rec 0 (d + 1) z) → hdQ (e + 6) S R Q I L)
    (hq : mQ tp n (e + 6) S R Q 0 d oc z I L (sLam (xk tp n) (xp tp n) rec d z)) : hdQ (e + 6) S R Q I L := by
  have hoc := g.2.2.1
  have v3 := hw.2.1
  obtain ⟨⟨f0, f1', f2, f3, f4, f5, f6⟩, new, n4, f31, f32, wz, f33⟩ := zla_f (pl := xp tp n) (z := z) (d := d)
  unfold sLam at hq
  refine m_lam0 hS hR ht hw g hk (fun h => ?_) (fun h h' => ?_) (fun h h' h'' => ?_) (fun I1 L1 c80 hd n0 c16 n16 g1 fo nw l1 fr1 => ?_)
  · rw [if_pos h] at hq; exact hq
  · rw [if_neg h, if_pos h'] at hq; exact hq
  · rw [if_neg h, if_neg h', if_pos h''] at hq; exact hq
  rw [if_neg (by omega), if_neg (by omega), if_neg (by omega)] at hq
  have hwa : WFz nt (d + 1) (zla (xp tp n) z d) := by
    obtain ⟨v1, v2, v3, v4, v5, v6⟩ := hw
    have t1 := tk_lt ht v1 (by omega)
    have t2 := tk_lt ht (show z 30 4 + 1 ≤ nt by omega) (by omega)
    have t3 := tk_lt ht (show z 30 4 + 2 ≤ nt by omega) (by omega)
    exact ⟨by omega, by omega, by omega, by omega, by omega, by omega⟩
  have hr0 := hP hd _ hwa
  refine hex hd _ I1 L1 Q oc hwa g1 ?_
  cases hx : rec 0 (d + 1) (zla (xp tp n) z d) with
  | inl t => rw [hx] at hq; exact mF.fr (M := t) hq fr1.1
  | inr q =>
    obtain ⟨r, z1⟩ := q
    rw [hx] at hq hr0
    have hr0 : PSI (xk tp n) (xp tp n) nt (zla (xp tp n) z d) 0 (d + 1) r z1 := hr0
    replace hq : mQ tp n (e + 6) S R Q 0 d oc z I L (.inr (z 30 0, zu (zlk z1 1 (z 30 0) r) 30 6 (z 30 6))) := hq
    have hw1 := wf_psi hwa hr0
    have v31 := hw1.2.1
    have hrr := hr0.2.2.1.1
    have nr := (hr0.2.2.1.2.2.1 r hrr.1 hrr.2.1).2.1
    have w3 := hr0.1.1.2.2.1
    have w2 := hr0.1.1.2.2.2.1
    rw [f3] at nr w3
    rw [f2] at w2
    have et : zu (zlk z1 1 (z 30 0) r) 30 6 (z 30 6) 30 4 = z1 30 4 := rfl
    refine mQ_mk (fun h => ?_) (fun I3 L3 mx f3' => ?_)
    · have hdm := mQ_dm hq ⟨by decide, h.2⟩
      exact mF.fr (M := xp tp n (z1 30 4)) hdm fr1.1
    · rw [f3, f2] at f3'
      have f3d : frP (z 30 3) (z 30 2) (d + 1) oc I1 I3 L1 L3 := f3'.le (by omega) (by omega) (by omega) (Nat.le_refl _)
      have fo3 := fO_fr fo f3' (by omega)
      obtain ⟨o1, o2, o3, o4, o5⟩ := fo3
      refine m_ends (s := 1) (nv := nI (z 30 3)) hS hR ht (by omega) v31 mx nr.2.1 (by omega) o4 o1 (by omega) o2 (fun K I0 hka g0 e0 => ?_)
      have f0k : frK I3 I0 L3 L3 := by rw [e0]; exact frK_40 (by omega)
      have bb := g0.2.2 (z 30 2) (by omega)
      have q22 : z1 22 (z 30 2) = 2 := by
        rw [hr0.1.2.2.2.1 22 _ (by decide) (by decide) (by omega)]
        unfold zla
        rw [adv_n (by omega), zu_n (by omega)]
        have := (zbn_b (z := adv (zk (xp tp n) z 4 d)) (s := 2)).2.2.1
        rw [adv_n (by decide), zk_30 (by decide) (by decide)] at this
        exact this
      have q21 : z1 21 (z 30 2) = z 30 6 := by
        rw [hr0.1.2.2.2.1 21 _ (by decide) (by decide) (by omega)]
        unfold zla
        rw [adv_n (by omega), zu_n (by omega)]
        have := (zbn_b (z := adv (zk (xp tp n) z 4 d)) (s := 2)).2.1
        rw [adv_n (by decide), zk_30 (by decide) (by decide), adv_n (by decide), zk_30 (by decide) (by decide)] at this
        exact this
      have b114 : I0 114 (z 30 2) = sM z1 (z 30 6) := by rw [bb.2.2.2.2.1, if_pos q22, q21]
      have l3 : L3 101 (z 30 3) = (nI (z 30 2)).toInt64 := by rw [f3'.2.2.2.1 _ (by omega)]; exact l1
      have b2 : z 30 2 ≤ 22 := by have := hw.2.2.2.2.1; omega
      have l2i : ((nI (z 30 2)).toInt64).toInt32 = nI (z 30 2) := by simp
      show lw (e + 5) 167 (lm_J 167 108) _ _ _ _
      rw [cb_167_108]
      simp (disch := omega) only [lk_v, lk_n, lm_isI_i, lm_isL_l, lm_isR_r, lm_vi_i, lwx_aload_0, lwx_aload_1, lwx_aload_2, lwx_aload_3, lw_iconst, lwx_invokevirtual_3, lw_getI, lw_getL, lw_getR, lw_getZ, lwx_istore_0, lwx_istore_1, lwx_istore_2, lwx_istore_3, lw_isub, lwx_iload_0, lwx_iload_1, lwx_iload_2, lwx_iload_3, lw_iaload, lw_if_eq, lwx_invokevirtual_2, lw_if_ne, lw_iret, lw_iastore, lw_putI, lw_putL, lw_putR, lw_putZ, lw_laload, lw_l2i, lwx_invokevirtual_1, lw_icmp_ne, lw_ldc2, lw_goto, lw_lcmp, lw_dup2, lw_dup2r, lw_iadd, lw_bipush, lwx_invokevirtual_4, List.getD_cons_zero, List.getD_cons_succ, lm_set1, lm_set2, lm_cut, List.getElem?_cons_zero, List.getElem?_cons_succ, List.set_cons_zero, List.set_cons_succ, List.length_cons, List.length_nil, List.map_cons, List.map_nil, List.sum_cons, List.sum_nil, Value.category, Nat.reduceAdd, Nat.reduceDiv, Nat.reduceMod, Nat.reduceLT, Nat.reduceLeDiff, Nat.reduceMul, Int.toNat_natCast, Int.reduceToNat, true_and, and_true, lm_rok_1, lm_rok_20, lm_rok_21, lm_rok_0, lm_args, lm_ent, List.nil_append, List.cons_append, List.replicate, Nat.reduceSub, if_false, if_true, reduceCtorEq, Nat.reduceEqDiff, Bool.or_true, Bool.true_or, Bool.or_false, Bool.false_or, Bool.and_true, Bool.true_and, BEq.rfl, beq_self_eq_true, kb_m94, kb_m92, kb_m63, kb_m46, kb_m45, kb_m42, kb_m41, kb_m33, kb_m10, kb_m9, kb_m4, kb_m3, kb_m2, zkb_6, zkb_7, zkb_8, zkb_9, zkb_10, zkb_11, zkb_12, zkb_13, zkb_14, zkb_15, zkb_16, zkb_17, zkb_18, zkb_19, zkb_20, zkb_21, zkb_22, zkb_23, zkb_24, zkb_26, zkb_32, zkb_33, zkb_34, zkb_38, zkb_40, zkb_41, zkb_43, zkb_44, zkb_45, zkb_46, zkb_48, zkb_57, zkb_58, zkb_59, zkb_60, zkb_61, zkb_62, zkb_64, zkb_80, zkb_81, zkb_91, zkb_92, zkb_93, zkb_97, zkb_100, zkb_104, zkb_122, zkb_126, ki_m8, ki_m2, ki_m1, zki_0, zki_1, zki_2, zki_3, zki_4, zki_5, zks_160, zks_168, zks_240, zks_242, zks_255, zks_264, zks_300, zks_320, zks_500, zks_600, zks_625, zks_626, zks_1200, zks_1256, zks_2000, zks_2504, zks_3040, zks_4000, zks_6000, zks_12000, kl_0, kl_1, z_lt, z_le, z_eq, z_eq0, z_eq1, z_lt0, z_le0, z_0lt, z_0le, z_add, z_sub, z_add1, z_addn, z_addm, z_mul, z_cl, z_n9, z_n9s, z_n90, z_ne9, z_ne9s, z_lt_t, z_lt_f, z_le_t, z_le_f, z_eq_t, z_eq_f, z_pus, z_pun, z_row, or_self, or_false, false_or, true_or, or_true, and_self, and_false, false_and, not_true_eq_false, not_false_eq_true, false_implies, true_implies, implies_true, ne_eq, lm_row_s, lm_row_row, lm_up_row, rc_s, Classical.not_not, Nat.add_sub_cancel, i10, z_on, rok2_0, rok2_1, ml_167, rt_167, cb_167_72, cb_167_89, cb_167_108, cb_167_158, cb_167_186, cb_167_189, cb_167_193, cb_167_195, cb_167_215, cb_167_222, cb_167_266, cb_167_300, cb_167_307, cb_167_318, cb_167_347, rc_mod hS, sh_96 hS, sh_101 hS, sh_102 hS, sh_105 hS, sh_114 hS, rf_96_12 hR, rf_96_13 hR, rf_96_16 hR, rf_96_26 hR, rf_96_96 hR, rf_96_101 hR, rf_96_102 hR, l3, l2i, b114]
      obtain ⟨I9, e9⟩ : ∃ I9, I9 = lm_row (lkM I0 102 (z 30 3) (z1 6 r)) 96 (upd (I0 96) 41 (sM z1 (z 30 6))) := ⟨_, rfl⟩
      have h9 : ∀ o, o ≠ 96 → I9 o = lkM I0 102 (z 30 3) (z1 6 r) o := fun o h => by rw [e9, lm_row_n h]
      have h96 : ∀ k, k ≠ 41 → I9 96 k = I0 96 k := fun k h => by rw [e9, lm_row_s, pk_un h]
      have h41 : I9 96 41 = sM z1 (z 30 6) := by rw [e9, lm_row_s, pk_us]
      have fo0 : fO I0 (d + 1) 1 (nI (z 30 3)) 1000 oc (xp tp n (z 30 4 + 2)) := ⟨by rw [f0k.1 117 (by decide)]; exact o1, by rw [f0k.1 118 (by decide)]; exact o2, by rw [f0k.1 120 (by decide)]; exact o3, by rw [f0k.1 121 (by decide)]; exact o4, by rw [f0k.1 122 (by decide)]; exact o5⟩
      obtain ⟨b1, b2', b3, b4, b5⟩ := lkM_f (I := I0) (c := 102) (M := z 30 3) (v := z1 6 r) (Or.inl rfl)
      change lc (e + 5) 166 _ (S, lm_row (lkM I0 102 (z 30 3) (z1 6 r)) 96 (upd (I0 96) 41 (sM z1 (z 30 6))), L3, R) _
      rw [← e9]
      refine k_166 (op := d + 1) (d := d) (s := 1) hS hR (by rw [h96 31 (by decide)]; exact g0.2.1.2.2.2.2.2.2.1) (by omega) (by rw [h96 38 (by decide)]; exact g0.2.1.2.2.2.2.2.1) (by omega) (by rw [h9 117 (by decide), b1 117 (by decide) (by decide)]; exact fo0.1) (by omega) (fun Ip hp => ?_)
      obtain ⟨gf, ⟨k39, k40, k43, k47⟩, fro, frf⟩ := fin_st (z' := zu (zlk z1 1 (z 30 0) r) 30 6 (z 30 6)) (M0 := z 30 3) (B := z 30 2) (op := d + 1) (c := 102) (M := z 30 3) (v := z1 6 r) g0 (Or.inl rfl) h9 h96 h41 fo0 hp (fun k k1 k2 => by show (if 30 = 30 ∧ k = 6 then z 30 6 else if 30 = 5 ∧ k = r then z 30 0 else if 30 = 1 ∧ k = z 30 0 then r else z1 30 k) = z1 30 k; rw [if_neg (by omega), if_neg (by omega), if_neg (by omega)]) (fun c b p q => by show (if c = 30 ∧ b = 6 then z 30 6 else if c = 5 ∧ b = r then z 30 0 else if c = 1 ∧ b = z 30 0 then r else z1 c b) = z1 c b; rw [if_neg (by omega), if_neg (by omega), if_neg (by omega)]) (Nat.le_refl _) (by omega)
      simp (disch := omega) only [lk_v, lk_n, lm_isI_i, lm_isL_l, lm_isR_r, lm_vi_i, lwx_aload_0, lwx_aload_1, lwx_aload_2, lwx_aload_3, lw_iconst, lwx_invokevirtual_3, lw_getI, lw_getL, lw_getR, lw_getZ, lwx_istore_0, lwx_istore_1, lwx_istore_2, lwx_istore_3, lw_isub, lwx_iload_0, lwx_iload_1, lwx_iload_2, lwx_iload_3, lw_iaload, lw_if_eq, lwx_invokevirtual_2, lw_if_ne, lw_iret, lw_iastore, lw_putI, lw_putL, lw_putR, lw_putZ, lw_laload, lw_l2i, lwx_invokevirtual_1, lw_icmp_ne, lw_ldc2, lw_goto, lw_lcmp, lw_dup2, lw_dup2r, lw_iadd, lw_bipush, lwx_invokevirtual_4, List.getD_cons_zero, List.getD_cons_succ, lm_set1, lm_set2, lm_cut, List.getElem?_cons_zero, List.getElem?_cons_succ, List.set_cons_zero, List.set_cons_succ, List.length_cons, List.length_nil, List.map_cons, List.map_nil, List.sum_cons, List.sum_nil, Value.category, Nat.reduceAdd, Nat.reduceDiv, Nat.reduceMod, Nat.reduceLT, Nat.reduceLeDiff, Nat.reduceMul, Int.toNat_natCast, Int.reduceToNat, true_and, and_true, lm_rok_1, lm_rok_20, lm_rok_21, lm_rok_0, lm_args, lm_ent, List.nil_append, List.cons_append, List.replicate, Nat.reduceSub, if_false, if_true, reduceCtorEq, Nat.reduceEqDiff, Bool.or_true, Bool.true_or, Bool.or_false, Bool.false_or, Bool.and_true, Bool.true_and, BEq.rfl, beq_self_eq_true, kb_m94, kb_m92, kb_m63, kb_m46, kb_m45, kb_m42, kb_m41, kb_m33, kb_m10, kb_m9, kb_m4, kb_m3, kb_m2, zkb_6, zkb_7, zkb_8, zkb_9, zkb_10, zkb_11, zkb_12, zkb_13, zkb_14, zkb_15, zkb_16, zkb_17, zkb_18, zkb_19, zkb_20, zkb_21, zkb_22, zkb_23, zkb_24, zkb_26, zkb_32, zkb_33, zkb_34, zkb_38, zkb_40, zkb_41, zkb_43, zkb_44, zkb_45, zkb_46, zkb_48, zkb_57, zkb_58, zkb_59, zkb_60, zkb_61, zkb_62, zkb_64, zkb_80, zkb_81, zkb_91, zkb_92, zkb_93, zkb_97, zkb_100, zkb_104, zkb_122, zkb_126, ki_m8, ki_m2, ki_m1, zki_0, zki_1, zki_2, zki_3, zki_4, zki_5, zks_160, zks_168, zks_240, zks_242, zks_255, zks_264, zks_300, zks_320, zks_500, zks_600, zks_625, zks_626, zks_1200, zks_1256, zks_2000, zks_2504, zks_3040, zks_4000, zks_6000, zks_12000, kl_0, kl_1, z_lt, z_le, z_eq, z_eq0, z_eq1, z_lt0, z_le0, z_0lt, z_0le, z_add, z_sub, z_add1, z_addn, z_addm, z_mul, z_cl, z_n9, z_n9s, z_n90, z_ne9, z_ne9s, z_lt_t, z_lt_f, z_le_t, z_le_f, z_eq_t, z_eq_f, z_pus, z_pun, z_row, or_self, or_false, false_or, true_or, or_true, and_self, and_false, false_and, not_true_eq_false, not_false_eq_true, false_implies, true_implies, implies_true, ne_eq, lm_row_s, lm_row_row, lm_up_row, rc_s, Classical.not_not, Nat.add_sub_cancel, i10, z_on, rok2_0, rok2_1, ml_167, rt_167, cb_167_72, cb_167_89, cb_167_108, cb_167_158, cb_167_186, cb_167_189, cb_167_193, cb_167_195, cb_167_215, cb_167_222, cb_167_266, cb_167_300, cb_167_307, cb_167_318, cb_167_347, sh_96 hS, rc_mod hS]
      rw [show e + 5 = e + 4 + 1 from rfl, lc_succ, cb_168]
      simp (disch := omega) only [lk_v, lk_n, lm_isI_i, lm_isL_l, lm_isR_r, lm_vi_i, lwx_aload_0, lwx_aload_1, lwx_aload_2, lwx_aload_3, lw_iconst, lw_putI, lw_putL, lw_putR, lw_putZ, lw_iret, lwx_invokevirtual_3, lw_getI, lw_getL, lw_getR, lw_getZ, lwx_istore_0, lwx_istore_1, lwx_istore_2, lwx_istore_3, lw_isub, lwx_iload_0, lwx_iload_1, lwx_iload_2, lwx_iload_3, lw_iaload, lw_if_eq, lwx_invokevirtual_2, lw_if_ne, lw_iastore, lw_laload, lw_l2i, lwx_invokevirtual_1, lw_icmp_ne, lw_ldc2, lw_goto, lw_lcmp, lw_dup2, lw_dup2r, lw_iadd, lw_bipush, lwx_invokevirtual_4, List.getD_cons_zero, List.getD_cons_succ, lm_set1, lm_set2, lm_cut, List.getElem?_cons_zero, List.getElem?_cons_succ, List.set_cons_zero, List.set_cons_succ, List.length_cons, List.length_nil, List.map_cons, List.map_nil, List.sum_cons, List.sum_nil, Value.category, Nat.reduceAdd, Nat.reduceDiv, Nat.reduceMod, Nat.reduceLT, Nat.reduceLeDiff, Nat.reduceMul, Int.toNat_natCast, Int.reduceToNat, true_and, and_true, lm_rok_1, lm_rok_20, lm_rok_21, lm_rok_0, lm_args, lm_ent, List.nil_append, List.cons_append, List.replicate, Nat.reduceSub, if_false, if_true, reduceCtorEq, Nat.reduceEqDiff, Bool.or_true, Bool.true_or, Bool.or_false, Bool.false_or, Bool.and_true, Bool.true_and, BEq.rfl, beq_self_eq_true, kb_m94, kb_m92, kb_m63, kb_m46, kb_m45, kb_m42, kb_m41, kb_m33, kb_m10, kb_m9, kb_m4, kb_m3, kb_m2, zkb_6, zkb_7, zkb_8, zkb_9, zkb_10, zkb_11, zkb_12, zkb_13, zkb_14, zkb_15, zkb_16, zkb_17, zkb_18, zkb_19, zkb_20, zkb_21, zkb_22, zkb_23, zkb_24, zkb_26, zkb_32, zkb_33, zkb_34, zkb_38, zkb_40, zkb_41, zkb_43, zkb_44, zkb_45, zkb_46, zkb_48, zkb_57, zkb_58, zkb_59, zkb_60, zkb_61, zkb_62, zkb_64, zkb_80, zkb_81, zkb_91, zkb_92, zkb_93, zkb_97, zkb_100, zkb_104, zkb_122, zkb_126, ki_m8, ki_m2, ki_m1, zki_0, zki_1, zki_2, zki_3, zki_4, zki_5, zks_160, zks_168, zks_240, zks_242, zks_255, zks_264, zks_300, zks_320, zks_500, zks_600, zks_625, zks_626, zks_1200, zks_1256, zks_2000, zks_2504, zks_3040, zks_4000, zks_6000, zks_12000, kl_0, kl_1, z_lt, z_le, z_eq, z_eq0, z_eq1, z_lt0, z_le0, z_0lt, z_0le, z_add, z_sub, z_add1, z_addn, z_addm, z_mul, z_cl, z_n9, z_n9s, z_n90, z_ne9, z_ne9s, z_lt_t, z_lt_f, z_le_t, z_le_f, z_eq_t, z_eq_f, z_pus, z_pun, z_row, or_self, or_false, false_or, true_or, or_true, and_self, and_false, false_and, not_true_eq_false, not_false_eq_true, false_implies, true_implies, implies_true, ne_eq, lm_row_s, lm_row_row, lm_up_row, rc_s, Classical.not_not, Nat.add_sub_cancel, i10, z_on, rok2_0, rok2_1, ml_168, rt_168, ml_167, rt_167, cb_167_72, cb_167_89, cb_167_108, cb_167_158, cb_167_186, cb_167_189, cb_167_193, cb_167_195, cb_167_215, cb_167_222, cb_167_266, cb_167_300, cb_167_307, cb_167_318, cb_167_347, sh_96 hS, rc_mod hS]
      have mxs := mx.2.2.1
      rw [f0] at mxs
      have e6 : zu (zlk z1 1 (z 30 0) r) 30 6 (z 30 6) 6 (z 30 0) = z 30 3 := by
        show z1 6 (z 30 0) = z 30 3
        rw [hr0.1.2.1 6 _ (by decide) (by omega)]
        exact new.1.2.1
      have row3 : ∀ o m, 99 ≤ o → o ≤ 109 → m ≤ z 30 3 → I0 o m = I1 o m := fun o m p q h => by rw [f0k.1 o (by omega), f3'.2.2.1.1 o m p q (by omega)]
      obtain ⟨⟨u1, u2, u3, u4, u5⟩, u6, u7, u8, u9, u10⟩ := nw
      have gS : SGm (xp tp n) (xy tp n) (fiM Ip (z 30 3)) L3 (zu (zlk z1 1 (z 30 0) r) 30 6 (z 30 6)) (z 30 0) (z1 30 0) (z 30 0) (-9) := by
        refine masm_lam hw hr0 mxs (fun o m p q h hh => ?_) (fun _ _ => rfl) (by rw [fro 105 (by decide)]; exact b5) ⟨?_, ?_, ?_, ?_, ?_, ?_, ?_, ?_, ?_⟩ l3
        · rw [fro o (by omega), ← f0k.1 o (by omega)]
          by_cases s1 : o = 102
          · subst s1; exact b2' m (by omega)
          · by_cases s2 : o = 105
            · subst s2; exact b4 m (by omega)
            · rw [b1 o s1 s2]
        · rw [fro 99 (by decide), b1 99 (by decide) (by decide), row3 99 _ (by decide) (by decide) (Nat.le_refl _)]; exact u1
        · rw [fro 100 (by decide), b1 100 (by decide) (by decide), row3 100 _ (by decide) (by decide) (Nat.le_refl _)]; exact u2
        · rw [fro 102 (by decide)]; exact b3
        · rw [fro 103 (by decide), b1 103 (by decide) (by decide), row3 103 _ (by decide) (by decide) (Nat.le_refl _)]; exact u7
        · rw [fro 104 (by decide), b1 104 (by decide) (by decide), row3 104 _ (by decide) (by decide) (Nat.le_refl _)]; exact u8
        · rw [fro 105 (by decide), b4 _ (by omega), row3 105 _ (by decide) (by decide) (Nat.le_refl _)]; exact u9
        · rw [fro 106 (by decide), b1 106 (by decide) (by decide), row3 106 _ (by decide) (by decide) (Nat.le_refl _)]; exact u3
        · rw [fro 107 (by decide), b1 107 (by decide) (by decide), row3 107 _ (by decide) (by decide) (Nat.le_refl _)]; exact u4
        · rw [fro 109 (by decide), b1 109 (by decide) (by decide), row3 109 _ (by decide) (by decide) (Nat.le_refl _)]; exact u5
      have fall : frP (z 30 3) (z 30 2) (d + 1) oc I (fiM Ip (z 30 3)) L L3 := ((fr1.tr f3d (Nat.le_refl _) (Nat.le_refl _) (Nat.le_refl _) (Nat.le_refl _)).tr f0k.m (Nat.le_refl _) (Nat.le_refl _) (Nat.le_refl _) (Nat.le_refl _)).tr frf (Nat.le_refl _) (Nat.le_refl _) (Nat.le_refl _) (Nat.le_refl _)
      have tkx := mx.2.2.2
      refine hka.2 _ _ (mQ_ok (mQ.fr hq fall) ⟨gf, ⟨k39.trans (by rw [e6]), k40, k43, 1, Nat.le_refl _, k47, fun h => absurd h (by decide)⟩, gS, tkx⟩ (fun h => ?_))
      have h2 := h.2
      rw [et] at h2
      have := tkx.2
      omega
end MLAM2
