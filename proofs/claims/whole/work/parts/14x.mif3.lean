section MIF3
variable {tp : Nat → Nat} {n nt e d oc c v r r1 r2 r3 M B op M0 h s o m : Nat} {q p : Int32} {p0 : Nat} {S : lm_S} {I I' I0 I1 I2 I3 I4 : lm_I} {L L' L1 L2 L3 L4 : lm_L} {R : lm_R} {Q K : Option Value → lm_M → Prop} {z z0 z1 z2 z3 : Zt} {rec : Nat → Nat → Zt → Rs}
theorem thM_r (hs : s = 2 ∨ s = 3) (h1 : 99 ≤ o) (h2 : o ≤ 109) (h3 : m ≠ M ∨ o ≠ 100 + s) (h4 : m ≠ v ∨ (o ≠ 105 ∧ o ≠ 108)) : thM I s h M v p o m = I o m := by
  obtain ⟨b1, b2, b3, b4, b5, b6, b7, b8, b9⟩ := thM_f (I := I) (h := h) (M := M) (v := v) (p := p) hs
  by_cases s1 : o = 100 + s
  · subst s1; exact b4 m (by omega)
  · by_cases s2 : o = 105
    · subst s2; exact (b6 m (by omega)).1
    · by_cases s3 : o = 108
      · subst s3; exact (b6 m (by omega)).2
      · rw [b1 o (by omega) s1 s2 s3 (by omega)]
theorem lkM_r (hc : c = 102 ∨ c = 103 ∨ c = 104) (h3 : m ≠ M ∨ o ≠ c) (h4 : m ≠ v ∨ o ≠ 105) : lkM I c M v o m = I o m := by
  obtain ⟨b1, b2, b3, b4, b5⟩ := lkM_f (I := I) (M := M) (v := v) hc
  by_cases s1 : o = c
  · subst s1; exact b2 m (by omega)
  · by_cases s2 : o = 105
    · subst s2; exact b4 m (by omega)
    · rw [b1 o s1 s2]
/-- behind the first or second part of an if -/
theorem m_mid (hS : lp_shape S) (hR : lp_refs R) (ht : tko (xk tp n) (xp tp n) nt) (hd : d < 20) (mx : mX tp n 0 (d + 1) oc I L z0 r z1) (h80 : z1 30 3 ≤ 80) (hr : z1 6 r < z1 30 3) (hM : M < 80) (hs : s = 2 ∨ s = 3) (fo : fO I (d + 1) s (nI M) 1000 oc p0) (ho : oc ≤ z1 30 3) (hM0 : M0 ≤ M) (hv0 : M0 ≤ z1 6 r)
    (h0 : xk tp n (z1 30 4) ≠ 18 + s → mF S R Q I L (xp tp n (z1 30 4)))
    (h1 : xk tp n (z1 30 4) = 18 + s → ∀ I' L', mE0 tp n (d + 1) oc I' L' (adv z1) → fO I' (d + 1) (s + 1) (nI M) 1000 oc p0 → (∀ o, 99 ≤ o → o ≤ 109 → I' o = thM I s (d + 1) M (z1 6 r) (nI (xp tp n (z1 30 4))) o) → (∀ m, L' 101 m = L 101 m) → frP M0 B (d + 1) oc I I' L L' → hdQ (e + 6) S R Q I' L') : hdQ (e + 6) S R Q I L := by
  obtain ⟨o1, o2, o3, o4, o5⟩ := fo
  obtain ⟨-, ⟨g39, g40, g43, -⟩, -⟩ := id mx
  refine m_ends (s := s) (nv := nI M) hS hR ht (by omega) h80 mx hr (by omega) o4 o1 (by omega) o2 (fun K I0 hka gg e0 => ?_)
  have f0k : frK I I0 L L := by rw [e0]; exact frK_40 (by omega)
  have ko : ∀ o, o ≠ 96 → I0 o = I o := f0k.1
  have kk : ∀ k, k ≠ 47 → I0 96 k = I 96 k := fun k hk => by rw [e0, lm_row_s, pk_un hk]
  rw [show tgt s = 158 by rcases hs with rfl | rfl <;> rfl]
  refine m_word hS hR ht gg hd hs (by rw [ko 117 (by decide)]; exact o1) hM (by omega) hka (fun h => mF.fr (h0 h) (f0k.m (M := 0) (B := 0) (op := 0) (oc := 0)).1) (fun h I' L' g' f f2 => ?_)
  obtain ⟨b1, b2, ⟨b31, b32⟩, b4, b5, b6, b7, b8, b9⟩ := thM_f (I := I0) (h := d + 1) (M := M) (v := z1 6 r) (p := nI (xp tp n (z1 30 4))) hs
  have fk : ∀ k, k ≠ 4 → k ≠ 5 → k ≠ 6 → k ≠ 7 → k ≠ 39 → k ≠ 42 → k ≠ 47 → I' 96 k = I 96 k := fun k h1 h2 h3 h4 h5 h6 h7 => by rw [f.2 k h1 h2 h3 h4, b2 k h5 h6, kk k h7]
  have fr : ∀ o, 118 ≤ o → I' o = I o := fun o h1 => by rw [f.1 o (by omega), b1 o (by omega) (by omega) (by omega) (by omega) (by omega), ko o (by omega)]
  have frow : ∀ o, 99 ≤ o → o ≤ 109 → I' o = thM I s (d + 1) M (z1 6 r) (nI (xp tp n (z1 30 4))) o := fun o p q => by
    rw [f.1 o (by omega)]
    unfold thM
    rw [lm_row_n (by omega), lm_row_n (by omega), lm_row_n (show o ≠ 96 by omega) (I := lm_row (lm_row (lm_row (lm_row I (100 + s) (upd (I (100 + s)) M (nI (z1 6 r)))) 105 (upd (I 105) (z1 6 r) (nI M))) 108 (upd (I 108) (z1 6 r) (nI (xp tp n (z1 30 4))))) 117 (upd (I 117) (d + 1) (nI (s + 1)))), lm_row_n (show o ≠ 117 by omega) (I := lm_row (lm_row (lm_row I (100 + s) (upd (I (100 + s)) M (nI (z1 6 r)))) 105 (upd (I 105) (z1 6 r) (nI M))) 108 (upd (I 108) (z1 6 r) (nI (xp tp n (z1 30 4)))))]
    rw [ko 105 (by decide), ko 108 (by decide), ko (100 + s) (by omega)]
    unfold lm_row
    split
    · rfl
    · split
      · rfl
      · split
        · rfl
        · rw [ko o (by omega)]
  refine h1 h I' L' ⟨g', ⟨by rw [f.2 39 (by decide) (by decide) (by decide) (by decide)]; exact b31, ?_, ?_, by rw [fr 121 (by decide)]; exact o4⟩, ho, by rw [f.2 42 (by decide) (by decide) (by decide) (by decide)]; exact b32⟩ ⟨by rw [f.1 117 (by decide)]; exact b9, by rw [fr 118 (by decide)]; exact o2, by rw [fr 120 (by decide)]; exact o3, by rw [fr 121 (by decide)]; exact o4, by rw [fr 122 (by decide)]; exact o5⟩ frow (fun m => f2 101 m (by omega)) ?_
  · rw [fk 40 (by decide) (by decide) (by decide) (by decide) (by decide) (by decide) (by decide)]; exact g40
  · rw [fk 43 (by decide) (by decide) (by decide) (by decide) (by decide) (by decide) (by decide)]; exact g43
  · have lf := (frN_k f f2).m (M := M0) (B := B) (op := d + 1) (oc := oc)
    refine ((f0k.m (M := M0) (B := B) (op := d + 1) (oc := oc)).tr ?_ (Nat.le_refl _) (Nat.le_refl _) (Nat.le_refl _) (Nat.le_refl _)).tr lf (Nat.le_refl _) (Nat.le_refl _) (Nat.le_refl _) (Nat.le_refl _)
    exact ⟨⟨fun o p q => b1 o p (by omega) (by omega) (by omega) (by omega), fun k q => b2 k (by omega) (by omega), fun _ _ _ _ => rfl, fun _ _ => rfl⟩, ⟨b1 115 (by decide) (by omega) (by decide) (by decide) (by decide), b1 116 (by decide) (by omega) (by decide) (by decide) (by decide), b2 28 (by decide) (by decide)⟩, ⟨fun o m p q w => thM_r hs p q (by omega) (by omega), fun o m p q w => by rw [b1 o (by omega) (by omega) (by omega) (by omega) (by omega)], fun o m p q w => by
      by_cases s1 : o = 117
      · subst s1; exact b8 m (by omega)
      · rw [b1 o (by omega) (by omega) (by omega) (by omega) s1], fun o m p q w => by rw [b1 o (by omega) (by omega) (by omega) (by omega) (by omega)]⟩, fun _ _ => rfl, fun _ _ => rfl⟩
/-- an if -/
theorem m_if (hS : lp_shape S) (hR : lp_refs R) (ht : tko (xk tp n) (xp tp n) nt) (hw : WFz nt d z) (g : mE0 tp n d oc I L z) (hk : xk tp n (z 30 4) = 5)
    (hP : d < 20 → ∀ z, WFz nt (d + 1) z → PST (xk tp n) (xp tp n) nt z 0 (d + 1) (rec 0 (d + 1) z))
    (hex : d < 20 → ∀ z I L Q oc, WFz nt (d + 1) z → mE0 tp n (d + 1) oc I L z → mQ tp n (e + 6) S R Q 0 (d + 1) oc z I L (rec 0 (d + 1) z) → hdQ (e + 6) S R Q I L)
    (hq : mQ tp n (e + 6) S R Q 0 d oc z I L (sIf (xk tp n) (xp tp n) rec d z)) : hdQ (e + 6) S R Q I L := by
  have hoc := g.2.2.1
  have v3 := hw.2.1
  unfold sIf at hq
  refine m_if0 hS hR ht hw g hk (fun h => ?_) (fun I1 L1 c80 hd g1 fo nw fr1 => ?_)
  · rw [if_pos h] at hq; exact hq
  rw [if_neg (by omega)] at hq
  have f0 : adv (zk (xp tp n) z 5 d) 30 0 = z 30 0 + 1 := by rw [adv_n (by decide)]; exact zk_0
  have f3 : adv (zk (xp tp n) z 5 d) 30 3 = z 30 3 + 1 := by rw [adv_n (by decide)]; exact zk_3
  have f2 : adv (zk (xp tp n) z 5 d) 30 2 = z 30 2 := by rw [adv_n (by decide)]; exact zk_30 (by decide) (by decide)
  have hwa : WFz nt (d + 1) (adv (zk (xp tp n) z 5 d)) := wf_d (wf_k ht hw c80 (by decide) (by omega)) hd
  have hr1 := hP hd _ hwa
  refine hex hd _ I1 L1 Q oc hwa g1 ?_
  cases hx : rec 0 (d + 1) (adv (zk (xp tp n) z 5 d)) with
  | inl t => rw [hx] at hq; exact mF.fr (M := t) hq fr1.1
  | inr q =>
  obtain ⟨r1, z1⟩ := q
  rw [hx] at hq hr1
  have hr1 : PSI (xk tp n) (xp tp n) nt (adv (zk (xp tp n) z 5 d)) 0 (d + 1) r1 z1 := hr1
  replace hq : mQ tp n (e + 6) S R Q 0 d oc z I L (if xk tp n (z1 30 4) ≠ 20 then flt (xp tp n) z1 else rb (rec 0 (d + 1) (adv z1)) fun r2 z2 => if xk tp n (z2 30 4) ≠ 21 then flt (xp tp n) z2 else rb (rec 0 (d + 1) (adv z2)) fun r3 z3 => .inr (z 30 0, zif z1 z2 z3 (z 30 0) r1 r2 r3)) := hq
  have hw1 := wf_psi hwa hr1
  have v31 := hw1.2.1
  have rr1 := hr1.2.2.1.1
  have nr1 := (hr1.2.2.1.2.2.1 r1 rr1.1 rr1.2.1).2.1
  have w13 := hr1.1.1.2.2.1
  have w12 := hr1.1.1.2.2.2.1
  rw [f3] at nr1 w13
  rw [f2] at w12
  refine mQ_mk (fun h => ?_) (fun Ia La mx1 fa => ?_)
  · rw [if_pos (fun s => by rw [s] at h; exact absurd h.2 (by decide))] at hq
    exact mF.fr (M := xp tp n (z1 30 4)) hq fr1.1
  rw [f3, f2] at fa
  have fad : frP (z 30 3) (z 30 2) (d + 1) oc I1 Ia L1 La := fa.le (by omega) (Nat.le_refl _) (by omega) (Nat.le_refl _)
  have fIa : frP (z 30 3) (z 30 2) (d + 1) oc I Ia L La := fr1.tr fad (Nat.le_refl _) (Nat.le_refl _) (Nat.le_refl _) (Nat.le_refl _)
  refine m_mid (M0 := z 30 3) (B := z 30 2) hS hR ht hd mx1 v31 nr1.2.1 c80 (Or.inl rfl) (fO_fr fo fa (by omega)) (by omega) (Nat.le_refl _) (by omega) (fun h => ?_) (fun h20 Ib Lb gb fob rb1 lb1 fb => ?_)
  · rw [if_pos h] at hq
    exact mF.fr (M := xp tp n (z1 30 4)) hq fIa.1
  rw [if_neg (fun s => s h20)] at hq
  have fIb := fIa.tr fb (Nat.le_refl _) (Nat.le_refl _) (Nat.le_refl _) (Nat.le_refl _)
  have hwb : WFz nt (d + 1) (adv z1) := wf_adv ht hw1 (by omega)
  have hr2 := hP hd _ hwb
  refine hex hd _ Ib Lb Q oc hwb gb ?_
  cases hx2 : rec 0 (d + 1) (adv z1) with
  | inl t => rw [hx2] at hq; exact mF.fr (M := t) hq fIb.1
  | inr q2 =>
  obtain ⟨r2, z2⟩ := q2
  rw [hx2] at hq hr2
  have hr2 : PSI (xk tp n) (xp tp n) nt (adv z1) 0 (d + 1) r2 z2 := hr2
  replace hq : mQ tp n (e + 6) S R Q 0 d oc z I L (if xk tp n (z2 30 4) ≠ 21 then flt (xp tp n) z2 else rb (rec 0 (d + 1) (adv z2)) fun r3 z3 => .inr (z 30 0, zif z1 z2 z3 (z 30 0) r1 r2 r3)) := hq
  have hw2 := wf_psi hwb hr2
  have v32 := hw2.2.1
  have rr2 := hr2.2.2.1.1
  have nr2 : z1 30 3 ≤ z2 6 r2 ∧ z2 6 r2 < z2 30 3 ∧ z2 31 (z2 6 r2) = r2 := (hr2.2.2.1.2.2.1 r2 rr2.1 rr2.2.1).2.1
  have w23 : z1 30 3 ≤ z2 30 3 := hr2.1.1.2.2.1
  have w22 : z1 30 2 ≤ z2 30 2 := hr2.1.1.2.2.2.1
  refine mQ_mk (fun h => ?_) (fun Ic Lc mx2 fc => ?_)
  · rw [if_pos (fun s => by rw [s] at h; exact absurd h.2 (by decide))] at hq
    exact mF.fr (M := xp tp n (z2 30 4)) hq fIb.1
  replace fc : frP (z1 30 3) (z1 30 2) (d + 1 + 1) oc Ib Ic Lb Lc := fc
  have fIc : frP (z 30 3) (z 30 2) (d + 1) oc I Ic L Lc := fIb.tr fc (by omega) (by omega) (by omega) (Nat.le_refl _)
  refine m_mid (M0 := z 30 3) (B := z 30 2) hS hR ht hd mx2 v32 nr2.2.1 c80 (Or.inr rfl) (fO_fr fob fc (by omega)) (by omega) (Nat.le_refl _) (by omega) (fun h => ?_) (fun h21 Id Ld gd fod rd1 ld1 fd => ?_)
  · rw [if_pos h] at hq
    exact mF.fr (M := xp tp n (z2 30 4)) hq fIc.1
  rw [if_neg (fun s => s h21)] at hq
  have fId := fIc.tr fd (Nat.le_refl _) (Nat.le_refl _) (Nat.le_refl _) (Nat.le_refl _)
  have hwd : WFz nt (d + 1) (adv z2) := wf_adv ht hw2 (by omega)
  have hr3 := hP hd _ hwd
  refine hex hd _ Id Ld Q oc hwd gd ?_
  cases hx3 : rec 0 (d + 1) (adv z2) with
  | inl t => rw [hx3] at hq; exact mF.fr (M := t) hq fId.1
  | inr q3 =>
  obtain ⟨r3, z3⟩ := q3
  rw [hx3] at hq hr3
  have hr3 : PSI (xk tp n) (xp tp n) nt (adv z2) 0 (d + 1) r3 z3 := hr3
  replace hq : mQ tp n (e + 6) S R Q 0 d oc z I L (.inr (z 30 0, zif z1 z2 z3 (z 30 0) r1 r2 r3)) := hq
  have hw3 := wf_psi hwd hr3
  have v33 := hw3.2.1
  have rr3 := hr3.2.2.1.1
  have nr3 : z2 30 3 ≤ z3 6 r3 ∧ z3 6 r3 < z3 30 3 ∧ z3 31 (z3 6 r3) = r3 := (hr3.2.2.1.2.2.1 r3 rr3.1 rr3.2.1).2.1
  have w33 : z2 30 3 ≤ z3 30 3 := hr3.1.1.2.2.1
  have et : zif z1 z2 z3 (z 30 0) r1 r2 r3 30 4 = z3 30 4 := zif_o (by decide) (by decide) (by decide) (by decide) (by decide) (by decide)
  refine mQ_mk (fun h => ?_) (fun Ie Le mx3 fe => ?_)
  · have hdm := mQ_dm hq ⟨by decide, h.2⟩
    exact mF.fr (M := xp tp n (z3 30 4)) hdm fId.1
  replace fe : frP (z2 30 3) (z2 30 2) (d + 1 + 1) oc Id Ie Ld Le := fe
  have fIe : frP (z 30 3) (z 30 2) (d + 1) oc I Ie L Le := fId.tr fe (by omega) (by omega) (by omega) (Nat.le_refl _)
  obtain ⟨o1, o2, o3, o4, o5⟩ := fO_fr fod fe (by omega)
  refine m_ends (s := 4) (nv := nI (z 30 3)) hS hR ht (by omega) v33 mx3 nr3.2.1 (by omega) o4 o1 (by omega) o2 (fun K I0 hka g0 e0 => ?_)
  have f0k : frK Ie I0 Le Le := by rw [e0]; exact frK_40 (by omega)
  have fo0 : fO I0 (d + 1) 4 (nI (z 30 3)) 1000 oc (xp tp n (z 30 4)) := ⟨by rw [f0k.1 117 (by decide)]; exact o1, by rw [f0k.1 118 (by decide)]; exact o2, by rw [f0k.1 120 (by decide)]; exact o3, by rw [f0k.1 121 (by decide)]; exact o4, by rw [f0k.1 122 (by decide)]; exact o5⟩
  show lw (e + 5) 167 (lm_J 167 266) _ _ _ _
  rw [cb_167_266]
  simp (disch := omega) only [lk_v, lk_n, lm_isI_i, lm_isL_l, lm_isR_r, lm_vi_i, lwx_aload_0, lwx_aload_1, lwx_aload_2, lwx_aload_3, lw_iconst, lwx_invokevirtual_3, lw_getI, lw_getL, lw_getR, lw_getZ, lwx_istore_0, lwx_istore_1, lwx_istore_2, lwx_istore_3, lw_isub, lwx_iload_0, lwx_iload_1, lwx_iload_2, lwx_iload_3, lw_iaload, lw_if_eq, lwx_invokevirtual_2, lw_if_ne, lw_iret, lw_iastore, lw_putI, lw_putL, lw_putR, lw_putZ, lw_laload, lw_l2i, lwx_invokevirtual_1, lw_icmp_ne, lw_ldc2, lw_goto, lw_lcmp, lw_dup2, lw_dup2r, lw_iadd, lw_bipush, lwx_invokevirtual_4, List.getD_cons_zero, List.getD_cons_succ, lm_set1, lm_set2, lm_cut, List.getElem?_cons_zero, List.getElem?_cons_succ, List.set_cons_zero, List.set_cons_succ, List.length_cons, List.length_nil, List.map_cons, List.map_nil, List.sum_cons, List.sum_nil, Value.category, Nat.reduceAdd, Nat.reduceDiv, Nat.reduceMod, Nat.reduceLT, Nat.reduceLeDiff, Nat.reduceMul, Int.toNat_natCast, Int.reduceToNat, true_and, and_true, lm_rok_1, lm_rok_20, lm_rok_21, lm_rok_0, lm_args, lm_ent, List.nil_append, List.cons_append, List.replicate, Nat.reduceSub, if_false, if_true, reduceCtorEq, Nat.reduceEqDiff, Bool.or_true, Bool.true_or, Bool.or_false, Bool.false_or, Bool.and_true, Bool.true_and, BEq.rfl, beq_self_eq_true, kb_m94, kb_m92, kb_m63, kb_m46, kb_m45, kb_m42, kb_m41, kb_m33, kb_m10, kb_m9, kb_m4, kb_m3, kb_m2, zkb_6, zkb_7, zkb_8, zkb_9, zkb_10, zkb_11, zkb_12, zkb_13, zkb_14, zkb_15, zkb_16, zkb_17, zkb_18, zkb_19, zkb_20, zkb_21, zkb_22, zkb_23, zkb_24, zkb_26, zkb_32, zkb_33, zkb_34, zkb_38, zkb_40, zkb_41, zkb_43, zkb_44, zkb_45, zkb_46, zkb_48, zkb_57, zkb_58, zkb_59, zkb_60, zkb_61, zkb_62, zkb_64, zkb_80, zkb_81, zkb_91, zkb_92, zkb_93, zkb_97, zkb_100, zkb_104, zkb_122, zkb_126, ki_m8, ki_m2, ki_m1, zki_0, zki_1, zki_2, zki_3, zki_4, zki_5, zks_160, zks_168, zks_240, zks_242, zks_255, zks_264, zks_300, zks_320, zks_500, zks_600, zks_625, zks_626, zks_1200, zks_1256, zks_2000, zks_2504, zks_3040, zks_4000, zks_6000, zks_12000, kl_0, kl_1, z_lt, z_le, z_eq, z_eq0, z_eq1, z_lt0, z_le0, z_0lt, z_0le, z_add, z_sub, z_add1, z_addn, z_addm, z_mul, z_cl, z_n9, z_n9s, z_n90, z_ne9, z_ne9s, z_lt_t, z_lt_f, z_le_t, z_le_f, z_eq_t, z_eq_f, z_pus, z_pun, z_row, or_self, or_false, false_or, true_or, or_true, and_self, and_false, false_and, not_true_eq_false, not_false_eq_true, false_implies, true_implies, implies_true, ne_eq, lm_row_s, lm_row_row, lm_up_row, rc_s, Classical.not_not, Nat.add_sub_cancel, i10, z_on, rok2_0, rok2_1, ml_167, rt_167, cb_167_72, cb_167_89, cb_167_108, cb_167_158, cb_167_186, cb_167_189, cb_167_193, cb_167_195, cb_167_215, cb_167_222, cb_167_266, cb_167_300, cb_167_307, cb_167_318, cb_167_347, rc_mod hS, sh_96 hS, sh_104 hS, sh_105 hS, rf_96_15 hR, rf_96_16 hR, rf_96_96 hR]
  obtain ⟨I9, e9⟩ : ∃ I9, I9 = lkM I0 104 (z 30 3) (z3 6 r3) := ⟨_, rfl⟩
  obtain ⟨b1, b2', b3, b4, b5⟩ := lkM_f (I := I0) (c := 104) (M := z 30 3) (v := z3 6 r3) (Or.inr (Or.inr rfl))
  have h9 : ∀ o, o ≠ 96 → I9 o = lkM I0 104 (z 30 3) (z3 6 r3) o := fun o h => by rw [e9]
  have h96 : ∀ k, k ≠ 41 → I9 96 k = I0 96 k := fun k h => by rw [e9, b1 96 (by decide) (by decide)]
  have h41 : I9 96 41 = sM z3 (zif z1 z2 z3 (z 30 0) r1 r2 r3 30 6) := by
    rw [e9, b1 96 (by decide) (by decide), zif_o (by decide) (by decide) (by decide) (by decide) (by decide) (by decide)]
    exact g0.2.1.2.2.2.2.2.2.2
  change lc (e + 5) 166 _ (S, lkM I0 104 (z 30 3) (z3 6 r3), Le, R) _
  rw [← e9]
  refine k_166 (op := d + 1) (d := d) (s := 4) hS hR (by rw [h96 31 (by decide)]; exact g0.2.1.2.2.2.2.2.2.1) (by omega) (by rw [h96 38 (by decide)]; exact g0.2.1.2.2.2.2.2.1) (by omega) (by rw [h9 117 (by decide), b1 117 (by decide) (by decide)]; exact fo0.1) (by omega) (fun Ip hp => ?_)
  obtain ⟨gf, ⟨k39, k40, k43, k47⟩, fro, frf⟩ := fin_st (z' := zif z1 z2 z3 (z 30 0) r1 r2 r3) (M0 := z 30 3) (B := z 30 2) (op := d + 1) (c := 104) (M := z 30 3) (v := z3 6 r3) g0 (Or.inr (Or.inr rfl)) h9 h96 h41 fo0 hp (fun k k1 k2 => zif_o (by decide) (by decide) (by decide) (by decide) (by decide) (by decide)) (fun c b p q => zif_o (by omega) (by omega) (by omega) (by omega) (by omega) (by omega)) (Nat.le_refl _) (by omega)
  simp (disch := omega) only [lk_v, lk_n, lm_isI_i, lm_isL_l, lm_isR_r, lm_vi_i, lwx_aload_0, lwx_aload_1, lwx_aload_2, lwx_aload_3, lw_iconst, lwx_invokevirtual_3, lw_getI, lw_getL, lw_getR, lw_getZ, lwx_istore_0, lwx_istore_1, lwx_istore_2, lwx_istore_3, lw_isub, lwx_iload_0, lwx_iload_1, lwx_iload_2, lwx_iload_3, lw_iaload, lw_if_eq, lwx_invokevirtual_2, lw_if_ne, lw_iret, lw_iastore, lw_putI, lw_putL, lw_putR, lw_putZ, lw_laload, lw_l2i, lwx_invokevirtual_1, lw_icmp_ne, lw_ldc2, lw_goto, lw_lcmp, lw_dup2, lw_dup2r, lw_iadd, lw_bipush, lwx_invokevirtual_4, List.getD_cons_zero, List.getD_cons_succ, lm_set1, lm_set2, lm_cut, List.getElem?_cons_zero, List.getElem?_cons_succ, List.set_cons_zero, List.set_cons_succ, List.length_cons, List.length_nil, List.map_cons, List.map_nil, List.sum_cons, List.sum_nil, Value.category, Nat.reduceAdd, Nat.reduceDiv, Nat.reduceMod, Nat.reduceLT, Nat.reduceLeDiff, Nat.reduceMul, Int.toNat_natCast, Int.reduceToNat, true_and, and_true, lm_rok_1, lm_rok_20, lm_rok_21, lm_rok_0, lm_args, lm_ent, List.nil_append, List.cons_append, List.replicate, Nat.reduceSub, if_false, if_true, reduceCtorEq, Nat.reduceEqDiff, Bool.or_true, Bool.true_or, Bool.or_false, Bool.false_or, Bool.and_true, Bool.true_and, BEq.rfl, beq_self_eq_true, kb_m94, kb_m92, kb_m63, kb_m46, kb_m45, kb_m42, kb_m41, kb_m33, kb_m10, kb_m9, kb_m4, kb_m3, kb_m2, zkb_6, zkb_7, zkb_8, zkb_9, zkb_10, zkb_11, zkb_12, zkb_13, zkb_14, zkb_15, zkb_16, zkb_17, zkb_18, zkb_19, zkb_20, zkb_21, zkb_22, zkb_23, zkb_24, zkb_26, zkb_32, zkb_33, zkb_34, zkb_38, zkb_40, zkb_41, zkb_43, zkb_44, zkb_45, zkb_46, zkb_48, zkb_57, zkb_58, zkb_59, zkb_60, zkb_61, zkb_62, zkb_64, zkb_80, zkb_81, zkb_91, zkb_92, zkb_93, zkb_97, zkb_100, zkb_104, zkb_122, zkb_126, ki_m8, ki_m2, ki_m1, zki_0, zki_1, zki_2, zki_3, zki_4, zki_5, zks_160, zks_168, zks_240, zks_242, zks_255, zks_264, zks_300, zks_320, zks_500, zks_600, zks_625, zks_626, zks_1200, zks_1256, zks_2000, zks_2504, zks_3040, zks_4000, zks_6000, zks_12000, kl_0, kl_1, z_lt, z_le, z_eq, z_eq0, z_eq1, z_lt0, z_le0, z_0lt, z_0le, z_add, z_sub, z_add1, z_addn, z_addm, z_mul, z_cl, z_n9, z_n9s, z_n90, z_ne9, z_ne9s, z_lt_t, z_lt_f, z_le_t, z_le_f, z_eq_t, z_eq_f, z_pus, z_pun, z_row, or_self, or_false, false_or, true_or, or_true, and_self, and_false, false_and, not_true_eq_false, not_false_eq_true, false_implies, true_implies, implies_true, ne_eq, lm_row_s, lm_row_row, lm_up_row, rc_s, Classical.not_not, Nat.add_sub_cancel, i10, z_on, rok2_0, rok2_1, ml_167, rt_167, cb_167_72, cb_167_89, cb_167_108, cb_167_158, cb_167_186, cb_167_189, cb_167_193, cb_167_195, cb_167_215, cb_167_222, cb_167_266, cb_167_300, cb_167_307, cb_167_318, cb_167_347, sh_96 hS, rc_mod hS]
  rw [show e + 5 = e + 4 + 1 from rfl, lc_succ, cb_168]
  simp (disch := omega) only [lk_v, lk_n, lm_isI_i, lm_isL_l, lm_isR_r, lm_vi_i, lwx_aload_0, lwx_aload_1, lwx_aload_2, lwx_aload_3, lw_iconst, lw_putI, lw_putL, lw_putR, lw_putZ, lw_iret, lwx_invokevirtual_3, lw_getI, lw_getL, lw_getR, lw_getZ, lwx_istore_0, lwx_istore_1, lwx_istore_2, lwx_istore_3, lw_isub, lwx_iload_0, lwx_iload_1, lwx_iload_2, lwx_iload_3, lw_iaload, lw_if_eq, lwx_invokevirtual_2, lw_if_ne, lw_iastore, lw_laload, lw_l2i, lwx_invokevirtual_1, lw_icmp_ne, lw_ldc2, lw_goto, lw_lcmp, lw_dup2, lw_dup2r, lw_iadd, lw_bipush, lwx_invokevirtual_4, List.getD_cons_zero, List.getD_cons_succ, lm_set1, lm_set2, lm_cut, List.getElem?_cons_zero, List.getElem?_cons_succ, List.set_cons_zero, List.set_cons_succ, List.length_cons, List.length_nil, List.map_cons, List.map_nil, List.sum_cons, List.sum_nil, Value.category, Nat.reduceAdd, Nat.reduceDiv, Nat.reduceMod, Nat.reduceLT, Nat.reduceLeDiff, Nat.reduceMul, Int.toNat_natCast, Int.reduceToNat, true_and, and_true, lm_rok_1, lm_rok_20, lm_rok_21, lm_rok_0, lm_args, lm_ent, List.nil_append, List.cons_append, List.replicate, Nat.reduceSub, if_false, if_true, reduceCtorEq, Nat.reduceEqDiff, Bool.or_true, Bool.true_or, Bool.or_false, Bool.false_or, Bool.and_true, Bool.true_and, BEq.rfl, beq_self_eq_true, kb_m94, kb_m92, kb_m63, kb_m46, kb_m45, kb_m42, kb_m41, kb_m33, kb_m10, kb_m9, kb_m4, kb_m3, kb_m2, zkb_6, zkb_7, zkb_8, zkb_9, zkb_10, zkb_11, zkb_12, zkb_13, zkb_14, zkb_15, zkb_16, zkb_17, zkb_18, zkb_19, zkb_20, zkb_21, zkb_22, zkb_23, zkb_24, zkb_26, zkb_32, zkb_33, zkb_34, zkb_38, zkb_40, zkb_41, zkb_43, zkb_44, zkb_45, zkb_46, zkb_48, zkb_57, zkb_58, zkb_59, zkb_60, zkb_61, zkb_62, zkb_64, zkb_80, zkb_81, zkb_91, zkb_92, zkb_93, zkb_97, zkb_100, zkb_104, zkb_122, zkb_126, ki_m8, ki_m2, ki_m1, zki_0, zki_1, zki_2, zki_3, zki_4, zki_5, zks_160, zks_168, zks_240, zks_242, zks_255, zks_264, zks_300, zks_320, zks_500, zks_600, zks_625, zks_626, zks_1200, zks_1256, zks_2000, zks_2504, zks_3040, zks_4000, zks_6000, zks_12000, kl_0, kl_1, z_lt, z_le, z_eq, z_eq0, z_eq1, z_lt0, z_le0, z_0lt, z_0le, z_add, z_sub, z_add1, z_addn, z_addm, z_mul, z_cl, z_n9, z_n9s, z_n90, z_ne9, z_ne9s, z_lt_t, z_lt_f, z_le_t, z_le_f, z_eq_t, z_eq_f, z_pus, z_pun, z_row, or_self, or_false, false_or, true_or, or_true, and_self, and_false, false_and, not_true_eq_false, not_false_eq_true, false_implies, true_implies, implies_true, ne_eq, lm_row_s, lm_row_row, lm_up_row, rc_s, Classical.not_not, Nat.add_sub_cancel, i10, z_on, rok2_0, rok2_1, ml_168, rt_168, ml_167, rt_167, cb_167_72, cb_167_89, cb_167_108, cb_167_158, cb_167_186, cb_167_189, cb_167_193, cb_167_195, cb_167_215, cb_167_222, cb_167_266, cb_167_300, cb_167_307, cb_167_318, cb_167_347, sh_96 hS, rc_mod hS]
  have ms1 := mx1.2.2.1
  rw [f0] at ms1
  have e6 : zif z1 z2 z3 (z 30 0) r1 r2 r3 6 (z 30 0) = z 30 3 := by
    have q1 := hr1.1.1.2.1
    have q2 : z1 30 0 ≤ z2 30 0 := hr2.1.1.2.1
    rw [zif_o (by decide) (by decide) (by decide) (by decide) (by decide) (by decide), hr3.1.2.1 6 _ (by decide) (show z 30 0 < z2 30 0 by omega), adv_n (by omega), hr2.1.2.1 6 _ (by decide) (show z 30 0 < z1 30 0 by omega), adv_n (by omega), hr1.1.2.1 6 _ (by decide) (by omega), adv_n (by omega)]
    exact NEW_zk.1.1.2.1
  have rowE : ∀ o m, 99 ≤ o → o ≤ 109 → m < z2 30 3 → (m ≠ z 30 3 ∨ o ≠ 104) → fiM Ip (z 30 3) o m = thM Ic 3 (d + 1) (z 30 3) (z2 6 r2) (nI (xp tp n (z2 30 4))) o m := fun o m p q w w2 => by rw [fro o (by omega), lkM_r (Or.inr (Or.inr rfl)) w2 (by omega), f0k.1 o (by omega), fe.2.2.1.1 o m p q w, rd1 o p q]
  have rowC : ∀ o m, 99 ≤ o → o ≤ 109 → m < z1 30 3 → (m ≠ z 30 3 ∨ (o ≠ 104 ∧ o ≠ 103)) → fiM Ip (z 30 3) o m = thM Ia 2 (d + 1) (z 30 3) (z1 6 r1) (nI (xp tp n (z1 30 4))) o m := fun o m p q w w2 => by rw [rowE o m p q (by omega) (by omega), thM_r (Or.inr rfl) p q (by omega) (by omega), fc.2.2.1.1 o m p q w, rb1 o p q]
  have rowA : ∀ o, 99 ≤ o → o ≤ 109 → (o ≠ 104 ∧ o ≠ 103 ∧ o ≠ 102) → fiM Ip (z 30 3) o (z 30 3) = I1 o (z 30 3) := fun o p q w => by rw [rowC o _ p q (by omega) (by omega), thM_r (Or.inl rfl) p q (by omega) (by omega), fa.2.2.1.1 o _ p q (by omega)]
  obtain ⟨-, -, -, -, t25, -, ⟨t271, t272⟩, -, -⟩ := thM_f (I := Ia) (s := 2) (h := d + 1) (M := z 30 3) (v := z1 6 r1) (p := nI (xp tp n (z1 30 4))) (Or.inl rfl)
  obtain ⟨-, -, -, -, t35, -, ⟨t371, t372⟩, -, -⟩ := thM_f (I := Ic) (s := 3) (h := d + 1) (M := z 30 3) (v := z2 6 r2) (p := nI (xp tp n (z2 30 4))) (Or.inr rfl)
  obtain ⟨⟨u1, u2, u3, u4, u5⟩, u6, u7, u8, u9, u10⟩ := nw
  have gS : SGm (xp tp n) (xy tp n) (fiM Ip (z 30 3)) Le (zif z1 z2 z3 (z 30 0) r1 r2 r3) (z 30 0) (z3 30 0) (z 30 0) (-9) := by
    refine masm_if hw hr1 hr2 hr3 ms1 mx2.2.2.1 mx3.2.2.1 (fun o m p q w w2 w3 => ?_) (fun m w w2 => ?_) (fun o m p q w w2 w3 => ?_) (fun m w w2 => ?_) (fun o m p q w w2 => ?_) (fun m w => rfl) ⟨?_, ?_, ?_⟩ ⟨?_, ?_⟩ ⟨?_, ?_, ?_, ?_, ?_, ?_, ?_, ?_, ?_⟩
    · rw [rowC o m p q w2 (by omega), thM_r (Or.inl rfl) p q (by omega) w3]
    · rw [fe.2.2.2.1 m (by omega), ld1, fc.2.2.2.1 m w2, lb1]
    · rw [rowE o m p q w2 (by omega), thM_r (Or.inr rfl) p q (by omega) w3]
    · rw [fe.2.2.2.1 m w2, ld1]
    · rw [fro o (by omega), lkM_r (Or.inr (Or.inr rfl)) (by omega) w2, f0k.1 o (by omega)]
    · rw [rowC 105 _ (by decide) (by decide) nr1.2.1 (by omega)]; exact t271
    · rw [rowE 105 _ (by decide) (by decide) nr2.2.1 (by omega)]; exact t371
    · rw [fro 105 (by decide)]; exact b5
    · rw [rowC 108 _ (by decide) (by decide) nr1.2.1 (by omega)]; exact t272
    · rw [rowE 108 _ (by decide) (by decide) nr2.2.1 (by omega)]; exact t372
    · rw [rowA 99 (by decide) (by decide) (by decide)]; exact u1
    · rw [rowA 100 (by decide) (by decide) (by decide)]; exact u2
    · rw [rowC 102 _ (by decide) (by decide) (by omega) (by omega)]; exact t25
    · rw [rowE 103 _ (by decide) (by decide) (by omega) (by omega)]; exact t35
    · rw [fro 104 (by decide)]; exact b3
    · rw [rowA 105 (by decide) (by decide) (by decide)]; exact u9
    · rw [rowA 106 (by decide) (by decide) (by decide)]; exact u3
    · rw [rowA 107 (by decide) (by decide) (by decide)]; exact u4
    · rw [rowA 109 (by decide) (by decide) (by decide)]; exact u5
  have fall : frP (z 30 3) (z 30 2) (d + 1) oc I (fiM Ip (z 30 3)) L Le := (fIe.tr f0k.m (Nat.le_refl _) (Nat.le_refl _) (Nat.le_refl _) (Nat.le_refl _)).tr frf (Nat.le_refl _) (Nat.le_refl _) (Nat.le_refl _) (Nat.le_refl _)
  have tkx := mx3.2.2.2
  refine hka.2 _ _ (mQ_ok (mQ.fr hq fall) ⟨gf, ⟨k39.trans (by rw [e6]), k40, k43, 1, Nat.le_refl _, k47, fun h => absurd h (by decide)⟩, ?_, ?_⟩ (fun h => ?_))
  · rw [zif_o (by decide) (by decide) (by decide) (by decide) (by decide) (by decide)]
    exact gS
  · rw [et]; exact tkx
  · have h2 := h.2
    rw [et] at h2
    have := tkx.2
    omega
end MIF3
