section MLEV5
variable {tp : Nat → Nat} {n nt e k M d oc base lt cv cb B op w : Nat} {S : lm_S} {I I' I1 I2 : lm_I} {L L' L1 L2 : lm_L} {R : lm_R} {Q K : Option Value → lm_M → Prop} {z zL zR : Zt} {rec : Nat → Nat → Zt → Rs}
theorem kA_172' (hS : lp_shape S) {v1 : Value} : kA (e + 6) S R Q (lk (e + 6) 172 ((199, .istore_n 1) :: (200, .goto 254) :: lm_J 172 203) [.ref 96, v1] [] Q) := kA_172 (ls := []) hS
theorem wf_k3' (hw : WFz nt d z) (hm : z 30 3 < 80) : WFz nt d (zk (xp tp n) z 3 d) := wf_k3 hw hm
/-- arguments -/
theorem m_lpC (hS : lp_shape S) (hR : lp_refs R) (ht : tko (xk tp n) (xp tp n) nt) (hw : WFz nt d z) (hP : ∀ z, WFz nt d z → PST (xk tp n) (xp tp n) nt z 6 d (rec 6 d z)) (hfl : ∀ z, (bga (xk tp n (z 30 4)) = false ∨ (6 ≤ xk tp n (z 30 4) ∧ d = 20)) → rec 6 d z = flt (xp tp n) z)
    (hat : ∀ z I L Q oc cb e1 K, WFz nt d z → mA tp n d oc cb I L z → kA (e + 6) S R Q K → mQA tp n (e + 6) S R Q d oc cb z I L (rec 6 d z) → lw (e1 + 4) 165 (lm_J 165 39) [.ref 96, .null] [] (S, I, L, R) (fun v M' => lm_rok 2 v = true ∧ K v M')) :
    ∀ (m w : Nat) (zL : Zt) I1 L1, 243 ≤ m + zL 30 4 → PSI (xk tp n) (xp tp n) nt z 5 d w zL → mST tp n I1 L1 d zL → (I1 96 39 = nI (zL 6 w) ∧ I1 96 40 = -9 ∧ I1 96 43 = nI oc ∧ I1 96 47 = nI 0) → SGm (xp tp n) (xy tp n) I1 L1 zL (z 30 0) (zL 30 0) w (-9) → oc ≤ zL 30 3 → mQ tp n (e + 6) S R Q 5 d oc z I1 L1 (lpC (xk tp n) (xp tp n) rec d m w zL) → hdQ (e + 6) S R Q I1 L1 := by
  intro m
  induction m with
  | zero =>
    intro w zL I1 L1 hm hL
    have := hL.2.1.2.1
    have := ht.1
    omega
  | succ m ih =>
    intro w zL I1 L1 hm hL g gx gS hoc hq
    obtain ⟨g39, g40, g43, g47⟩ := gx
    have e1 : lpC (xk tp n) (xp tp n) rec d (m + 1) w zL = if bga (xk tp n (zL 30 4)) = false then .inr (w, zL) else if 80 ≤ zL 30 3 then flt (xp tp n) zL else rb (rec 6 d (zk (xp tp n) zL 3 d)) fun r z1 => lpC (xk tp n) (xp tp n) rec d m (zL 30 0) (zu (zlk (zlk z1 1 (zL 30 0) w) 2 (zL 30 0) r) 12 (zL 30 0) (z1 30 0 - 1)) := rfl
    rw [e1] at hq
    by_cases hb : bga (xk tp n (zL 30 4)) = false
    · rw [if_pos hb] at hq
      exact mQ_ok hq ⟨g, ⟨g39, g40, g43, 0, by omega, g47, fun _ => rfl⟩, gS, hb, Or.inl (lvo_5 _)⟩ (by omega)
    · rw [if_neg hb] at hq
      have hb : bga (xk tp n (zL 30 4)) = true := by cases hh : bga (xk tp n (zL 30 4)) with | true => rfl | false => exact absurd hh hb
      have hwL := wf_psi hw hL
      have k23 := (ht.2.2.2 (zL 30 4)).1
      have hp := (ht.2.2.2 (zL 30 4)).2
      have hw1 := hL.2.2.1.1
      have nw := (hL.2.2.1.2.2.1 w hw1.1 hw1.2.1).2.1
      have v3 := hwL.2.1
      have v4 := hwL.2.2.2.1
      have h31 := g.2.1.2.2.2.2.2.2.1
      have tk := mST_tM g k23
      have n9 := z_n9c (show zL 6 w < 1000 by omega)
      intro v1
      have hka := kA_172' (e := e) (Q := Q) (R := R) (v1 := v1) hS
      rw [cb_172_152]
      simp (disch := omega) only [lk_v, lk_n, lm_isI_i, lm_isL_l, lm_isR_r, lm_vi_i, lwx_aload_0, lwx_aload_1, lwx_aload_2, lwx_aload_3, lwx_invokevirtual_1, lw_if_eq, lw_getI, lw_getL, lw_getR, lw_getZ, lw_bipush, lw_icmp_ne, lw_iconst, lw_iret, lw_dup_i, lw_dup_r, lw_iadd, lw_putI, lw_putL, lw_putR, lw_putZ, lw_isub, lwx_invokevirtual_3, lw_iastore, lwx_istore_0, lwx_istore_1, lwx_istore_2, lwx_istore_3, lw_goto, lwx_invokevirtual_2, lw_if_ne, lw_if_le, lw_icmp_eq, lwx_iload_0, lwx_iload_1, lwx_iload_2, lwx_iload_3, List.getD_cons_zero, List.getD_cons_succ, lm_set1, lm_set2, lm_cut, List.getElem?_cons_zero, List.getElem?_cons_succ, List.set_cons_zero, List.set_cons_succ, List.length_cons, List.length_nil, List.map_cons, List.map_nil, List.sum_cons, List.sum_nil, Value.category, Nat.reduceAdd, Nat.reduceDiv, Nat.reduceMod, Nat.reduceLT, Nat.reduceLeDiff, Nat.reduceMul, Int.toNat_natCast, Int.reduceToNat, true_and, and_true, lm_rok_1, lm_rok_20, lm_rok_21, lm_rok_0, lm_args, lm_ent, List.nil_append, List.cons_append, List.replicate, Nat.reduceSub, if_false, if_true, reduceCtorEq, Nat.reduceEqDiff, Bool.or_true, Bool.true_or, Bool.or_false, Bool.false_or, Bool.and_true, Bool.true_and, BEq.rfl, beq_self_eq_true, kb_m94, kb_m92, kb_m63, kb_m46, kb_m45, kb_m42, kb_m41, kb_m33, kb_m10, kb_m9, kb_m4, kb_m3, kb_m2, zkb_6, zkb_7, zkb_8, zkb_9, zkb_10, zkb_11, zkb_12, zkb_13, zkb_14, zkb_15, zkb_16, zkb_17, zkb_18, zkb_19, zkb_20, zkb_21, zkb_22, zkb_23, zkb_24, zkb_26, zkb_32, zkb_33, zkb_34, zkb_38, zkb_40, zkb_41, zkb_43, zkb_44, zkb_45, zkb_46, zkb_48, zkb_57, zkb_58, zkb_59, zkb_60, zkb_61, zkb_62, zkb_64, zkb_80, zkb_81, zkb_91, zkb_92, zkb_93, zkb_97, zkb_100, zkb_104, zkb_122, zkb_126, ki_m8, ki_m2, ki_m1, zki_0, zki_1, zki_2, zki_3, zki_4, zki_5, zks_160, zks_168, zks_240, zks_242, zks_255, zks_264, zks_300, zks_320, zks_500, zks_600, zks_625, zks_626, zks_1200, zks_1256, zks_2000, zks_2504, zks_3040, zks_4000, zks_6000, zks_12000, kl_0, kl_1, z_lt, z_le, z_eq, z_eq0, z_eq1, z_lt0, z_le0, z_0lt, z_0le, z_add, z_sub, z_add1, z_addn, z_addm, z_mul, z_cl, z_n9, z_n9s, z_n90, z_ne9, z_ne9s, z_lt_t, z_lt_f, z_le_t, z_le_f, z_eq_t, z_eq_f, z_pus, z_pun, z_row, or_self, or_false, false_or, true_or, or_true, and_self, and_false, false_and, not_true_eq_false, not_false_eq_true, false_implies, true_implies, implies_true, ne_eq, lm_row_s, lm_row_row, lm_up_row, rc_s, Classical.not_not, Nat.add_sub_cancel, i10, z_on, rok2_0, rok2_1, ml_172, rt_172, cb_172_16, cb_172_18, cb_172_68, cb_172_93, cb_172_103, cb_172_181, cb_172_244, cb_172_254, cb_172_260, cb_172_263, sh_96 hS, rc_mod hS, h31, g39, g47, n9, c_164t hS tk hb]
      generalize lk (e + 6) 172 ((199, .istore_n 1) :: (200, .goto 254) :: lm_J 172 203) [.ref 96, v1] [] Q = K at *
      by_cases h6 : 6 ≤ xk tp n (zL 30 4) ∧ d = 20
      · refine k_165f hS hR g hwL.2.2.2.1 k23 (Or.inr h6) (hka.1 _ _ ?_)
        have hF : mF S R Q I1 L1 (xp tp n (zL 30 4)) := by
          by_cases c80 : 80 ≤ zL 30 3
          · rw [if_pos c80] at hq; exact hq
          · rw [if_neg c80, hfl _ (Or.inr (by rw [zk_30 (by decide) (by decide)]; exact h6))] at hq
            have hq : mF S R Q I1 L1 (xp tp n (zk (xp tp n) zL 3 d 30 4)) := hq
            rw [zk_30 (by decide) (by decide)] at hq
            exact hq
        exact hF I1 L1 g.1.2.1 frD.rf
      · have h6' : 6 ≤ xk tp n (zL 30 4) → d < 20 := fun q => by have := hwL.2.2.2.1; omega
        by_cases c80 : 80 ≤ zL 30 3
        · rw [if_pos c80] at hq
          exact k_165cf hS hR g hwL.2.2.2.1 k23 g39 (by omega) (by omega) hb h6' (fun I' a b => hka.1 _ _ (hq I' L1 a b))
        · rw [if_neg c80] at hq
          refine k_165c hS hR g hwL.2.2.2.1 k23 g39 (by omega) (by omega) ⟨hwL.2.2.2.2.1.2.2.1, hwL.2.2.2.2.1.2.2.2⟩ hp g43 g47 hoc hb h6' (fun I2 L2 a nwm c2 fr frL fP => ?_)
          have hwk := wf_k3' (tp := tp) (n := n) hwL (show zL 30 3 < 80 by omega)
          have hr0 := hP _ hwk
          have f0 : frP (z 30 3) (z 30 2) (d + 1) oc I1 I2 L1 L2 := fP.le (by omega) hL.1.1.2.2.2.1 (Nat.le_refl _) (Nat.le_refl _)
          refine hat _ I2 L2 Q oc (zL 30 3) (e + 1) K hwk a hka ?_
          cases hx : rec 6 d (zk (xp tp n) zL 3 d) with
          | inl t =>
            rw [hx] at hq
            exact mF.fr (M := t) hq fP.1
          | inr q =>
            obtain ⟨r, zR⟩ := q
            rw [hx] at hq hr0
            have hr0 : PSI (xk tp n) (xp tp n) nt (zk (xp tp n) zL 3 d) 6 d r zR := hr0
            replace hq : mQ tp n (e + 6) S R Q 5 d oc z I1 L1 (lpC (xk tp n) (xp tp n) rec d m (zL 30 0) (zu (zlk (zlk zR 1 (zL 30 0) w) 2 (zL 30 0) r) 12 (zL 30 0) (zR 30 0 - 1))) := hq
            intro I3 L3 mx f3
            have mx : mXA tp n d oc (zL 30 3) I3 L3 (zk (xp tp n) zL 3 d) r zR := mx
            obtain ⟨b1, ⟨b39, b40, b43, b47⟩, bS, b103⟩ := mx
            rw [if_pos (by omega)] at b39
            have b103 := b103 (by omega)
            have x0 : zk (xp tp n) zL 3 d 30 0 = zL 30 0 + 1 := zk_0
            have x3 : zk (xp tp n) zL 3 d 30 3 = zL 30 3 + 1 := zk_3
            have x2 : zk (xp tp n) zL 3 d 30 2 = zL 30 2 := zk_30 (by decide) (by decide)
            have x4 : zk (xp tp n) zL 3 d 30 4 = zL 30 4 := zk_30 (by decide) (by decide)
            have hrr := hr0.2.2.1.1
            rw [x0] at hrr
            have nr := (hr0.2.2.1.2.2.1 r (by omega) hrr.2.1).2.1
            have itR := hr0.2.1.1
            have w3R := hr0.1.1.2.2.1
            have w2R := hr0.1.1.2.2.2.1
            rw [x4] at itR
            rw [x3] at nr w3R f3
            rw [x2] at f3
            have w3 := hL.1.1.2.2.1
            have w2 := hL.1.1.2.2.2.1
            have oCe : oC (zL 30 3) = nI (zL 30 3) := if_pos (by omega)
            have f03 : frP (z 30 3) (z 30 2) (d + 1) oc I1 I3 L1 L3 := f0.tr (f3.p (M := z 30 3) (B := z 30 2) (op := d + 1) (oc := oc) (by omega) w3 w2 (Nat.le_refl _) (Nat.le_refl _)) (Nat.le_refl _) (Nat.le_refl _) (Nat.le_refl _) (Nat.le_refl _)
            have row : ∀ o, 99 ≤ o → o ≤ 109 → o ≠ 103 → I3 o (zL 30 3) = I2 o (zL 30 3) := fun o p q h => f3.2.2.1.1 o _ p q (by omega) (Or.inr h)
            obtain ⟨⟨u1, u2, u3, u4, u5⟩, -, u7, u8, u9, u10⟩ := nwm
            have e6 : zu (zlk (zlk zR 1 (zL 30 0) w) 2 (zL 30 0) r) 12 (zL 30 0) (zR 30 0 - 1) 6 (zL 30 0) = zL 30 3 := by
              show zR 6 (zL 30 0) = zL 30 3
              rw [hr0.1.2.1 6 _ (by decide) (by omega)]
              exact (NEW_zk (pl := xp tp n) (z := zL) (k := 3) (d := d)).1.1.2.1
            have av : I3 105 (zR 6 r) = nI (zL 30 3) := by
              have h := (bS r (by omega) hrr.2.1).1.2.2.2.2.2.1
              rw [if_pos rfl, oCe] at h
              exact h
            have SB := masm_bin (z' := zlk (zlk zR 1 (zL 30 0) w) 2 (zL 30 0) r) (I3 := I3) (L3 := L3) (k := 3) (l := 5) (cR := 6) ht hw hL (Or.inl ⟨rfl, rfl⟩) hr0 gS bS (fun o m p q h hh => by rw [f3.2.2.1.1 o m p q (by omega) (Or.inl (by omega))]; exact fr o m p q h hh) (fun m h => by rw [f3.2.2.2.1 m (by omega)]; exact frL m h) (fun o m p q h hh => rfl) (fun m h => rfl) ⟨by rw [f3.2.2.1.1 105 _ (by decide) (by decide) (by omega) (Or.inr (by decide))]; exact c2.2, av⟩ ⟨by rw [row 99 (by decide) (by decide) (by decide)]; exact u1, by rw [row 100 (by decide) (by decide) (by decide)]; exact u2, by rw [row 102 (by decide) (by decide) (by decide)]; exact c2.1, b103, by rw [row 104 (by decide) (by decide) (by decide)]; exact u8, by rw [row 105 (by decide) (by decide) (by decide)]; exact u9, by rw [row 106 (by decide) (by decide) (by decide)]; exact u3, by rw [row 107 (by decide) (by decide) (by decide)]; exact u4, by rw [row 109 (by decide) (by decide) (by decide)]; exact u5⟩ rfl
            refine ih (zL 30 0) _ I3 L3 (by show 243 ≤ m + zR 30 4; omega) (psi_call hw hL hb hr0) ?_ ⟨by rw [b39, e6], b40, b43, b47⟩ (fun x x1 x2 => SB x x1 x2) (by show oc ≤ zR 30 3; omega) (mQ.fr hq f03)
            exact mST_z b1 (fun v _ _ => rfl) (fun c b p q => by
              show (if c = 12 ∧ b = zL 30 0 then _ else if c = 5 ∧ b = r then _ else if c = 2 ∧ b = zL 30 0 then _ else if c = 5 ∧ b = w then _ else if c = 1 ∧ b = zL 30 0 then _ else zR c b) = zR c b
              rw [if_neg (by omega), if_neg (by omega), if_neg (by omega), if_neg (by omega), if_neg (by omega)])
/-- an atom and its arguments -/
theorem m_call (hS : lp_shape S) (hR : lp_refs R) (ht : tko (xk tp n) (xp tp n) nt) (hw : WFz nt d z) (hP : ∀ z, WFz nt d z → PST (xk tp n) (xp tp n) nt z 6 d (rec 6 d z)) (hfl : ∀ z, (bga (xk tp n (z 30 4)) = false ∨ (6 ≤ xk tp n (z 30 4) ∧ d = 20)) → rec 6 d z = flt (xp tp n) z)
    (hat : ∀ z I L Q oc cb e1 K, WFz nt d z → mA tp n d oc cb I L z → kA (e + 6) S R Q K → mQA tp n (e + 6) S R Q d oc cb z I L (rec 6 d z) → lw (e1 + 4) 165 (lm_J 165 39) [.ref 96, .null] [] (S, I, L, R) (fun v M' => lm_rok 2 v = true ∧ K v M'))
    (g : mE tp n d base oc lt I L z) (hq : mQ tp n (e + 6) S R Q 5 d oc z I L (rb (rec 6 d z) (lpC (xk tp n) (xp tp n) rec d 242))) : hdQ (e + 6) S R Q I L := by
  have k23 := (ht.2.2.2 (z 30 4)).1
  have v4 := hw.2.2.2.1
  have hoc := g.2.2.1.2.1
  refine m_beg hS hR ht v4 g hw.2.1 (fun K I0 hka g0 gx f0 => ?_)
  by_cases h : bga (xk tp n (z 30 4)) = false ∨ (6 ≤ xk tp n (z 30 4) ∧ d = 20)
  · refine k_165f hS hR g0 v4 k23 h (hka.1 _ _ ?_)
    rw [hfl z h] at hq
    have hq : mF S R Q I L (xp tp n (z 30 4)) := hq
    exact hq I0 L g0.1.2.1 (f0.m (M := 0) (B := 0) (op := 0) (oc := 0)).1
  · have hb : bga (xk tp n (z 30 4)) = true := by cases hh : bga (xk tp n (z 30 4)) with | true => rfl | false => exact absurd (Or.inl hh) h
    refine k_165n hS hR g0 v4 k23 gx.1 gx.2.1 gx.2.2 hoc hb (fun q => by
      have : ¬ (6 ≤ xk tp n (z 30 4) ∧ d = 20) := fun u => h (Or.inr u)
      omega) (fun ma => ?_)
    have f1 : frP (z 30 3) (z 30 2) (d + 1) oc I (lm_row I0 96 (upd (I0 96) 40 (-9))) L L := (f0.tr (frK_40 (by omega))).m
    refine hat z _ L Q oc 1000 e K hw ma hka ?_
    have hr0 := hP z hw
    cases hx : rec 6 d z with
    | inl t =>
      rw [hx] at hq
      exact mF.fr (M := t) hq f1.1
    | inr q =>
      obtain ⟨r, z1⟩ := q
      rw [hx] at hq hr0
      have hr0 : PSI (xk tp n) (xp tp n) nt z 6 d r z1 := hr0
      replace hq : mQ tp n (e + 6) S R Q 5 d oc z I L (lpC (xk tp n) (xp tp n) rec d 242 r z1) := hq
      intro I3 L3 mx f3
      have mx : mXA tp n d oc 1000 I3 L3 z r z1 := mx
      obtain ⟨b1, ⟨b39, b40, b43, b47⟩, bS, -⟩ := mx
      rw [if_neg (by omega)] at b39
      have v3 := hw.2.1
      have f2 : frP (z 30 3) (z 30 2) (d + 1) oc _ I3 L L3 := f3.p (Nat.le_refl _) (by omega) (Nat.le_refl _) (Nat.le_refl _) (Nat.le_refl _)
      have hL : PSI (xk tp n) (xp tp n) nt z 5 d r z1 := ⟨hr0.1, hr0.2.1, hr0.2.2.1, hr0.2.2.2.1, hr0.2.2.2.2.1, ⟨by have := hr0.2.2.2.2.2.1.1; omega, hr0.2.2.2.2.2.1.2⟩, fun s => by omega, hr0.2.2.2.2.2.2.2⟩
      have it := hr0.2.1.1
      have w3 := hr0.1.1.2.2.1
      exact m_lpC hS hR ht hw hP hfl hat 242 r z1 I3 L3 (by omega) hL b1 ⟨b39, b40, b43, b47⟩ bS (by omega) (mQ.fr hq (f1.tr f2 (Nat.le_refl _) (Nat.le_refl _) (Nat.le_refl _) (Nat.le_refl _)))
end MLEV5
