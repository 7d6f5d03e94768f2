/-! ===== the law from its entry, if the light machine does what is asked (lp_all) ===== -/
section LAW2
variable {p : Program} {l : Launch} {e : Env} {s : State} {m : MethodId} {below : List Frame} {meth : Method} {c : Code} {D : va_G} {cA : Nat → ClassId} {ρ0 : Nat → Nat} {b L km : Nat} {xs : Nat → Int32} {Inv : lm_M → Prop}
variable {pc n : Nat} {ls st : List Value} {M M1 M2 : lm_M} {i : Int32}
theorem lg_new (hC : lm_ctx p s m #[Value.ref b] meth c D cA (fun q : Nat => s.heap.size ≤ q) ρ0 21 false code 4) {ci ix : Nat} (hd : decode code pc = .ok (.new ix, 3)) (hci : ci < 11) (he : (lm_tC.any (fun e => e.2.1 == ci && e.1 == 210000 + ix)) = true) (hix : ix < 10000) (hB : M.1.1 + 1 ≤ 600000 ∧ M.1.2.1 + lm_cN ci ≤ 7302250) (k : lm_G p l e room_1 s m #[Value.ref b] below meth c (lw_Z below #[Value.ref b] s) D cA (fun q : Nat => s.heap.size ≤ q) ρ0 lp_empty 4 (pc + 3) ls (.ref M.1.1 :: st) (lp_new M ci)) : lm_G p l e room_1 s m #[Value.ref b] below meth c (lw_Z below #[Value.ref b] s) D cA (fun q : Nat => s.heap.size ≤ q) ρ0 lp_empty 4 (pc) ls (st) (M) := by
  obtain ⟨en, hen, hh⟩ := List.any_eq_true.mp he
  simp only [Bool.and_eq_true, beq_iff_eq] at hh
  refine lm_g_new hC hci hen hh.1 (by omega) (by rw [show en.1 % 10000 = ix by omega]; exact hd) (by show _ ≤ 1000000; omega) (Nat.zero_le _) (Nat.zero_le _) ?_ ?_ k
  · show _ - 0 ≤ 600000; omega
  · show _ - 0 ≤ 7302250; omega
theorem lg_dup (hC : lm_ctx p s m #[Value.ref b] meth c D cA (fun q : Nat => s.heap.size ≤ q) ρ0 21 false code 4) {x : Nat} (hd : decode code pc = .ok (.dup, 1)) (k : lm_G p l e room_1 s m #[Value.ref b] below meth c (lw_Z below #[Value.ref b] s) D cA (fun q : Nat => s.heap.size ≤ q) ρ0 lp_empty 4 (pc + 1) ls (.ref x :: .ref x :: st) (M)) : lm_G p l e room_1 s m #[Value.ref b] below meth c (lw_Z below #[Value.ref b] s) D cA (fun q : Nat => s.heap.size ≤ q) ρ0 lp_empty 4 (pc) ls (.ref x :: st) (M) :=
  lm_g_st k (fun ρ H locs cs k1 k2 hh kk => lv_dup hC.1 hC.2.1 hd rfl kk) (fun hl h2 => lm_oki h2 (lm_oks_cons.mp h2).1)
theorem lg_init (hC : lm_ctx p s m #[Value.ref b] meth c D cA (fun q : Nat => s.heap.size ≤ q) ρ0 21 false code 4) {r mm : Nat} {as st' : List Value} {ix : Nat} (hl : lc lp_D mm as M (fun v2 M' => v2 = none ∧ M' = M2)) (hd : decode code pc = .ok (.invokespecial ix, 3)) (he : (lm_tM.any (fun e => e.2.1 == r && e.1 == 210000 + ix)) = true) (hix : ix < 10000) (hst : (lm_mi (r / 2048)).2.2.2.2.2.2.1 = false ∧ (lm_mi (r / 2048)).1.name = "<init>") (hmm : r / 2048 = mm) (hB : M2.1.1 ≤ 600000 ∧ M2.1.2.1 ≤ 7302250)
    (hpop : lm_pop (r / 128 % 16) [] st = some (as, st')) (hsum : (st'.map fun v => v.category).sum ≤ 8) (hrc : lm_rc r as M = true) (k : lm_G p l e room_1 s m #[Value.ref b] below meth c (lw_Z below #[Value.ref b] s) D cA (fun q : Nat => s.heap.size ≤ q) ρ0 lp_empty 4 (pc + 3) ls (st') (M2)) : lm_G p l e room_1 s m #[Value.ref b] below meth c (lw_Z below #[Value.ref b] s) D cA (fun q : Nat => s.heap.size ≤ q) ρ0 lp_empty 4 (pc) ls (st) (M) := by
  subst hmm
  obtain ⟨en, hen, hh⟩ := List.any_eq_true.mp he
  simp only [Bool.and_eq_true, beq_iff_eq] at hh
  obtain ⟨F, v2, M', hcall, rfl, rfl⟩ := hl
  have hmr : r / 2048 < 229 := by rw [← hh.1]; exact (lm_tM_spec hen).2.1
  have hm1 := lm_call_mono F lp_D _ _ _ _ _ hcall
  refine lm_g_call (d := lp_D) (r := r) hC hen hh.1 (by omega) ⟨by decide, by decide⟩ ?_ ?_ (by show _ ≤ 1000000; omega) (raw := .invokespecial (en.1 % 10000)) (Or.inr (Or.inl ⟨rfl, hst.1, hst.2⟩)) (by rw [show en.1 % 10000 = ix by omega]; exact hd) (lm_met_all lm_ck_all l F _ _ _ _ _ _ hmr hcall) hpop hsum hrc ⟨Nat.zero_le _, Nat.zero_le _⟩ hm1 (fun y hy => by cases hy) k
  · show _ - 0 ≤ 600000; omega
  · show _ - 0 ≤ 7302250; omega
theorem lg_ast (hC : lm_ctx p s m #[Value.ref b] meth c D cA (fun q : Nat => s.heap.size ≤ q) ρ0 21 false code 4) {j : Fin 4} {x : Nat} (hd : decode code pc = .ok (.astore_n j, 1)) (hj : (j : Nat) < ls.length) (k : lm_G p l e room_1 s m #[Value.ref b] below meth c (lw_Z below #[Value.ref b] s) D cA (fun q : Nat => s.heap.size ≤ q) ρ0 lp_empty 4 (pc + 1) (lm_set1 ls j (.ref x)) (st) (M)) : lm_G p l e room_1 s m #[Value.ref b] below meth c (lw_Z below #[Value.ref b] s) D cA (fun q : Nat => s.heap.size ≤ q) ρ0 lp_empty 4 (pc) ls (.ref x :: st) (M) :=
  fun ρ H locs cs h hs => lv_astore_n hC.1 hC.2.1 hd rfl (lm_has_lv h.2.2.2.1) (Nat.lt_of_lt_of_le hj (Nat.le_of_eq h.2.2.2.1.2.2.1)) rfl (fun cs' h' => k ρ H locs cs' ⟨h.1, h.2.1, h.2.2.1, lm_has_set1 (v := .ref x) h.2.2.2.1.2.2.1 h' h.2.2.2.2.2.1, h.2.2.2.2.1, lm_set1_oks h.2.2.2.2.2.1 (lm_oks_cons.mp hs).1, h.2.2.2.2.2.2⟩ (lm_okd hs))
theorem lg_ist (hC : lm_ctx p s m #[Value.ref b] meth c D cA (fun q : Nat => s.heap.size ≤ q) ρ0 21 false code 4) {j : Fin 4} {x : Int32} (hd : decode code pc = .ok (.istore_n j, 1)) (hj : (j : Nat) < ls.length) (k : lm_G p l e room_1 s m #[Value.ref b] below meth c (lw_Z below #[Value.ref b] s) D cA (fun q : Nat => s.heap.size ≤ q) ρ0 lp_empty 4 (pc + 1) (lm_set1 ls j (.int x)) (st) (M)) : lm_G p l e room_1 s m #[Value.ref b] below meth c (lw_Z below #[Value.ref b] s) D cA (fun q : Nat => s.heap.size ≤ q) ρ0 lp_empty 4 (pc) ls (.int x :: st) (M) :=
  fun ρ H locs cs h hs => lv_istore_n hC.1 hC.2.1 hd rfl (lm_has_lv h.2.2.2.1) (Nat.lt_of_lt_of_le hj (Nat.le_of_eq h.2.2.2.1.2.2.1)) rfl (fun cs' h' => k ρ H locs cs' ⟨h.1, h.2.1, h.2.2.1, lm_has_set1 (v := .int x) h.2.2.2.1.2.2.1 h' h.2.2.2.2.2.1, h.2.2.2.2.1, lm_set1_oks h.2.2.2.2.2.1 trivial, h.2.2.2.2.2.2⟩ (lm_okd hs))
theorem lg_begin (hC : lm_ctx p s m #[Value.ref b] meth c D cA (fun q : Nat => s.heap.size ≤ q) ρ0 21 false code 4) (hX : va_X b L xs s s.heap) (hbl : b < s.heap.size) (hρ : ρ0 (lm_B + 20) = b) (hr : meth.sig.returnType = ret) (hL : L ≤ 2048) (hA : lp_all km Inv) : lm_G p l e room_1 s m #[Value.ref b] below meth c (lw_Z below #[Value.ref b] s) D cA (fun q : Nat => s.heap.size ≤ q) ρ0 lp_empty 4 (0) [.ref (lm_B + 20), .null, .null, .null] ([]) (lp_empty) := by
  obtain ⟨F, v, M1, hcall, rfl, hkm, F2, v2, M2, hcall2, rfl, hI⟩ := hA.2.1
  have hb2 := hA.1 M2 hI
  have hm1 := lm_call_mono F lp_D _ _ _ _ _ hcall
  have hm2 := lm_call_mono F2 lp_D _ _ _ _ _ hcall2
  have e2 : (lp_new M1 10).1.1 = M1.1.1 + 1 ∧ (lp_new M1 10).1.2.1 = M1.1.2.1 + 104 := ⟨rfl, rfl⟩
  refine lg_new hC (ci := 9) ld_0 (by decide) (by decide +kernel) (by decide) ⟨by show 0 + 1 ≤ 600000; decide, by show 0 + 10 ≤ 7302250; decide⟩ ?_
  refine lg_dup hC ld_3 ?_
  refine lg_init hC (r := 252041) (ix := 9) (st' := [.ref 0]) ⟨F, _, _, hcall, rfl, rfl⟩ ld_4 (by decide +kernel) (by decide) (by decide +kernel) rfl ⟨by omega, by omega⟩ rfl (by decide) ?_ ?_
  · rfl
  refine lg_ast hC (j := 1) ld_7 (Nat.le_of_ble_eq_true rfl) ?_
  refine lg_new hC (ci := 10) ld_8 (by decide) (by decide +kernel) (by decide) ⟨by omega, by show _ + 104 ≤ _; omega⟩ ?_
  refine lg_dup hC ld_11 ?_
  rw [hkm]
  refine lg_init hC (r := 299146) (ix := 12) (st' := [.ref km]) ⟨F2, _, _, hcall2, rfl, rfl⟩ ld_12 (by decide +kernel) (by decide) (by decide +kernel) rfl ⟨by omega, by omega⟩ rfl (Nat.le_of_ble_eq_true rfl) ?_ ?_
  · show (false || ((lm_us M1.1.2.2 M1.1.1 (10, 0) km).1 == 10)) = true
    rw [← hkm, show lm_us M1.1.2.2 M1.1.1 (10, 0) M1.1.1 = (10, 0) from if_pos rfl]
    rfl
  refine lg_ast hC (j := 2) ld_15 (Nat.le_of_ble_eq_true rfl) ?_
  refine lg_ic hC (x := 0) ld_16 (by decide) ?_
  refine lg_ist hC (j := 3) ld_17 (Nat.le_of_ble_eq_true rfl) ?_
  exact lg_loop hC hX hbl hρ hr hL hA (L + 5) 0 M2 (by omega) (by omega) hI
theorem lp_empty_wk : lm_wk lp_empty := by
  refine ⟨Nat.zero_le _, fun o h => absurd h (Nat.not_lt_zero _), fun o _ h => ?_, fun o h => ?_, fun o h h2 => ?_, fun o k => trivial, fun j hj => ?_⟩
  · show (if o = lm_B + 10 then (30, 8) else if o < lm_B then (99, 0) else (31, 0) : Nat × Nat).1 = 99
    rw [if_neg (by omega), if_pos h]
  · show 30 ≤ (if o = lm_B + 10 then (30, 8) else if o < lm_B then (99, 0) else (31, 0) : Nat × Nat).1
    split
    · decide
    · rw [if_neg (by omega)]; decide
  · have h2 : (if o = lm_B + 10 then (30, 8) else if o < lm_B then (99, 0) else (31, 0) : Nat × Nat).1 = 30 := h2
    show _ ∧ (if o = lm_B + 10 then (30, 8) else if o < lm_B then (99, 0) else (31, 0) : Nat × Nat).2 = 8
    by_cases e : o = lm_B + 10
    · exact ⟨e, by rw [if_pos e]⟩
    · rw [if_neg e, if_neg (by omega)] at h2
      exact absurd h2 (by decide)
  · show (if lm_B + 10 = lm_B + 10 then lm_costs.getD j 0 else 0) = _
    rw [if_pos rfl]
theorem lp_classes : (List.range 11).all (fun k => lm_tC.any (fun e => e.2.1 == k)) = true := by decide +kernel
theorem lp_K (hts : ∀ w ∈ lm_tb, w.before #[Value.ref b] s = true) : ∃ (D : va_G) (cA : Nat → ClassId), va_K D lm_cl (lm_tys cA) s := by
  have h1 : ∀ k, ∃ q : ClassId × (Nat → Nat), k < 11 → u_Kn s (lm_cR k) (lm_cT k) (lm_cN k) q.1 q.2 := by
    intro k
    by_cases hk : k < 11
    · obtain ⟨en, hen, hh⟩ := List.any_eq_true.mp (List.all_eq_true.mp lp_classes k (List.mem_range.mpr hk))
      have hw := List.all_eq_true.mp lm_tC_ok en hen
      simp only [Bool.and_eq_true, decide_eq_true_eq, beq_iff_eq] at hw hh
      rw [hh] at hw
      obtain ⟨cC, iS, hK⟩ := u_known hts (lm_cl_in hk) (hts _ (lm_tbm (List.mem_of_getElem? hw.1.1.2) rfl))
      exact ⟨(cC, iS), fun _ => hK⟩
    · exact ⟨(0, fun _ => 0), fun q => absurd q hk⟩
  have h2 : ∀ ty : FieldType, Cond.arrayClass ty ∈ lw_tbl → ∃ cA : ClassId, ArrOfT s cA ty ∧ s.vm.findClass ("[" ++ ty.toString) = some cA := by
    intro ty hw
    obtain ⟨cA, kA, comp, g1, g2, g3⟩ := Cond.arrayClass_spec (hts _ (lm_tbm hw rfl))
    exact ⟨cA, fun n z => ⟨fun k h => (by cases h), kA, g2, comp, g3⟩, g1⟩
  obtain ⟨c1, a1, b1⟩ := h2 _ lm_w_int
  obtain ⟨c2, a2, b2⟩ := h2 _ lm_w_long
  obtain ⟨c3, a3, b3⟩ := h2 _ lm_w_bool
  obtain ⟨c4, a4, b4⟩ := h2 _ lm_w_byte
  refine ⟨(fun k => (Classical.choose (h1 k)).1, fun k => (Classical.choose (h1 k)).2), fun t => if t = 21 then c1 else if t = 22 then c2 else if t = 23 then c3 else c4, fun k q hq => ?_, fun k q hq => ?_⟩
  · have hk : k < 11 := (List.getElem?_eq_some_iff.mp hq).1
    rw [lm_cl_at hk] at hq
    cases hq
    exact Classical.choose_spec (h1 k) hk
  · match k, hq with
    | 0, hq => cases hq; exact ⟨a1, b1⟩
    | 1, hq => cases hq; exact ⟨a2, b2⟩
    | 2, hq => cases hq; exact ⟨a3, b3⟩
    | 3, hq => cases hq; exact ⟨a4, b4⟩
    | k + 4, hq => simp [lm_tys] at hq
end LAW2
def lp_tm : Nat → Term := fun k => match k with
  | 0 => .string "ConflictPlaces$Names" 35
  | 1 => .string "ConflictPlaces$Writer" 63
  | 2 => .string "ConflictPlaces$Writer" 69
  | 3 => .string "ConflictPlaces$Writer" 71
  | _ => .string "" 0
abbrev lp_G : Cond := Jvm.Cond.and given_1 narrow_1
theorem lp_m1 : (List.range 4).all (fun i => decide (Cond.exactly (lp_tm i) "java/lang/String" ∈ flatC lp_G) && decide (Cond.eq (.field (lp_tm i) "java/lang/String" "coder" "B") (.int 0) ∈ flatC lp_G) && decide (Cond.arrayOf (.field (lp_tm i) "java/lang/String" "value" "[B") .byte ∈ flatC lp_G) && decide (Cond.eq (.length (.field (lp_tm i) "java/lang/String" "value" "[B")) (.int (Int32.ofNat (lm_lens.getD i 0))) ∈ flatC lp_G) && decide (lm_lens.getD i 0 < 2 ^ 31)) = true := by decide +kernel
theorem lp_m2 : (List.range 4).all (fun i => (List.range (lm_lens.getD i 0)).all (fun j => decide (Cond.eq (.elem (.field (lp_tm i) "java/lang/String" "value" "[B") (.int (Int32.ofNat j))) (.int ((lm_byts.getD i []).getD j 0)) ∈ flatC lp_G))) = true := by decide +kernel
theorem lp_m3 : (List.range 4).all (fun i => (List.range 4).all (fun j => i == j || decide (Cond.not (Cond.eq (lp_tm i) (lp_tm j)) ∈ flatC lp_G) || decide (Cond.not (Cond.eq (lp_tm j) (lp_tm i)) ∈ flatC lp_G))) = true := by decide +kernel
theorem lp_m4 : (List.range 8).all (fun j => decide (Cond.eq (.elem (.static "ConflictPlaces" "COSTS" "[I") (.int (Int32.ofNat j))) (.int (lm_costs.getD j 0)) ∈ flatC lp_G)) = true := by decide +kernel
theorem lp_m5 : Cond.arrayOf (.static "ConflictPlaces" "COSTS" "[I") .int ∈ flatC lp_G ∧ Cond.eq (.length (.static "ConflictPlaces" "COSTS" "[I")) (.int 8) ∈ flatC lp_G ∧ Cond.eq (.static "java/lang/String" "COMPACT_STRINGS" "Z") (.int 1) ∈ flatC lp_G ∧ Cond.isRef (.static "jdk/internal/util/Preconditions" "SIOOBE_FORMATTER" "Ljava/util/function/BiFunction;") ∈ flatC lp_G := by decide +kernel
theorem lp_w1 : Cond.laysStatic "ConflictPlaces" "COSTS" "[I" ∈ lw_tbl := List.mem_of_getElem? (i := 1195) (by decide +kernel)
theorem lp_w2 : Cond.laysStatic "java/lang/String" "COMPACT_STRINGS" "Z" ∈ lw_tbl := List.mem_of_getElem? (i := 333) (by decide +kernel)
theorem lp_w3 : Cond.laysStatic "jdk/internal/util/Preconditions" "SIOOBE_FORMATTER" "Ljava/util/function/BiFunction;" ∈ lw_tbl := List.mem_of_getElem? (i := 349) (by decide +kernel)
theorem lp_w4 : Cond.initialized "ConflictPlaces" ∈ lw_tbl := List.mem_of_getElem? (i := 173) (by decide +kernel)
theorem lp_w5 : Cond.initialized "java/lang/String" ∈ lw_tbl := List.mem_of_getElem? (i := 178) (by decide +kernel)
theorem lp_w6 : Cond.initialized "jdk/internal/util/Preconditions" ∈ lw_tbl := List.mem_of_getElem? (i := 180) (by decide +kernel)
theorem lp_tS_tm : lm_tS.all (fun e => decide (lp_tm e.2.1 = .string (lm_oR (e.1 / 10000)) (e.1 % 10000)) && decide (lw_tbl[e.2.2]? = some (Cond.stringRef (lm_oR (e.1 / 10000)) (e.1 % 10000) (lm_strs.getD e.2.1 "")))) = true := by decide +kernel
theorem lp_X {s : State} {b : Nat} (hts : ∀ w ∈ lw_tbl, w.before #[Value.ref b] s = true) (hgv : lp_G.before #[Value.ref b] s = true) : ∃ ρ0 : Nat → Nat, ρ0 (lm_B + 20) = b ∧ lm_X ρ0 (fun q : Nat => s.heap.size ≤ q) s s.heap := by
  have hs := flat_of_before _ hgv
  have hA : ∀ a : Nat, a < s.heap.size → ¬ (fun q : Nat => s.heap.size ≤ q) a := fun a h => Nat.not_le.mpr h
  have g1 : ∀ i : Nat, i < 4 → _ := fun i hi => List.all_eq_true.mp lp_m1 i (List.mem_range.mpr hi)
  simp only [Bool.and_eq_true, decide_eq_true_eq] at g1
  obtain ⟨adK, adV, hk, hkt⟩ := vk_Sof (N := 4) (tm := lp_tm) (len := lm_lens) (byt := lm_byts) (args := #[Value.ref b]) (s := s) (A := fun q : Nat => s.heap.size ≤ q) (fun i hi => (g1 i hi).2) (fun i hi => hs _ (g1 i hi).1.1.1.1) (fun i hi => hs _ (g1 i hi).1.1.1.2) (fun i hi => hs _ (g1 i hi).1.1.2) (fun i hi => hs _ (g1 i hi).1.2)
    (fun i hi j hj => by
      have h := List.all_eq_true.mp (List.all_eq_true.mp lp_m2 i (List.mem_range.mpr hi)) j (List.mem_range.mpr hj)
      simp only [decide_eq_true_eq] at h
      exact hs _ h)
    (fun i j hi hj hne => by
      have h := List.all_eq_true.mp (List.all_eq_true.mp lp_m3 i (List.mem_range.mpr hi)) j (List.mem_range.mpr hj)
      simp only [Bool.or_eq_true, beq_iff_eq, decide_eq_true_eq] at h
      rcases h with (q | q) | q
      · exact absurd q hne
      · exact Or.inl (hs _ q)
      · exact Or.inr (hs _ q)) hA
  obtain ⟨tC, htC, hT⟩ := va_Tof (tm := .static "ConflictPlaces" "COSTS" "[I") (ty := .int) (N := 8) (f := fun j => .int (lm_costs.getD j 0)) (by decide) (hs _ lp_m5.1) (va_eqt (hs _ lp_m5.2.1)) (fun j hj => by
      have h := List.all_eq_true.mp lp_m4 j (List.mem_range.mpr hj)
      simp only [decide_eq_true_eq] at h
      exact va_eqt (hs _ h)) hA
  refine ⟨fun i => if i = lm_B + 20 then b else if i = lm_B + 10 then tC else adK (i - lm_B), if_pos rfl, ?_⟩
  have e10 : (if lm_B + 10 = lm_B + 20 then b else if lm_B + 10 = lm_B + 10 then tC else adK (lm_B + 10 - lm_B)) = tC := by
    rw [if_neg (by omega), if_pos rfl]
  have ei : ∀ i, i < 4 → (if lm_B + i = lm_B + 20 then b else if lm_B + i = lm_B + 10 then tC else adK (lm_B + i - lm_B)) = adK i := by
    intro i hi
    rw [if_neg (by omega), if_neg (by omega), Nat.add_sub_cancel_left]
  refine ⟨?_, ?_, ⟨adV, ?_⟩, ?_, ?_, fun en he => ?_⟩
  · show va_Z _ _ _ (.ref (if lm_B + 10 = lm_B + 20 then b else if lm_B + 10 = lm_B + 10 then tC else adK (lm_B + 10 - lm_B))) _ _ _
    rw [e10]
    exact va_Zof (hts _ lp_w1) (hts _ lp_w4) htC hA
  · show va_T _ (if lm_B + 10 = lm_B + 20 then b else if lm_B + 10 = lm_B + 10 then tC else adK (lm_B + 10 - lm_B)) _ _ _ _ _
    rw [e10]
    exact hT
  · refine ⟨fun i hi => ?_, fun i j hi hj he => ?_⟩
    · have h := hk.1 i hi
      rw [← ei i hi] at h
      exact h
    · have he : (if lm_B + i = lm_B + 20 then b else if lm_B + i = lm_B + 10 then tC else adK (lm_B + i - lm_B)) = (if lm_B + j = lm_B + 20 then b else if lm_B + j = lm_B + 10 then tC else adK (lm_B + j - lm_B)) := he
      rw [ei i hi, ei j hj] at he
      exact hk.2 i j hi hj he
  · exact va_Zof (hts _ lp_w2) (hts _ lp_w5) (va_eqt (hs _ lp_m5.2.2.1)) hA
  · rcases va_Zqof (hts _ lp_w3) (hts _ lp_w6) (hs _ lp_m5.2.2.2) hA with h | ⟨t, h⟩
    · exact ⟨.null, Or.inl rfl, h⟩
    · exact ⟨.ref t, Or.inr ⟨t, rfl⟩, h⟩
  · have h4 := lm_tS_lt en he
    have h := List.all_eq_true.mp lp_tS_tm en he
    simp only [Bool.and_eq_true, decide_eq_true_eq] at h
    show vk_R _ _ _ (if lm_B + en.2.1 = lm_B + 20 then b else if lm_B + en.2.1 = lm_B + 10 then tC else adK (lm_B + en.2.1 - lm_B)) s
    rw [ei _ h4]
    have h5 := hkt en.2.1 h4
    rw [h.1] at h5
    exact vk_R.of (hts _ (List.mem_of_getElem? h.2)) h5
/-- THE LAW, from its entry, over what is asked of the light machine -/
theorem whole_open {km : Nat} {Inv : lm_M → Prop} (hA : lp_all km Inv) {p : Program} {e : Env} {s : State} {m : MethodId} {below : List Frame} {meth : Method} {c : Code} (l : Launch) {b L : Nat} {xs : Nat → Int32} (hL : L ≤ 2048) (C0 : lw_At p s m meth c b L xs) : W p l e room_1 s m #[Value.ref b] below meth c s.heap [] 0 0 (lw_Z below #[Value.ref b] s) (entryFrame m ([Value.ref b] : List Value).toArray 4) := by
  obtain ⟨hx, hb, hr, hml, hown, hts, hX, hbl, hlocks, hgv⟩ := C0
  have hts2 : ∀ w ∈ lm_tb, w.before #[Value.ref b] s = true := fun w hw => hts w (List.mem_filter.mp hw).1
  obtain ⟨D, cA, hK⟩ := lp_K hts2
  obtain ⟨ρ0, hρ, hXX⟩ := lp_X hts hgv
  have hC : lm_ctx p s m #[Value.ref b] meth c D cA (fun q : Nat => s.heap.size ≤ q) ρ0 21 false code 4 := ⟨hx, hb, hml, hown, hts2, hK, fun q h => h, fun q => (by cases q), hXX, hlocks⟩
  have hg := lg_begin (l := l) (e := e) (below := below) hC hX hbl hρ hr hL hA
  rw [lg_entry_eq]
  have hh := lm_ent_has (ρ := ρ0) (k := 4) (as := [.ref (lm_B + 20)]) (by decide)
  have e1 : ([.ref (lm_B + 20)] : List Value).map (lm_tv ρ0) = [.ref b] := by
    show [Value.ref (ρ0 (lm_B + 20))] = _
    rw [hρ]
  rw [e1] at hh
  have hgo := hg ρ0 s.heap [] _ ⟨fun k q h => by simp [lm_ws, lp_empty] at h, ⟨fun i j p q h => by simp [lm_ws, lp_empty] at h, fun k q h => by simp [lm_ws, lp_empty] at h⟩, va_S.rf, hh, lp_empty_wk, ?_, fun _ _ => rfl, Nat.zero_le _⟩ lm_oks_nil
  · exact hgo
  · intro v hv
    simp only [List.mem_cons, List.not_mem_nil, or_false] at hv
    rcases hv with rfl | rfl | rfl | rfl
    · exact Or.inr (by show 1000000 ≤ 1000000 + 20; omega)
    · trivial
    · trivial
    · trivial
