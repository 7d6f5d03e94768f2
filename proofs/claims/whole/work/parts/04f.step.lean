/-! ===== the simulation: one step that is no call and no return ===== -/
section LMSIM3
variable {p : Program} {l : Launch} {e : Env} {R : Room} {s : State} {m : MethodId} {args : Array Value} {below : List Frame} {meth : Method} {c : Code} {Q : State → Prop} {D : va_G} {cA : Nat → ClassId} {A : Nat → Prop} {ρ0 : Nat → Nat} {M0 : lm_M} {nL cn : Nat} {ini : Bool} {cc : ByteArray}
variable {J : Nat → lm_C} {i raw : Instr} {cd c' : lm_C} {pc pc' n : Nat} {ls ls' st st' : List Value} {M M' : lm_M}
theorem lm_fv_congr {ρ : Nat → Nat} {t o k : Nat} (h1 : M'.2.1 o k = M.2.1 o k) (h2 : M'.2.2.1 o k = M.2.2.1 o k) (h3 : M'.2.2.2 o k = M.2.2.2 o k) : lm_fv ρ M' t o k = lm_fv ρ M t o k := by
  unfold lm_fv
  rw [h1, h2, h3]
theorem lm_okx {n : Nat} {a v : Value} {r : List Value} (h : lm_oks n (a :: r)) (hv : lm_okv n v) : lm_oks n (v :: r) := lm_oks_cons.mpr ⟨hv, (lm_oks_cons.mp h).2⟩
theorem lm_okxx {n : Nat} {a b v : Value} {r : List Value} (h : lm_oks n (a :: b :: r)) (hv : lm_okv n v) : lm_oks n (v :: r) := lm_oks_cons.mpr ⟨hv, (lm_oks_cons.mp (lm_oks_cons.mp h).2).2⟩
theorem lm_okd {n : Nat} {a : Value} {r : List Value} (h : lm_oks n (a :: r)) : lm_oks n r := (lm_oks_cons.mp h).2
theorem lm_oki {n : Nat} {v : Value} {r : List Value} (h : lm_oks n r) (hv : lm_okv n v) : lm_oks n (v :: r) := lm_oks_cons.mpr ⟨hv, h⟩
theorem lm_lku_eq (pc : Int) (d x : Int) (ps : List (Int × Int)) : pc + Op.lookupswitch.offset (ps.map (fun q => (q.1, q.2 - pc))) (d - pc) x = lm_lku d x ps := by
  induction ps with
  | nil => show pc + (d - pc) = d; omega
  | cons q ps ih =>
    show pc + (if q.1 = x then q.2 - pc else Op.lookupswitch.offset (ps.map (fun q => (q.1, q.2 - pc))) (d - pc) x) = (if q.1 = x then q.2 else lm_lku d x ps)
    split
    · omega
    · exact ih
theorem lm_lku_pos {d x : Int} {ps : List (Int × Int)} (hd : 0 ≤ d) (hp : ∀ q ∈ ps, 0 ≤ q.2) : 0 ≤ lm_lku d x ps := by
  induction ps with
  | nil => exact hd
  | cons q ps ih =>
    show 0 ≤ (if q.1 = x then q.2 else lm_lku d x ps)
    split
    · exact hp q List.mem_cons_self
    · exact ih fun q hq => hp q (List.mem_cons_of_mem _ hq)
theorem lm_sorted (pc : Int) (ps : List (Int × Int)) (h : (ps.zip (ps.drop 1)).all (fun (a, next) => a.1 < next.1) = true) : (((ps.map (fun q => (q.1, q.2 - pc))).zip ((ps.map (fun q => (q.1, q.2 - pc))).drop 1)).all (fun (a, next) => a.1 < next.1)) = true := by
  rw [← List.map_drop, List.zip_map, List.all_map]
  exact h
set_option maxHeartbeats 4000000 in
set_option maxRecDepth 100000 in
theorem lm_sim_nx (hC : lm_ctx p s m args meth c D cA A ρ0 cn ini cc nL) (hB : M'.1.1 ≤ lm_B) (hR0 : M0.1.1 ≤ M.1.1 ∧ M0.1.2.1 ≤ M.1.2.1) (hR1 : M'.1.1 - M0.1.1 ≤ R.cells) (hR2 : M'.1.2.1 - M0.1.2.1 ≤ R.slots) (hR3 : 1 ≤ R.frames ∧ 60 ≤ R.locals)
    (hstr : (i = .swap ∨ i = .athrow) → lm_G p l e R s m args below meth c Q D cA A ρ0 M0 nL (pc) (ls) (st) (M))
    (hdec : decode cc pc = .ok (raw, n)) (hn : lm_n i = 0 ∨ lm_n i = n) (hck : lm_ck cn ini pc raw i = true) (hs : lm_step J i cd ls st M = some (.inl (c', ls', st', M')))
    (kN : cd = c' → lm_G p l e R s m args below meth c Q D cA A ρ0 M0 nL (pc + n) (ls') (st') (M')) (kJ : ∀ t, J t = c' → lm_G p l e R s m args below meth c Q D cA A ρ0 M0 nL (t) (ls') (st') (M')) : lm_G p l e R s m args below meth c Q D cA A ρ0 M0 nL (pc) (ls) (st) (M) := by
  obtain ⟨hx, hb, hml, hown, hts, hK, hA, hin, hX, hlk⟩ := id hC
  cases i
  case iconst a =>
    have er : raw = .iconst a := by simpa [lm_ck, lm_same] using hck
    have en : n = 1 := by simp [lm_n] at hn; omega
    subst er; subst en
    obtain ⟨rfl, rfl, rfl, rfl⟩ : cd = c' ∧ ls = ls' ∧ .int (Int32.ofInt a) :: st = st' ∧ M = M' := by simpa [lm_step, lm_nx] using hs
    exact lm_g_st (kN rfl) (fun ρ H locs cs k1 k2 hh k => lv_iconst hx hb hdec rfl k) (fun hl h => lm_oki h trivial)
  case bipush a =>
    have er : raw = .bipush a := by simpa [lm_ck, lm_same] using hck
    have en : n = 2 := by simp [lm_n] at hn; omega
    subst er; subst en
    obtain ⟨rfl, rfl, rfl, rfl⟩ : cd = c' ∧ ls = ls' ∧ .int (Int8.ofInt a).toInt32 :: st = st' ∧ M = M' := by simpa [lm_step, lm_nx] using hs
    exact lm_g_st (kN rfl) (fun ρ H locs cs k1 k2 hh k => lv_bipush hx hb hdec rfl k) (fun hl h => lm_oki h trivial)
  case sipush a =>
    have er : raw = .sipush a := by simpa [lm_ck, lm_same] using hck
    have en : n = 3 := by simp [lm_n] at hn; omega
    subst er; subst en
    obtain ⟨rfl, rfl, rfl, rfl⟩ : cd = c' ∧ ls = ls' ∧ .int (Int16.ofInt a).toInt32 :: st = st' ∧ M = M' := by simpa [lm_step, lm_nx] using hs
    exact lm_g_st (kN rfl) (fun ρ H locs cs k1 k2 hh k => lv_sipush hx hb hdec rfl k) (fun hl h => lm_oki h trivial)
  case lconst a =>
    have er : raw = .lconst a := by simpa [lm_ck, lm_same] using hck
    have en : n = 1 := by simp [lm_n] at hn; omega
    subst er; subst en
    obtain ⟨rfl, rfl, rfl, rfl⟩ : cd = c' ∧ ls = ls' ∧ .long (Int64.ofNat (a : Nat)) :: st = st' ∧ M = M' := by simpa [lm_step, lm_nx] using hs
    exact lm_g_st (kN rfl) (fun ρ H locs cs k1 k2 hh k => lv_lconst hx hb hdec rfl k) (fun hl h => lm_oki h trivial)
  case iload a =>
    have er : raw = .iload a := by simpa [lm_ck, lm_same] using hck
    have en : n = 2 := by simp [lm_n] at hn; omega
    subst er; subst en
    obtain ⟨x, hx0, rfl, rfl, rfl, rfl⟩ := lm_ldI_inv hs
    exact lm_g_st (kN rfl) (fun ρ H locs cs k1 k2 hh k => lv_iload hx hb hdec (lm_has_at hh hx0 (fun q => by cases q)) k) (fun hl h => lm_oki h trivial)
  case iload_n a =>
    have er : raw = .iload_n a := by simpa [lm_ck, lm_same] using hck
    have en : n = 1 := by simp [lm_n] at hn; omega
    subst er; subst en
    obtain ⟨x, hx0, rfl, rfl, rfl, rfl⟩ := lm_ldI_inv hs
    exact lm_g_st (kN rfl) (fun ρ H locs cs k1 k2 hh k => lv_iload_n hx hb hdec rfl (lm_has_at hh hx0 (fun q => by cases q)) k) (fun hl h => lm_oki h trivial)
  case lload a =>
    have er : raw = .lload a := by simpa [lm_ck, lm_same] using hck
    have en : n = 2 := by simp [lm_n] at hn; omega
    subst er; subst en
    obtain ⟨x, hx0, rfl, rfl, rfl, rfl⟩ := lm_ldL_inv hs
    exact lm_g_st (kN rfl) (fun ρ H locs cs k1 k2 hh k => lv_lload hx hb hdec (lm_has_at hh hx0 (fun q => by cases q)) k) (fun hl h => lm_oki h trivial)
  case lload_n a =>
    have er : raw = .lload_n a := by simpa [lm_ck, lm_same] using hck
    have en : n = 1 := by simp [lm_n] at hn; omega
    subst er; subst en
    obtain ⟨x, hx0, rfl, rfl, rfl, rfl⟩ := lm_ldL_inv hs
    exact lm_g_st (kN rfl) (fun ρ H locs cs k1 k2 hh k => lv_lload_n hx hb hdec rfl (lm_has_at hh hx0 (fun q => by cases q)) k) (fun hl h => lm_oki h trivial)
  case aload a =>
    have er : raw = .aload a := by simpa [lm_ck, lm_same] using hck
    have en : n = 2 := by simp [lm_n] at hn; omega
    subst er; subst en
    obtain ⟨x, hx0, rfl, rfl, rfl, rfl⟩ := lm_ldA_inv hs
    exact lm_g_st (kN rfl) (fun ρ H locs cs k1 k2 hh k => lv_aload hx hb hdec (lm_has_at hh hx0 (fun q => by cases q)) k) (fun hl h => lm_oki h (hl _ (List.mem_of_getElem? hx0)))
  case aload_n a =>
    have er : raw = .aload_n a := by simpa [lm_ck, lm_same] using hck
    have en : n = 1 := by simp [lm_n] at hn; omega
    subst er; subst en
    obtain ⟨x, hx0, rfl, rfl, rfl, rfl⟩ := lm_ldA_inv hs
    exact lm_g_st (kN rfl) (fun ρ H locs cs k1 k2 hh k => lv_aload_n hx hb hdec rfl (lm_has_at hh hx0 (fun q => by cases q)) k) (fun hl h => lm_oki h (hl _ (List.mem_of_getElem? hx0)))
  case istore a =>
    have er : raw = .istore a := by simpa [lm_ck, lm_same] using hck
    have en : n = 2 := by simp [lm_n] at hn; omega
    subst er; subst en
    obtain ⟨x, r, rfl, hg, rfl, rfl, rfl, rfl⟩ := lm_stI_inv hs
    exact fun ρ H locs cs h hs => lv_istore hx hb hdec (lm_has_lv h.2.2.2.1) (by rw [← h.2.2.2.1.2.2.1]; exact hg) rfl (fun cs' h' => kN rfl ρ H locs cs' ⟨h.1, h.2.1, h.2.2.1, lm_has_set1 h.2.2.2.1.2.2.1 h' h.2.2.2.2.2.1, h.2.2.2.2.1, lm_set1_oks h.2.2.2.2.2.1 trivial, h.2.2.2.2.2.2⟩ (lm_okd hs))
  case istore_n a =>
    have er : raw = .istore_n a := by simpa [lm_ck, lm_same] using hck
    have en : n = 1 := by simp [lm_n] at hn; omega
    subst er; subst en
    obtain ⟨x, r, rfl, hg, rfl, rfl, rfl, rfl⟩ := lm_stI_inv hs
    exact fun ρ H locs cs h hs => lv_istore_n hx hb hdec rfl (lm_has_lv h.2.2.2.1) (by rw [← h.2.2.2.1.2.2.1]; exact hg) rfl (fun cs' h' => kN rfl ρ H locs cs' ⟨h.1, h.2.1, h.2.2.1, lm_has_set1 h.2.2.2.1.2.2.1 h' h.2.2.2.2.2.1, h.2.2.2.2.1, lm_set1_oks h.2.2.2.2.2.1 trivial, h.2.2.2.2.2.2⟩ (lm_okd hs))
  case lstore a =>
    have er : raw = .lstore a := by simpa [lm_ck, lm_same] using hck
    have en : n = 2 := by simp [lm_n] at hn; omega
    subst er; subst en
    obtain ⟨x, r, rfl, hg, rfl, rfl, rfl, rfl⟩ := lm_stL_inv hs
    exact fun ρ H locs cs h hs => lv_lstore hx hb hdec (lm_has_lv h.2.2.2.1) (by rw [← h.2.2.2.1.2.2.1]; exact hg) rfl (fun cs' h' => kN rfl ρ H locs cs' ⟨h.1, h.2.1, h.2.2.1, lm_has_set2 h.2.2.2.1.2.2.1 h' h.2.2.2.2.2.1, h.2.2.2.2.1, lm_set2_oks h.2.2.2.2.2.1 trivial, h.2.2.2.2.2.2⟩ (lm_okd hs))
  case lstore_n a =>
    have er : raw = .lstore_n a := by simpa [lm_ck, lm_same] using hck
    have en : n = 1 := by simp [lm_n] at hn; omega
    subst er; subst en
    obtain ⟨x, r, rfl, hg, rfl, rfl, rfl, rfl⟩ := lm_stL_inv hs
    exact fun ρ H locs cs h hs => lv_lstore_n hx hb hdec rfl (lm_has_lv h.2.2.2.1) (by rw [← h.2.2.2.1.2.2.1]; exact hg) rfl (fun cs' h' => kN rfl ρ H locs cs' ⟨h.1, h.2.1, h.2.2.1, lm_has_set2 h.2.2.2.1.2.2.1 h' h.2.2.2.2.2.1, h.2.2.2.2.1, lm_set2_oks h.2.2.2.2.2.1 trivial, h.2.2.2.2.2.2⟩ (lm_okd hs))
  case astore a =>
    have er : raw = .astore a := by simpa [lm_ck, lm_same] using hck
    have en : n = 2 := by simp [lm_n] at hn; omega
    subst er; subst en
    obtain ⟨x, r, rfl, hg, rfl, rfl, rfl, rfl⟩ := lm_stA_inv hs
    exact fun ρ H locs cs h hs => lv_astore hx hb hdec (lm_has_lv h.2.2.2.1) (by rw [← h.2.2.2.1.2.2.1]; exact hg) rfl (fun cs' h' => kN rfl ρ H locs cs' ⟨h.1, h.2.1, h.2.2.1, lm_has_set1 h.2.2.2.1.2.2.1 h' h.2.2.2.2.2.1, h.2.2.2.2.1, lm_set1_oks h.2.2.2.2.2.1 ((lm_oks_cons.mp hs).1), h.2.2.2.2.2.2⟩ (lm_okd hs))
  case astore_n a =>
    have er : raw = .astore_n a := by simpa [lm_ck, lm_same] using hck
    have en : n = 1 := by simp [lm_n] at hn; omega
    subst er; subst en
    obtain ⟨x, r, rfl, hg, rfl, rfl, rfl, rfl⟩ := lm_stA_inv hs
    exact fun ρ H locs cs h hs => lv_astore_n hx hb hdec rfl (lm_has_lv h.2.2.2.1) (by rw [← h.2.2.2.1.2.2.1]; exact hg) rfl (fun cs' h' => kN rfl ρ H locs cs' ⟨h.1, h.2.1, h.2.2.1, lm_has_set1 h.2.2.2.1.2.2.1 h' h.2.2.2.2.2.1, h.2.2.2.2.1, lm_set1_oks h.2.2.2.2.2.1 ((lm_oks_cons.mp hs).1), h.2.2.2.2.2.2⟩ (lm_okd hs))
  case iinc a b =>
    have er : raw = .iinc a b := by simpa [lm_ck, lm_same] using hck
    have en : n = 3 := by simp [lm_n] at hn; omega
    subst er; subst en
    obtain ⟨x, hx0, rfl, rfl, rfl, rfl⟩ := lm_iinc_inv hs
    intro ρ H locs cs h hs
    obtain ⟨k0, hk0⟩ := List.getElem?_of_mem (lm_mem_lv (ρ := ρ) hx0 (fun q => by cases q))
    exact lv_iinc hx hb hdec (lm_has_lv h.2.2.2.1) hk0 rfl (by rw [← h.2.2.2.1.2.2.1]; exact (List.getElem?_eq_some_iff.mp hx0).1) rfl (fun cs' h' => kN rfl ρ H locs cs' ⟨h.1, h.2.1, h.2.2.1, lm_has_set1 (v := .int (x + Int32.ofInt b)) h.2.2.2.1.2.2.1 h' h.2.2.2.2.2.1, h.2.2.2.2.1, lm_set1_oks h.2.2.2.2.2.1 trivial, h.2.2.2.2.2.2⟩ hs)
  case iadd =>
    have er : raw = .iadd := by simpa [lm_ck, lm_same] using hck
    have en : n = 1 := by simp [lm_n] at hn; omega
    subst er; subst en
    obtain ⟨x, y, r, rfl, rfl, rfl, rfl, rfl⟩ := lm_bin_inv hs
    exact lm_g_st (kN rfl) (fun ρ H locs cs k1 k2 hh k => lv_iadd hx hb hdec k) (fun hl h => lm_okxx h trivial)
  case isub =>
    have er : raw = .isub := by simpa [lm_ck, lm_same] using hck
    have en : n = 1 := by simp [lm_n] at hn; omega
    subst er; subst en
    obtain ⟨x, y, r, rfl, rfl, rfl, rfl, rfl⟩ := lm_bin_inv hs
    exact lm_g_st (kN rfl) (fun ρ H locs cs k1 k2 hh k => lv_isub hx hb hdec k) (fun hl h => lm_okxx h trivial)
  case imul =>
    have er : raw = .imul := by simpa [lm_ck, lm_same] using hck
    have en : n = 1 := by simp [lm_n] at hn; omega
    subst er; subst en
    obtain ⟨x, y, r, rfl, rfl, rfl, rfl, rfl⟩ := lm_bin_inv hs
    exact lm_g_st (kN rfl) (fun ρ H locs cs k1 k2 hh k => lv_imul hx hb hdec k) (fun hl h => lm_okxx h trivial)
  case iand =>
    have er : raw = .iand := by simpa [lm_ck, lm_same] using hck
    have en : n = 1 := by simp [lm_n] at hn; omega
    subst er; subst en
    obtain ⟨x, y, r, rfl, rfl, rfl, rfl, rfl⟩ := lm_bin_inv hs
    exact lm_g_st (kN rfl) (fun ρ H locs cs k1 k2 hh k => lv_iand hx hb hdec k) (fun hl h => lm_okxx h trivial)
  case ior =>
    have er : raw = .ior := by simpa [lm_ck, lm_same] using hck
    have en : n = 1 := by simp [lm_n] at hn; omega
    subst er; subst en
    obtain ⟨x, y, r, rfl, rfl, rfl, rfl, rfl⟩ := lm_bin_inv hs
    exact lm_g_st (kN rfl) (fun ρ H locs cs k1 k2 hh k => lv_ior hx hb hdec k) (fun hl h => lm_okxx h trivial)
  case ishl =>
    have er : raw = .ishl := by simpa [lm_ck, lm_same] using hck
    have en : n = 1 := by simp [lm_n] at hn; omega
    subst er; subst en
    obtain ⟨x, y, r, rfl, rfl, rfl, rfl, rfl⟩ := lm_bin_inv hs
    exact lm_g_st (kN rfl) (fun ρ H locs cs k1 k2 hh k => lv_ishl hx hb hdec k) (fun hl h => lm_okxx h trivial)
  case ishr =>
    have er : raw = .ishr := by simpa [lm_ck, lm_same] using hck
    have en : n = 1 := by simp [lm_n] at hn; omega
    subst er; subst en
    obtain ⟨x, y, r, rfl, rfl, rfl, rfl, rfl⟩ := lm_bin_inv hs
    exact lm_g_st (kN rfl) (fun ρ H locs cs k1 k2 hh k => lv_ishr hx hb hdec k) (fun hl h => lm_okxx h trivial)
  case idiv =>
    have er : raw = .idiv := by simpa [lm_ck, lm_same] using hck
    have en : n = 1 := by simp [lm_n] at hn; omega
    subst er; subst en
    obtain ⟨x, y, r, rfl, hg, rfl, rfl, rfl, rfl⟩ := lm_div_inv hs
    exact lm_g_st (kN rfl) (fun ρ H locs cs k1 k2 hh k => lv_idiv hx hb hdec hg k) (fun hl h => lm_okxx h trivial)
  case irem =>
    have er : raw = .irem := by simpa [lm_ck, lm_same] using hck
    have en : n = 1 := by simp [lm_n] at hn; omega
    subst er; subst en
    obtain ⟨x, y, r, rfl, hg, rfl, rfl, rfl, rfl⟩ := lm_div_inv hs
    exact lm_g_st (kN rfl) (fun ρ H locs cs k1 k2 hh k => lv_irem hx hb hdec hg k) (fun hl h => lm_okxx h trivial)
  case land =>
    have er : raw = .land := by simpa [lm_ck, lm_same] using hck
    have en : n = 1 := by simp [lm_n] at hn; omega
    subst er; subst en
    obtain ⟨x, y, r, rfl, rfl, rfl, rfl, rfl⟩ := lm_binL_inv hs
    exact lm_g_st (kN rfl) (fun ρ H locs cs k1 k2 hh k => lv_land hx hb hdec k) (fun hl h => lm_okxx h trivial)
  case lor =>
    have er : raw = .lor := by simpa [lm_ck, lm_same] using hck
    have en : n = 1 := by simp [lm_n] at hn; omega
    subst er; subst en
    obtain ⟨x, y, r, rfl, rfl, rfl, rfl, rfl⟩ := lm_binL_inv hs
    exact lm_g_st (kN rfl) (fun ρ H locs cs k1 k2 hh k => lv_lor hx hb hdec k) (fun hl h => lm_okxx h trivial)
  case lshl =>
    have er : raw = .lshl := by simpa [lm_ck, lm_same] using hck
    have en : n = 1 := by simp [lm_n] at hn; omega
    subst er; subst en
    obtain ⟨x, y, r, rfl, rfl, rfl, rfl, rfl⟩ := lm_shL_inv hs
    exact lm_g_st (kN rfl) (fun ρ H locs cs k1 k2 hh k => lv_lshl hx hb hdec rfl k) (fun hl h => lm_okxx h trivial)
  case lshr =>
    have er : raw = .lshr := by simpa [lm_ck, lm_same] using hck
    have en : n = 1 := by simp [lm_n] at hn; omega
    subst er; subst en
    obtain ⟨x, y, r, rfl, rfl, rfl, rfl, rfl⟩ := lm_shL_inv hs
    exact lm_g_st (kN rfl) (fun ρ H locs cs k1 k2 hh k => lv_lshr hx hb hdec rfl k) (fun hl h => lm_okxx h trivial)
  case lushr =>
    have er : raw = .lushr := by simpa [lm_ck, lm_same] using hck
    have en : n = 1 := by simp [lm_n] at hn; omega
    subst er; subst en
    obtain ⟨x, y, r, rfl, rfl, rfl, rfl, rfl⟩ := lm_shL_inv hs
    exact lm_g_st (kN rfl) (fun ρ H locs cs k1 k2 hh k => lv_lushr hx hb hdec rfl k) (fun hl h => lm_okxx h trivial)
  case lcmp =>
    have er : raw = .lcmp := by simpa [lm_ck, lm_same] using hck
    have en : n = 1 := by simp [lm_n] at hn; omega
    subst er; subst en
    obtain ⟨x, y, r, rfl, rfl, rfl, rfl, rfl⟩ := lm_cmpL_inv hs
    exact lm_g_st (kN rfl) (fun ρ H locs cs k1 k2 hh k => W.lcmp hx hb hdec k) (fun hl h => lm_okxx h trivial)
  case i2l =>
    have er : raw = .i2l := by simpa [lm_ck, lm_same] using hck
    have en : n = 1 := by simp [lm_n] at hn; omega
    subst er; subst en
    obtain ⟨x, r, rfl, rfl, rfl, rfl, rfl⟩ := lm_un_inv hs
    exact lm_g_st (kN rfl) (fun ρ H locs cs k1 k2 hh k => lv_i2l hx hb hdec rfl k) (fun hl h => lm_okx h trivial)
  case i2b =>
    have er : raw = .i2b := by simpa [lm_ck, lm_same] using hck
    have en : n = 1 := by simp [lm_n] at hn; omega
    subst er; subst en
    obtain ⟨x, r, rfl, rfl, rfl, rfl, rfl⟩ := lm_un_inv hs
    exact lm_g_st (kN rfl) (fun ρ H locs cs k1 k2 hh k => lv_i2b hx hb hdec rfl k) (fun hl h => lm_okx h trivial)
  case l2i =>
    have er : raw = .l2i := by simpa [lm_ck, lm_same] using hck
    have en : n = 1 := by simp [lm_n] at hn; omega
    subst er; subst en
    obtain ⟨x, r, rfl, rfl, rfl, rfl, rfl⟩ := lm_unL_inv hs
    exact lm_g_st (kN rfl) (fun ρ H locs cs k1 k2 hh k => lv_l2i hx hb hdec rfl k) (fun hl h => lm_okx h trivial)
  case dup =>
    have er : raw = .dup := by simpa [lm_ck, lm_same] using hck
    have en : n = 1 := by simp [lm_n] at hn; omega
    subst er; subst en
    obtain ⟨v, r, rfl, hg, rfl, rfl, rfl, rfl⟩ := lm_dup_inv hs
    exact lm_g_st (kN rfl) (fun ρ H locs cs k1 k2 hh k => lv_dup hx hb hdec (by rw [lm_tv_cat]; exact hg) k) (fun hl h => lm_oki h (lm_oks_cons.mp h).1)
  case pop =>
    have er : raw = .pop := by simpa [lm_ck, lm_same] using hck
    have en : n = 1 := by simp [lm_n] at hn; omega
    subst er; subst en
    obtain ⟨v, r, rfl, hg, rfl, rfl, rfl, rfl⟩ := lm_pop1_inv hs
    exact lm_g_st (kN rfl) (fun ρ H locs cs k1 k2 hh k => lv_pop hx hb hdec (by rw [lm_tv_cat]; exact hg) k) (fun hl h => lm_okd h)
  case dup2 =>
    have er : raw = .dup2 := by simpa [lm_ck, lm_same] using hck
    have en : n = 1 := by simp [lm_n] at hn; omega
    subst er; subst en
    obtain ⟨v, w, r, rfl, hg, rfl, rfl, rfl, rfl⟩ := lm_dup2_inv hs
    exact lm_g_st (kN rfl) (fun ρ H locs cs k1 k2 hh k => lv_dup2_11 hx hb hdec (by rw [lm_tv_cat]; exact hg.1) (by rw [lm_tv_cat]; exact hg.2) k) (fun hl h => lm_oki (lm_oki h (lm_oks_cons.mp (lm_okd h)).1) (lm_oks_cons.mp h).1)
  case ldc2_w a =>
    obtain ⟨en, he, hh⟩ := List.any_eq_true.mp (show lm_tL.any (fun e => e.2.1 == a && e.1 / 10000 == cn && decide (raw = .ldc2_w (e.1 % 10000))) = true from hck)
    simp only [Bool.and_eq_true, beq_iff_eq, decide_eq_true_eq] at hh
    obtain ⟨⟨e1, e2⟩, er⟩ := hh
    have hn3 : n = 3 := by simp [lm_n] at hn; omega
    subst er; subst hn3
    obtain ⟨rfl, rfl, rfl, rfl⟩ : cd = c' ∧ ls = ls' ∧ .long (Int64.ofNat a) :: st = st' ∧ M = M' := by simpa [lm_step, lm_nx] using hs
    have w1 := List.all_eq_true.mp lm_tL_ok en he
    simp only [decide_eq_true_eq] at w1
    rw [e1, e2] at w1
    exact lm_g_st (kN rfl) (fun ρ H locs cs k1 k2 hh k => lv_ldc2 hx hb hown (hts _ (lm_tbm (List.mem_of_getElem? w1) rfl)) hdec k) (fun hl h => lm_oki h trivial)
  case ldc a =>
    obtain ⟨en, he, hh⟩ := List.any_eq_true.mp (show lm_tS.any (fun e => e.2.1 == a && e.1 / 10000 == cn && decide (raw = .ldc (e.1 % 10000))) = true from hck)
    simp only [Bool.and_eq_true, beq_iff_eq, decide_eq_true_eq] at hh
    obtain ⟨⟨e1, e2⟩, er⟩ := hh
    have hn3 : n = 2 := by simp [lm_n] at hn; omega
    subst er; subst hn3
    obtain ⟨rfl, rfl, rfl, rfl⟩ : cd = c' ∧ ls = ls' ∧ .ref (lm_B + a) :: st = st' ∧ M = M' := by simpa [lm_step, lm_nx] using hs
    have hr := hX.2.2.2.2.2 en he
    intro ρ H locs cs h hs
    rw [e1, e2, ← h.2.2.2.2.2.2.1 (lm_B + a) (Or.inr (by omega))] at hr
    exact va_ldcS hx hb hown hr hdec (kN rfl ρ H locs cs h (lm_oki hs (Or.inr (by omega))))
  case getstatic a =>
    have hck2 : (a == 10 && lm_tG.any (fun e => e.1 / 10000 == cn && decide (raw = .getstatic (e.1 % 10000)))) = true := hck
    simp only [Bool.and_eq_true, beq_iff_eq, decide_eq_true_eq] at hck2
    obtain ⟨ea, hany⟩ := hck2
    obtain ⟨en, he, hh⟩ := List.any_eq_true.mp hany
    simp only [Bool.and_eq_true, beq_iff_eq, decide_eq_true_eq] at hh
    obtain ⟨e2, er⟩ := hh
    have hn3 : n = 3 := by simp [lm_n] at hn; omega
    subst er; subst hn3; subst ea
    obtain ⟨rfl, rfl, rfl, rfl⟩ : cd = c' ∧ ls = ls' ∧ .ref (lm_B + 10) :: st = st' ∧ M = M' := by simpa [lm_step, lm_nx] using hs
    have w1 := List.all_eq_true.mp lm_tG_ok en he
    simp only [decide_eq_true_eq] at w1
    rw [e2] at w1
    intro ρ H locs cs h hs
    have hr := hX.1
    rw [← h.2.2.2.2.2.2.1 (lm_B + 10) (Or.inr (by omega))] at hr
    exact va_getsN hx hb hr h.2.2.1 hown (hts _ (lm_tbm (List.mem_of_getElem? w1) rfl)) (fun _ z => z) hdec (kN rfl ρ H locs cs h (lm_oki hs (Or.inr (by omega))))
  case ifCond b t =>
    have hck2 : (decide (0 ≤ t) && decide (raw = .ifCond b (t - pc))) = true := hck
    simp only [Bool.and_eq_true, decide_eq_true_eq, beq_iff_eq] at hck2
    obtain ⟨ht, er⟩ := hck2
    have hn3 : n = 3 := by simp [lm_n] at hn; omega
    subst er; subst hn3
    cases b with
    | eq =>
      obtain ⟨x, r, rfl, hbr, rfl, rfl, rfl⟩ := lm_br1_inv hs
      rcases hbr with ⟨hc, rfl⟩ | ⟨hc, rfl⟩
      · exact fun ρ H locs cs h hs => lv_if_eq (tgt := t.toNat) hx hb hdec (by omega) (fun _ => kJ t.toNat rfl ρ H locs cs h (lm_okd hs)) (fun q => absurd (of_decide_eq_true hc) (by first | exact q | exact not_not_intro q))
      · exact fun ρ H locs cs h hs => lv_if_eq (tgt := t.toNat) hx hb hdec (by omega) (fun q => absurd (decide_eq_true q) hc) (fun _ => kN rfl ρ H locs cs h (lm_okd hs))
    | ne =>
      obtain ⟨x, r, rfl, hbr, rfl, rfl, rfl⟩ := lm_br1_inv hs
      rcases hbr with ⟨hc, rfl⟩ | ⟨hc, rfl⟩
      · exact fun ρ H locs cs h hs => lv_if_ne (tgt := t.toNat) hx hb hdec (by omega) (fun _ => kJ t.toNat rfl ρ H locs cs h (lm_okd hs)) (fun q => absurd (of_decide_eq_true hc) (by first | exact q | exact not_not_intro q))
      · exact fun ρ H locs cs h hs => lv_if_ne (tgt := t.toNat) hx hb hdec (by omega) (fun q => absurd (decide_eq_true q) hc) (fun _ => kN rfl ρ H locs cs h (lm_okd hs))
    | lt =>
      obtain ⟨x, r, rfl, hbr, rfl, rfl, rfl⟩ := lm_br1_inv hs
      rcases hbr with ⟨hc, rfl⟩ | ⟨hc, rfl⟩
      · exact fun ρ H locs cs h hs => lv_if_lt (tgt := t.toNat) hx hb hdec (by omega) (fun _ => kJ t.toNat rfl ρ H locs cs h (lm_okd hs)) (fun q => absurd (of_decide_eq_true hc) (by first | exact q | exact not_not_intro q))
      · exact fun ρ H locs cs h hs => lv_if_lt (tgt := t.toNat) hx hb hdec (by omega) (fun q => absurd (decide_eq_true q) hc) (fun _ => kN rfl ρ H locs cs h (lm_okd hs))
    | ge =>
      obtain ⟨x, r, rfl, hbr, rfl, rfl, rfl⟩ := lm_br1_inv hs
      rcases hbr with ⟨hc, rfl⟩ | ⟨hc, rfl⟩
      · exact fun ρ H locs cs h hs => lv_if_ge (tgt := t.toNat) hx hb hdec (by omega) (fun _ => kJ t.toNat rfl ρ H locs cs h (lm_okd hs)) (fun q => absurd (of_decide_eq_true hc) (by first | exact q | exact not_not_intro q))
      · exact fun ρ H locs cs h hs => lv_if_ge (tgt := t.toNat) hx hb hdec (by omega) (fun q => absurd (decide_eq_true q) hc) (fun _ => kN rfl ρ H locs cs h (lm_okd hs))
    | gt =>
      obtain ⟨x, r, rfl, hbr, rfl, rfl, rfl⟩ := lm_br1_inv hs
      rcases hbr with ⟨hc, rfl⟩ | ⟨hc, rfl⟩
      · exact fun ρ H locs cs h hs => lv_if_gt (tgt := t.toNat) hx hb hdec (by omega) (fun _ => kJ t.toNat rfl ρ H locs cs h (lm_okd hs)) (fun q => absurd (of_decide_eq_true hc) (by first | exact q | exact not_not_intro q))
      · exact fun ρ H locs cs h hs => lv_if_gt (tgt := t.toNat) hx hb hdec (by omega) (fun q => absurd (decide_eq_true q) hc) (fun _ => kN rfl ρ H locs cs h (lm_okd hs))
    | le =>
      obtain ⟨x, r, rfl, hbr, rfl, rfl, rfl⟩ := lm_br1_inv hs
      rcases hbr with ⟨hc, rfl⟩ | ⟨hc, rfl⟩
      · exact fun ρ H locs cs h hs => lv_if_le (tgt := t.toNat) hx hb hdec (by omega) (fun _ => kJ t.toNat rfl ρ H locs cs h (lm_okd hs)) (fun q => absurd (of_decide_eq_true hc) (by first | exact q | exact not_not_intro q))
      · exact fun ρ H locs cs h hs => lv_if_le (tgt := t.toNat) hx hb hdec (by omega) (fun q => absurd (decide_eq_true q) hc) (fun _ => kN rfl ρ H locs cs h (lm_okd hs))
  case if_icmp b t =>
    have hck2 : (decide (0 ≤ t) && decide (raw = .if_icmp b (t - pc))) = true := hck
    simp only [Bool.and_eq_true, decide_eq_true_eq, beq_iff_eq] at hck2
    obtain ⟨ht, er⟩ := hck2
    have hn3 : n = 3 := by simp [lm_n] at hn; omega
    subst er; subst hn3
    cases b with
    | eq =>
      obtain ⟨x, y, r, rfl, hbr, rfl, rfl, rfl⟩ := lm_br2_inv hs
      rcases hbr with ⟨hc, rfl⟩ | ⟨hc, rfl⟩
      · exact fun ρ H locs cs h hs => lv_icmp_eq (tgt := t.toNat) hx hb hdec (by omega) (fun _ => kJ t.toNat rfl ρ H locs cs h (lm_okd (lm_okd hs))) (fun q => absurd (of_decide_eq_true hc) (by first | exact q | exact not_not_intro q))
      · exact fun ρ H locs cs h hs => lv_icmp_eq (tgt := t.toNat) hx hb hdec (by omega) (fun q => absurd (decide_eq_true q) hc) (fun _ => kN rfl ρ H locs cs h (lm_okd (lm_okd hs)))
    | ne =>
      obtain ⟨x, y, r, rfl, hbr, rfl, rfl, rfl⟩ := lm_br2_inv hs
      rcases hbr with ⟨hc, rfl⟩ | ⟨hc, rfl⟩
      · exact fun ρ H locs cs h hs => lv_icmp_ne (tgt := t.toNat) hx hb hdec (by omega) (fun _ => kJ t.toNat rfl ρ H locs cs h (lm_okd (lm_okd hs))) (fun q => absurd (of_decide_eq_true hc) (by first | exact q | exact not_not_intro q))
      · exact fun ρ H locs cs h hs => lv_icmp_ne (tgt := t.toNat) hx hb hdec (by omega) (fun q => absurd (decide_eq_true q) hc) (fun _ => kN rfl ρ H locs cs h (lm_okd (lm_okd hs)))
    | lt =>
      obtain ⟨x, y, r, rfl, hbr, rfl, rfl, rfl⟩ := lm_br2_inv hs
      rcases hbr with ⟨hc, rfl⟩ | ⟨hc, rfl⟩
      · exact fun ρ H locs cs h hs => lv_icmp_lt (tgt := t.toNat) hx hb hdec (by omega) (fun _ => kJ t.toNat rfl ρ H locs cs h (lm_okd (lm_okd hs))) (fun q => absurd (of_decide_eq_true hc) (by first | exact q | exact not_not_intro q))
      · exact fun ρ H locs cs h hs => lv_icmp_lt (tgt := t.toNat) hx hb hdec (by omega) (fun q => absurd (decide_eq_true q) hc) (fun _ => kN rfl ρ H locs cs h (lm_okd (lm_okd hs)))
    | ge =>
      obtain ⟨x, y, r, rfl, hbr, rfl, rfl, rfl⟩ := lm_br2_inv hs
      rcases hbr with ⟨hc, rfl⟩ | ⟨hc, rfl⟩
      · exact fun ρ H locs cs h hs => lv_icmp_ge (tgt := t.toNat) hx hb hdec (by omega) (fun _ => kJ t.toNat rfl ρ H locs cs h (lm_okd (lm_okd hs))) (fun q => absurd (of_decide_eq_true hc) (by first | exact q | exact not_not_intro q))
      · exact fun ρ H locs cs h hs => lv_icmp_ge (tgt := t.toNat) hx hb hdec (by omega) (fun q => absurd (decide_eq_true q) hc) (fun _ => kN rfl ρ H locs cs h (lm_okd (lm_okd hs)))
    | gt =>
      obtain ⟨x, y, r, rfl, hbr, rfl, rfl, rfl⟩ := lm_br2_inv hs
      rcases hbr with ⟨hc, rfl⟩ | ⟨hc, rfl⟩
      · exact fun ρ H locs cs h hs => lv_icmp_gt (tgt := t.toNat) hx hb hdec (by omega) (fun _ => kJ t.toNat rfl ρ H locs cs h (lm_okd (lm_okd hs))) (fun q => absurd (of_decide_eq_true hc) (by first | exact q | exact not_not_intro q))
      · exact fun ρ H locs cs h hs => lv_icmp_gt (tgt := t.toNat) hx hb hdec (by omega) (fun q => absurd (decide_eq_true q) hc) (fun _ => kN rfl ρ H locs cs h (lm_okd (lm_okd hs)))
    | le =>
      obtain ⟨x, y, r, rfl, hbr, rfl, rfl, rfl⟩ := lm_br2_inv hs
      rcases hbr with ⟨hc, rfl⟩ | ⟨hc, rfl⟩
      · exact fun ρ H locs cs h hs => lv_icmp_le (tgt := t.toNat) hx hb hdec (by omega) (fun _ => kJ t.toNat rfl ρ H locs cs h (lm_okd (lm_okd hs))) (fun q => absurd (of_decide_eq_true hc) (by first | exact q | exact not_not_intro q))
      · exact fun ρ H locs cs h hs => lv_icmp_le (tgt := t.toNat) hx hb hdec (by omega) (fun q => absurd (decide_eq_true q) hc) (fun _ => kN rfl ρ H locs cs h (lm_okd (lm_okd hs)))
  case goto t =>
    have hck2 : (decide (0 ≤ t) && decide (raw = .goto (t - pc))) = true := hck
    simp only [Bool.and_eq_true, decide_eq_true_eq, beq_iff_eq] at hck2
    obtain ⟨ht, er⟩ := hck2
    subst er
    have hn3 : n = 3 := by simp [lm_n] at hn; omega
    subst hn3
    obtain ⟨rfl, rfl, rfl, rfl⟩ : J t.toNat = c' ∧ ls = ls' ∧ st = st' ∧ M = M' := by simpa [lm_step, lm_nx] using hs
    exact fun ρ H locs cs h hs => lv_goto (tgt := t.toNat) hx hb hdec (by omega) (kJ t.toNat rfl ρ H locs cs h hs)
  case tableswitch d lo hi os =>
    have hck2 : (decide (0 ≤ d) && os.toList.all (fun x => decide (0 ≤ x)) && decide (raw = .tableswitch (d - pc) lo hi (os.toList.map (fun x => x - (pc : Int))).toArray)) = true := hck
    simp only [Bool.and_eq_true, decide_eq_true_eq, beq_iff_eq] at hck2
    obtain ⟨⟨hd, ho⟩, er⟩ := hck2
    subst er
    obtain ⟨x, r, rfl, hbr, rfl, rfl, rfl⟩ := lm_tab_inv hs
    rcases hbr with ⟨hc, rfl⟩ | ⟨hc, t, ht, rfl⟩
    · exact fun ρ H locs cs h hs => lv_tableOut (tgt := d.toNat) hx hb hdec hc (by omega) (kJ d.toNat rfl ρ H locs cs h (lm_okd hs))
    · have ht0 : 0 ≤ t := of_decide_eq_true (List.all_eq_true.mp ho t (List.mem_of_getElem? ht))
      exact fun ρ H locs cs h hs => lv_tableIn (off := t - pc) (tgt := t.toNat) hx hb hdec (fun q => hc (Or.inl q)) (fun q => hc (Or.inr q)) (by rw [List.getElem?_toArray, List.getElem?_map, ht]; rfl) (by omega) (kJ t.toNat rfl ρ H locs cs h (lm_okd hs))
  case lookupswitch d ps =>
    have hck2 : (decide (0 ≤ d) && ps.toList.all (fun q => decide (0 ≤ q.2)) && (ps.toList.zip (ps.toList.drop 1)).all (fun (a, next) => a.1 < next.1) && decide (raw = .lookupswitch (d - pc) (ps.toList.map (fun q => (q.1, q.2 - (pc : Int)))).toArray)) = true := hck
    rw [Bool.and_eq_true, Bool.and_eq_true, Bool.and_eq_true, decide_eq_true_eq (p := raw = _)] at hck2
    obtain ⟨⟨⟨hd, ho⟩, hsrt⟩, er⟩ := hck2
    subst er
    obtain ⟨x, r, rfl, rfl, rfl, rfl, rfl⟩ := lm_lk_inv hs
    have hpos : 0 ≤ lm_lku d x.toInt ps.toList := lm_lku_pos (of_decide_eq_true hd) (fun q hq => of_decide_eq_true (List.all_eq_true.mp ho q hq))
    exact fun ρ H locs cs h hs => lv_lookup (off := Op.lookupswitch.offset (ps.toList.map (fun q => (q.1, q.2 - (pc : Int)))) (d - pc) x.toInt) (tgt := (lm_lku d x.toInt ps.toList).toNat) hx hb hdec (lm_sorted pc ps.toList hsrt) rfl (by rw [lm_lku_eq]; omega) (kJ _ rfl ρ H locs cs h (lm_okd hs))
  case getfield r =>
    obtain ⟨en, he, hh⟩ := List.any_eq_true.mp (show lm_tF.any (fun e => e.2.1 == r && e.1 / 10000 == cn && decide (raw = .getfield (e.1 % 10000))) = true from hck)
    simp only [Bool.and_eq_true, beq_iff_eq, decide_eq_true_eq] at hh
    obtain ⟨⟨e1, e2⟩, er⟩ := hh
    have hn3 : n = 3 := by simp [lm_n] at hn; omega
    subst er; subst hn3
    obtain ⟨o, q, v, rfl, ht, hv, rfl, rfl, rfl, rfl⟩ := lm_getf_inv hs
    exact lm_g_get hC he e1 e2 hdec ht hv (kN rfl)
  case putfield r =>
    obtain ⟨en, he, hh⟩ := List.any_eq_true.mp (show lm_tF.any (fun e => e.2.1 == r && e.1 / 10000 == cn && ((lm_cT (r / 1024) (r / 8 % 128)).2.2.2 == false || (ini && r / 1024 == cn && e.2.2.1 == 0)) && decide (raw = .putfield (e.1 % 10000))) = true from hck)
    simp only [Bool.and_eq_true, beq_iff_eq, Bool.or_eq_true, decide_eq_true_eq] at hh
    obtain ⟨⟨⟨e1, e2⟩, hfin⟩, er⟩ := hh
    have hn3 : n = 3 := by simp [lm_n] at hn; omega
    subst er; subst hn3
    have hfin : (lm_cT (r / 1024) (r / 8 % 128)).2.2.2 = false ∨ (ini = true ∧ r / 1024 = cn ∧ en.2.2.1 = 0) := hfin.imp id (fun q => ⟨q.1.1, q.1.2, q.2⟩)
    have f3 : lm_kd (lm_cy (r / 1024) (r / 8 % 128)) = r % 8 := by rw [← e1]; exact (lm_tF_spec he).2.2.1
    obtain ⟨o, q, v, rfl, ht, rfl, rfl, rfl, hM⟩ := lm_putf_inv hs
    rcases hM with ⟨x, hk, rfl, rfl⟩ | ⟨x, hk, rfl, rfl⟩ | ⟨x, hk, rfl, rfl⟩ | ⟨x, hk, rfl, hx01, rfl⟩
    · rw [hk] at f3
      refine lm_g_put (M' := (M.1, lm_up M.2.1 o (r / 8 % 128) x, M.2.2)) hC he e1 e2 hdec ht hfin rfl (fun ρ o' hne => lm_cell_congr rfl (lm_up_ne hne) rfl (fun _ => rfl)) (fun ρ => ⟨?_, fun j hj => ?_⟩) (fun ρ => by rw [lm_kd0 f3]; exact ⟨rfl, rfl⟩) (fun hw ho _ => lm_wk_I hw ho) (kN rfl)
      · rw [lm_fv_0 f3]; show Value.int (lm_up M.2.1 o (r / 8 % 128) x o (r / 8 % 128)) = _; rw [lm_up_same]; simp [lm_tv]
      · exact lm_fv_congr (by show lm_up M.2.1 o (r / 8 % 128) x o j = _; rw [lm_up_same]; exact if_neg hj) rfl rfl
    · rw [hk] at f3
      refine lm_g_put (M' := (M.1, M.2.1, lm_up M.2.2.1 o (r / 8 % 128) x, M.2.2.2)) hC he e1 e2 hdec ht hfin rfl (fun ρ o' hne => lm_cell_congr rfl rfl (lm_up_ne hne) (fun _ => rfl)) (fun ρ => ⟨?_, fun j hj => ?_⟩) (fun ρ => by rw [lm_kd1 f3]; exact ⟨rfl, rfl⟩) (fun hw ho _ => lm_wk_L hw) (kN rfl)
      · rw [lm_fv_1 f3]; show Value.long (lm_up M.2.2.1 o (r / 8 % 128) x o (r / 8 % 128)) = _; rw [lm_up_same]; simp [lm_tv]
      · exact lm_fv_congr rfl (by show lm_up M.2.2.1 o (r / 8 % 128) x o j = _; rw [lm_up_same]; exact if_neg hj) rfl
    · rw [hk] at f3
      refine lm_g_put (M' := (M.1, M.2.1, M.2.2.1, lm_up M.2.2.2 o (r / 8 % 128) (.ref x))) hC he e1 e2 hdec ht hfin rfl (fun ρ o' hne => lm_cell_congr rfl rfl rfl (fun k => by show lm_tv ρ (lm_up M.2.2.2 o (r / 8 % 128) (.ref x) o' k) = _; rw [lm_up_ne hne])) (fun ρ => ⟨?_, fun j hj => ?_⟩) (fun ρ => lm_kd2 f3 _) (fun hw ho hok => lm_wk_R hw (lm_oks_cons.mp hok).1) (kN rfl)
      · rw [lm_fv_2 f3]; show lm_tv ρ (lm_up M.2.2.2 o (r / 8 % 128) (.ref x) o (r / 8 % 128)) = _; rw [lm_up_same]; simp
      · exact lm_fv_congr rfl rfl (by show lm_up M.2.2.2 o (r / 8 % 128) (.ref x) o j = _; rw [lm_up_same]; exact if_neg hj)
    · rw [hk] at f3
      refine lm_g_put (M' := (M.1, lm_up M.2.1 o (r / 8 % 128) x, M.2.2)) hC he e1 e2 hdec ht hfin rfl (fun ρ o' hne => lm_cell_congr rfl (lm_up_ne hne) rfl (fun _ => rfl)) (fun ρ => ⟨?_, fun j hj => ?_⟩) (fun ρ => by rw [lm_kd3 f3]; rcases hx01 with rfl | rfl <;> exact ⟨rfl, rfl⟩) (fun hw ho _ => lm_wk_I hw ho) (kN rfl)
      · rw [lm_fv_3 f3]; show Value.int (lm_up M.2.1 o (r / 8 % 128) x o (r / 8 % 128)) = _; rw [lm_up_same]; simp [lm_tv]
      · exact lm_fv_congr (by show lm_up M.2.1 o (r / 8 % 128) x o j = _; rw [lm_up_same]; exact if_neg hj) rfl rfl
  case iaload =>
    have er : raw = .iaload := by simpa [lm_ck, lm_same] using hck
    have en : n = 1 := by simp [lm_n] at hn; omega
    subst er; subst en
    obtain ⟨i, a, r, rfl, ⟨ht, hin2⟩, rfl, rfl, rfl, rfl⟩ := lm_ald_inv hs
    intro ρ H locs cs h hs
    rcases ht with ht | ht
    · obtain ⟨ho, hat⟩ := lm_ws_arr (cA := cA) (ρ := ρ) h.2.2.2.2.1 ht (by decide) (by decide)
      exact va_iald hx hb hK h.1 a 0 hat rfl hin2 hdec (kN rfl ρ H locs cs h (lm_okxx hs trivial))
    · have hge : lm_B ≤ a := by
        obtain ⟨g1, g2, g3, g4, -⟩ := h.2.2.2.2.1
        rcases Nat.lt_or_ge a lm_B with q | q
        · rcases Nat.lt_or_ge a M.1.1 with q2 | q2
          · have := g2 a q2; omega
          · have := g3 a q2 q; omega
        · exact q
      obtain ⟨ea, e8⟩ := h.2.2.2.2.1.2.2.2.2.1 a hge ht
      subst ea
      have hlt : i.toNatClampNeg < 8 := by rw [← e8]; exact Nat.not_le.mp fun q => hin2 (Or.inr q)
      have hT := hX.2.1
      rw [← h.2.2.2.2.2.2.1 (lm_B + 10) (Or.inr (by omega))] at hT
      exact va_ti hx hb hT h.2.2.1 (by rw [← e8]; exact hin2) (v := .int (M.2.1 (lm_B + 10) i.toNatClampNeg)) (by rw [h.2.2.2.2.1.2.2.2.2.2.2 _ hlt]) hdec (kN rfl ρ H locs cs h (lm_okxx hs trivial))
  case baload =>
    have er : raw = .baload := by simpa [lm_ck, lm_same] using hck
    have en : n = 1 := by simp [lm_n] at hn; omega
    subst er; subst en
    obtain ⟨i, a, r, rfl, ⟨ht, hin2⟩, rfl, rfl, rfl, rfl⟩ := lm_bld_inv hs
    intro ρ H locs cs h hs
    rcases ht with ht | ht
    · obtain ⟨ho, hat⟩ := lm_ws_arr (cA := cA) (ρ := ρ) h.2.2.2.2.1 ht (by decide) (by decide)
      exact va_zald hx hb hK h.1 a 2 hat rfl hin2 hdec (kN rfl ρ H locs cs h (lm_okxx hs trivial))
    · obtain ⟨ho, hat⟩ := lm_ws_arr (cA := cA) (ρ := ρ) h.2.2.2.2.1 ht (by decide) (by decide)
      exact va_bald hx hb hK h.1 a 3 hat rfl hin2 hdec (kN rfl ρ H locs cs h (lm_okxx hs trivial))
  case laload =>
    have er : raw = .laload := by simpa [lm_ck, lm_same] using hck
    have en : n = 1 := by simp [lm_n] at hn; omega
    subst er; subst en
    obtain ⟨i, a, r, rfl, ⟨ht, hin2⟩, rfl, rfl, rfl, rfl⟩ := lm_lld_inv hs
    intro ρ H locs cs h hs
    obtain ⟨ho, hat⟩ := lm_ws_long (cA := cA) (ρ := ρ) h.2.2.2.2.1 ht
    exact va_lald hx hb hK h.1 a 1 hat rfl hin2 hdec (kN rfl ρ H locs cs h (lm_okxx hs trivial))
  case iastore =>
    have er : raw = .iastore := by simpa [lm_ck, lm_same] using hck
    have en : n = 1 := by simp [lm_n] at hn; omega
    subst er; subst en
    obtain ⟨x, i, a, r, rfl, ⟨ht, hin2⟩, rfl, rfl, rfl, rfl⟩ := lm_ast_inv hs
    exact lm_g_arr (fun ρ H locs cs k1 k2 h hat k => va_iast hx hb hK h.1 h.2.1 h.2.2.1 a 0 hat rfl hin2 hdec k) ht (by decide) (by decide) (fun h => lm_okd (lm_okd (lm_okd h))) (kN rfl)
  case bastore =>
    have er : raw = .bastore := by simpa [lm_ck, lm_same] using hck
    have en : n = 1 := by simp [lm_n] at hn; omega
    subst er; subst en
    obtain ⟨x, i, a, r, rfl, ⟨ht, hin2⟩, rfl, rfl, rfl, rfl⟩ := lm_bst_inv hs
    rcases ht with ht | ht
    · have e1 : lm_nar (M.1.2.2 a).1 x = vp_nar .boolean x := by rw [ht]; rfl
      rw [e1] at kN
      exact lm_g_arr (fun ρ H locs cs k1 k2 h hat k => va_zast hx hb hK h.1 h.2.1 h.2.2.1 a 2 hat rfl hin2 hdec k) ht (by decide) (by decide) (fun h => lm_okd (lm_okd (lm_okd h))) (kN rfl)
    · have e1 : lm_nar (M.1.2.2 a).1 x = vp_nar .byte x := by rw [ht]; rfl
      rw [e1] at kN
      exact lm_g_arr (fun ρ H locs cs k1 k2 h hat k => va_bast hx hb hK h.1 h.2.1 h.2.2.1 a 3 hat rfl hin2 hdec k) ht (by decide) (by decide) (fun h => lm_okd (lm_okd (lm_okd h))) (kN rfl)
  case lastore =>
    have er : raw = .lastore := by simpa [lm_ck, lm_same] using hck
    have en : n = 1 := by simp [lm_n] at hn; omega
    subst er; subst en
    obtain ⟨x, i, a, r, rfl, ⟨ht, hin2⟩, rfl, rfl, rfl, rfl⟩ := lm_lst_inv hs
    exact lm_g_larr (fun ρ H locs cs k1 k2 h hat k => va_last hx hb hK h.1 h.2.1 h.2.2.1 a 1 hat rfl hin2 hdec k) ht (fun h => lm_okd (lm_okd (lm_okd h))) (kN rfl)
  case arraylength =>
    have er : raw = .arraylength := by simpa [lm_ck, lm_same] using hck
    have en : n = 1 := by simp [lm_n] at hn; omega
    subst er; subst en
    obtain ⟨a, r, rfl, ⟨hlo, hhi⟩, rfl, rfl, rfl, rfl⟩ := lm_len_inv hs
    intro ρ H locs cs h hs
    rcases Nat.lt_or_ge a M.1.1 with q | q
    · have q2 := h.2.2.2.2.1.2.1 a q
      by_cases e22 : (M.1.2.2 a).1 = 22
      · obtain ⟨ho, hat⟩ := lm_ws_long (cA := cA) (ρ := ρ) h.2.2.2.2.1 e22
        exact va_alen hx hb hK h.1 a 1 hat rfl rfl hdec (kN rfl ρ H locs cs h (lm_okx hs trivial))
      · obtain ⟨ho, hat⟩ := lm_ws_arr (cA := cA) (ρ := ρ) h.2.2.2.2.1 rfl (by omega) e22
        rcases (show (M.1.2.2 a).1 = 21 ∨ (M.1.2.2 a).1 = 23 ∨ (M.1.2.2 a).1 = 24 by omega) with e3 | e3 | e3
        · rw [e3] at hat; exact va_alen hx hb hK h.1 a 0 hat rfl rfl hdec (kN rfl ρ H locs cs h (lm_okx hs trivial))
        · rw [e3] at hat; exact va_alen hx hb hK h.1 a 2 hat rfl rfl hdec (kN rfl ρ H locs cs h (lm_okx hs trivial))
        · rw [e3] at hat; exact va_alen hx hb hK h.1 a 3 hat rfl rfl hdec (kN rfl ρ H locs cs h (lm_okx hs trivial))
    · have hge : lm_B ≤ a := by
        rcases Nat.lt_or_ge a lm_B with q3 | q3
        · have := h.2.2.2.2.1.2.2.1 a q q3; omega
        · exact q3
      have h30 := h.2.2.2.2.1.2.2.2.1 a hge
      obtain ⟨ea, e8⟩ := h.2.2.2.2.1.2.2.2.2.1 a hge (by omega)
      subst ea
      have hT := hX.2.1
      rw [← h.2.2.2.2.2.2.1 (lm_B + 10) (Or.inr (by omega))] at hT
      exact va_tlen hx hb hT h.2.2.1 (v := Int32.ofNat (M.1.2.2 (lm_B + 10)).2) (by rw [e8]) hdec (kN rfl ρ H locs cs h (lm_okx hs trivial))
  case newarray t =>
    have er : raw = .newarray t := by
      have hck2 : (lm_same (.newarray t) && decide (raw = .newarray t)) = true := hck
      simp only [Bool.and_eq_true, beq_iff_eq, decide_eq_true_eq] at hck2
      exact hck2.2
    have hn3 : n = 2 := by simp [lm_n] at hn; omega
    subst er; subst hn3
    obtain ⟨x, r, rfl, ⟨h1, h2, h3⟩, rfl, rfl, rfl, rfl⟩ := lm_newa_inv hs
    exact lm_g_newa hC hdec h1 h2 h3 hB hR0.1 hR0.2 hR1 hR2 (kN rfl)
  case new ci =>
    obtain ⟨en, he, hh⟩ := List.any_eq_true.mp (show lm_tC.any (fun e => e.2.1 == ci && e.1 / 10000 == cn && decide (raw = .new (e.1 % 10000))) = true from hck)
    simp only [Bool.and_eq_true, beq_iff_eq, decide_eq_true_eq] at hh
    obtain ⟨⟨e1, e2⟩, er⟩ := hh
    have hn3 : n = 3 := by simp [lm_n] at hn; omega
    subst er; subst hn3
    obtain ⟨hci, rfl, rfl, rfl, rfl⟩ := lm_new_inv hs
    exact lm_g_new hC hci he e1 e2 hdec hB hR0.1 hR0.2 hR1 hR2 (kN rfl)
  case monitorenter =>
    obtain ⟨en, he, hh⟩ := List.any_eq_true.mp (show lm_tA.any (fun e => e.1 / 10000 == cn && decide (raw = .invokestatic (e.1 % 10000))) = true from hck)
    simp only [Bool.and_eq_true, beq_iff_eq, decide_eq_true_eq] at hh
    obtain ⟨e2, er⟩ := hh
    have hn3 : n = 3 := by simp [lm_n] at hn; omega
    subst er; subst hn3
    obtain ⟨nn, dp, b, sp, a, r, rfl, ⟨t1, t2, g1, g2, g3, g4, g5, g6⟩, rfl, rfl, rfl, rfl⟩ := lm_copy_inv hs
    have w1 := List.all_eq_true.mp lm_tA_ok en he
    simp only [decide_eq_true_eq] at w1
    rw [e2] at w1
    intro ρ H locs cs h hs
    obtain ⟨ho, hat⟩ := lm_ws_arr (cA := cA) (ρ := ρ) h.2.2.2.2.1 t1 (by decide) (by decide)
    obtain ⟨hob, hbt⟩ := lm_ws_arr (cA := cA) (ρ := ρ) h.2.2.2.2.1 t2 (by decide) (by decide)
    have ec : lm_cell cA ρ (M.1, lm_cpy M.2.1 a b sp.toNatClampNeg dp.toNatClampNeg nn.toNatClampNeg, M.2.2) b = .inl (cA 21, (M.1.2.2 b).2, .inl (va_cpy (M.2.1 a) (M.2.1 b) sp.toNatClampNeg dp.toNatClampNeg nn.toNatClampNeg)) := by
      rw [lm_cell_arr (M := (M.1, lm_cpy M.2.1 a b sp.toNatClampNeg dp.toNatClampNeg nn.toNatClampNeg, M.2.2)) t2 (by decide) (by decide)]
      show Sum.inl (cA 21, (M.1.2.2 b).2, Sum.inl (lm_cpy M.2.1 a b sp.toNatClampNeg dp.toNatClampNeg nn.toNatClampNeg b)) = _
      have : lm_cpy M.2.1 a b sp.toNatClampNeg dp.toNatClampNeg nn.toNatClampNeg b = va_cpy (M.2.1 a) (M.2.1 b) sp.toNatClampNeg dp.toNatClampNeg nn.toNatClampNeg := funext fun k => if_pos rfl
      rw [this]
    have hne : ∀ o', o' ≠ b → lm_cpy M.2.1 a b sp.toNatClampNeg dp.toNatClampNeg nn.toNatClampNeg o' = M.2.1 o' := fun o' q => funext fun k => if_neg q
    refine va_copyi hx hb (by rw [hml, h.2.2.2.1.1]) hown (hts _ (lm_tbm (List.mem_of_getElem? w1) rfl)) (hts _ (lm_tbm lm_w_native rfl)) (hts _ (lm_tbm lm_w_static rfl)) (hts _ (lm_tbm lm_w_system rfl)) hK h.1 h.2.1 h.2.2.1 a b 0 0 hat hbt rfl rfl rfl g1 g2 g3 g4 g5 (fun _ _ => rfl) hR3.1 ?_ hdec (fun H1 locs1 hP hD hS => ?_)
    · rw [lm_tv_sum]
      have : nativeFrameWords "java/lang/System" "arraycopy" 5 = 7 := by decide
      omega
    · rw [← ec] at hP hD
      refine kN rfl ρ H1 locs1 cs (lm_rel_set (M' := (M.1, lm_cpy M.2.1 a b sp.toNatClampNeg dp.toNatClampNeg nn.toNatClampNeg, M.2.2)) h rfl hob (fun o' hq _ => lm_cell_congr rfl (hne o' hq) rfl (fun _ => rfl)) hP hD hS ?_) (lm_okd (lm_okd (lm_okd (lm_okd (lm_okd hs)))))
      obtain ⟨y1, y2, y3, y4, y5, y6, y7⟩ := h.2.2.2.2.1
      refine ⟨y1, y2, y3, y4, y5, y6, fun j hj => ?_⟩
      show lm_cpy M.2.1 a b sp.toNatClampNeg dp.toNatClampNeg nn.toNatClampNeg (lm_B + 10) j = _
      rw [hne _ (by omega)]
      exact y7 j hj
  case monitorexit =>
    obtain ⟨en, he, hh⟩ := List.any_eq_true.mp (show lm_tO.any (fun e => e.1 / 10000 == cn && decide (raw = .invokespecial (e.1 % 10000))) = true from hck)
    simp only [Bool.and_eq_true, beq_iff_eq, decide_eq_true_eq] at hh
    obtain ⟨e2, er⟩ := hh
    have hn3 : n = 3 := by simp [lm_n] at hn; omega
    subst er; subst hn3
    obtain ⟨a, r, rfl, hg, rfl, rfl, rfl, rfl⟩ := lm_obj_inv hs
    have w1 := List.all_eq_true.mp lm_tO_ok en he
    simp only [decide_eq_true_eq] at w1
    rw [e2] at w1
    intro ρ H locs cs h hs
    refine W.objInit hx hb hown (hts _ (lm_tbm (List.mem_of_getElem? w1) rfl)) (hts _ (lm_tbm lm_w_obj1 rfl)) (hts _ (lm_tbm lm_w_obj2 rfl)) rfl (by rw [hml]; exact h.2.2.2.1.1) rfl hdec hR3.1 ?_ (kN rfl ρ H locs cs h (lm_okd hs))
    show 2 * 0 + _ + 12 ≤ _
    rw [lm_tv_sum]
    omega
  case swap => exact hstr (Or.inl rfl)
  case athrow => exact hstr (Or.inr rfl)
  case invokevirtual r =>
    have hs2 : lm_inv r cd ls st M = some (.inl (c', ls', st', M')) := hs
    unfold lm_inv at hs2
    split at hs2
    · split at hs2 <;> cases hs2
    · cases hs2
  case invokespecial r =>
    have hs2 : lm_inv r cd ls st M = some (.inl (c', ls', st', M')) := hs
    unfold lm_inv at hs2
    split at hs2
    · split at hs2 <;> cases hs2
    · cases hs2
  case invokestatic r =>
    have hs2 : lm_inv r cd ls st M = some (.inl (c', ls', st', M')) := hs
    unfold lm_inv at hs2
    split at hs2
    · split at hs2 <;> cases hs2
    · cases hs2
  case ireturn =>
    have hs2 : lm_ret true cd ls st M = some (.inl (c', ls', st', M')) := hs
    unfold lm_ret at hs2
    split at hs2 <;> cases hs2
  case return_ =>
    have hs2 : lm_ret false cd ls st M = some (.inl (c', ls', st', M')) := hs
    unfold lm_ret at hs2
    split at hs2 <;> cases hs2
  all_goals (exact nomatch hs)
end LMSIM3
