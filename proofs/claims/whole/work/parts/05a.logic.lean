/-! ===== a program logic over the light machine ===== -/
theorem lm_run_up {K K' : Nat → List Value → lm_M → Option (Option Value × lm_M)} {J : Nat → lm_C} (hK : ∀ mi as M r, K mi as M = some r → K' mi as M = some r) : ∀ (f f' : Nat) (cd : lm_C) (ls st : List Value) (M : lm_M) (r : Option Value × lm_M), f ≤ f' → lm_run K J f cd ls st M = some r → lm_run K' J f' cd ls st M = some r := by
  intro f
  induction f with
  | zero => intro f' cd ls st M r _ h; simp [lm_run] at h
  | succ f ih =>
    intro f' cd ls st M r hf h
    match f', hf, cd, h with
    | f' + 1, hf, [], h => simp [lm_run] at h
    | f' + 1, hf, (pc, i) :: cd, h =>
      simp only [lm_run] at h ⊢
      cases hs : lm_step J i cd ls st M with
      | none => rw [hs] at h; cases h
      | some q =>
        rw [hs] at h
        rcases q with ⟨c1, ls1, st1, M1⟩ | q | ⟨mm, as, c1, ls1, st1, M1⟩
        · exact ih f' _ _ _ _ _ (by omega) h
        · exact h
        · simp only at h ⊢
          cases hk : K mm as M1 with
          | none => rw [hk] at h; cases h
          | some q =>
            rw [hk] at h
            rw [hK _ _ _ _ hk]
            exact ih f' _ _ _ _ _ (by omega) h
theorem lm_call_up : ∀ (d F F' mi : Nat) (as : List Value) (M : lm_M) (r : Option Value × lm_M), F ≤ F' → lm_call F d mi as M = some r → lm_call F' d mi as M = some r := by
  intro d
  induction d with
  | zero => intro F F' mi as M r _ h; simp [lm_call] at h
  | succ d ih =>
    intro F F' mi as M r hF h
    simp only [lm_call] at h ⊢
    cases hr : lm_run (lm_call F d) (lm_J mi) F (lm_code mi) (lm_ent (lm_ml mi) as) [] M with
    | none => rw [hr] at h; cases h
    | some q =>
      rw [hr] at h
      rw [lm_run_up (fun mi as M r => ih F F' mi as M r hF) F F' _ _ _ _ _ hF hr]
      exact h
/-- deeper is no harm -/
theorem lm_call_dp (F : Nat) : ∀ (d d' mi : Nat) (as : List Value) (M : lm_M) (r : Option Value × lm_M), d ≤ d' → lm_call F d mi as M = some r → lm_call F d' mi as M = some r := by
  intro d
  induction d with
  | zero => intro d' mi as M r _ h; simp [lm_call] at h
  | succ d ih =>
    intro d' mi as M r hd h
    match d', hd with
    | d' + 1, hd =>
      simp only [lm_call] at h ⊢
      cases hr : lm_run (lm_call F d) (lm_J mi) F (lm_code mi) (lm_ent (lm_ml mi) as) [] M with
      | none => rw [hr] at h; cases h
      | some q =>
        rw [hr] at h
        rw [lm_run_up (fun mi as M r => ih d' mi as M r (by omega)) F F _ _ _ _ _ (Nat.le_refl _) hr]
        exact h
/-- from here the method's code goes on, ends, and what it ends with has Q -/
def lw (d mi : Nat) (cd : lm_C) (ls st : List Value) (M : lm_M) (Q : Option Value → lm_M → Prop) : Prop := ∃ (F : Nat) (v : Option Value) (M' : lm_M), lm_run (lm_call F d) (lm_J mi) F cd ls st M = some (v, M') ∧ Q v M'
def lc (d mi : Nat) (as : List Value) (M : lm_M) (Q : Option Value → lm_M → Prop) : Prop := ∃ (F : Nat) (v : Option Value) (M' : lm_M), lm_call F d mi as M = some (v, M') ∧ Q v M'
/-- what is left to do behind a call -/
def lk (d mi : Nat) (cd : lm_C) (ls st : List Value) (Q : Option Value → lm_M → Prop) : Option Value → lm_M → Prop := fun v M => lw d mi cd ls (v.toList ++ st) M Q
theorem lw_next {d mi pc : Nat} {i : Instr} {cd c' : lm_C} {ls ls' st st' : List Value} {M M' : lm_M} {Q : Option Value → lm_M → Prop} (hs : lm_step (lm_J mi) i cd ls st M = some (.inl (c', ls', st', M'))) : lw d mi ((pc, i) :: cd) ls st M Q = lw d mi c' ls' st' M' Q := by
  apply propext
  constructor
  · rintro ⟨F, v, M1, h, hq⟩
    match F, h with
    | F + 1, h =>
      simp only [lm_run, hs] at h
      exact ⟨F + 1, v, M1, lm_run_up (fun _ _ _ _ q => q) F (F + 1) _ _ _ _ _ (Nat.le_succ _) h, hq⟩
  · rintro ⟨F, v, M1, h, hq⟩
    refine ⟨F + 1, v, M1, ?_, hq⟩
    simp only [lm_run, hs]
    exact lm_run_up (fun mi as M r => lm_call_up d F (F + 1) mi as M r (Nat.le_succ _)) F F _ _ _ _ _ (Nat.le_refl _) h
theorem lw_stuck {d mi pc : Nat} {i : Instr} {cd : lm_C} {ls st : List Value} {M : lm_M} {Q : Option Value → lm_M → Prop} (hs : lm_step (lm_J mi) i cd ls st M = none) : lw d mi ((pc, i) :: cd) ls st M Q = False := by
  apply propext
  constructor
  · rintro ⟨F, v, M1, h, hq⟩
    match F, h with
    | F + 1, h =>
      simp only [lm_run, hs] at h
      cases h
  · exact False.elim
theorem lw_end {d mi pc : Nat} {i : Instr} {cd : lm_C} {ls st : List Value} {M M' : lm_M} {v : Option Value} {Q : Option Value → lm_M → Prop} (hs : lm_step (lm_J mi) i cd ls st M = some (.inr (.inl (v, M')))) : lw d mi ((pc, i) :: cd) ls st M Q = Q v M' := by
  apply propext
  constructor
  · rintro ⟨F, v, M1, h, hq⟩
    match F, h with
    | F + 1, h =>
      simp only [lm_run, hs, Option.some.injEq, Prod.mk.injEq] at h
      rw [h.1, h.2]
      exact hq
  · intro hq
    exact ⟨1, v, M', by simp only [lm_run, hs], hq⟩
theorem lw_call {d mi pc mm : Nat} {i : Instr} {cd c' : lm_C} {ls ls' st st' as : List Value} {M M' : lm_M} {Q : Option Value → lm_M → Prop} (hs : lm_step (lm_J mi) i cd ls st M = some (.inr (.inr (mm, as, c', ls', st', M')))) : lw d mi ((pc, i) :: cd) ls st M Q = lc d mm as M' (lk d mi c' ls' st' Q) := by
  apply propext
  constructor
  · rintro ⟨F, v, M1, h, hq⟩
    match F, h with
    | F + 1, h =>
      simp only [lm_run, hs] at h
      cases hk : lm_call (F + 1) d mm as M' with
      | none => rw [hk] at h; cases h
      | some q =>
        obtain ⟨v2, M2⟩ := q
        rw [hk] at h
        exact ⟨F + 1, v2, M2, hk, F + 1, v, M1, lm_run_up (fun _ _ _ _ q => q) F (F + 1) _ _ _ _ _ (Nat.le_succ _) h, hq⟩
  · rintro ⟨F, v2, M2, hk, F2, v, M1, h, hq⟩
    refine ⟨F + F2 + 1, v, M1, ?_, hq⟩
    simp only [lm_run, hs]
    rw [lm_call_up d F (F + F2 + 1) _ _ _ _ (by omega) hk]
    exact lm_run_up (fun mi as M r => lm_call_up d F2 (F + F2 + 1) mi as M r (by omega)) F2 (F + F2) _ _ _ _ _ (by omega) h
theorem lc_succ (d mi : Nat) (as : List Value) (M : lm_M) (Q : Option Value → lm_M → Prop) : lc (d + 1) mi as M Q = ((lm_args as).length ≤ lm_ml mi ∧ lw d mi (lm_code mi) (lm_ent (lm_ml mi) as) [] M (fun v M' => lm_rok (lm_rt mi) v = true ∧ Q v M')) := by
  apply propext
  constructor
  · rintro ⟨F, v, M1, h, hq⟩
    simp only [lm_call] at h
    cases hr : lm_run (lm_call F d) (lm_J mi) F (lm_code mi) (lm_ent (lm_ml mi) as) [] M with
    | none => rw [hr] at h; cases h
    | some q =>
      obtain ⟨v2, M2⟩ := q
      rw [hr] at h
      simp only at h
      split at h
      · rename_i hg
        simp only [Option.some.injEq, Prod.mk.injEq] at h
        obtain ⟨rfl, rfl⟩ := h
        exact ⟨hg.1, F, v2, M2, hr, hg.2, hq⟩
      · cases h
  · rintro ⟨hl, F, v, M1, hr, hok, hq⟩
    refine ⟨F, v, M1, ?_, hq⟩
    simp only [lm_call, hr]
    rw [if_pos ⟨hl, hok⟩]
theorem lc_mono {d mi : Nat} {as : List Value} {M : lm_M} {Q Q' : Option Value → lm_M → Prop} (h : lc d mi as M Q) (hq : ∀ v M', Q v M' → Q' v M') : lc d mi as M Q' := by
  obtain ⟨F, v, M1, h1, h2⟩ := h
  exact ⟨F, v, M1, h1, hq _ _ h2⟩
theorem lw_mono {d mi : Nat} {cd : lm_C} {ls st : List Value} {M : lm_M} {Q Q' : Option Value → lm_M → Prop} (h : lw d mi cd ls st M Q) (hq : ∀ v M', Q v M' → Q' v M') : lw d mi cd ls st M Q' := by
  obtain ⟨F, v, M1, h1, h2⟩ := h
  exact ⟨F, v, M1, h1, hq _ _ h2⟩
/-- a call that comes to an end does so in one way -/
theorem lc_eq {d mi : Nat} {as : List Value} {M M1 : lm_M} {v1 : Option Value} (h : lc d mi as M (fun v M' => v = v1 ∧ M' = M1)) (Q : Option Value → lm_M → Prop) : lc d mi as M Q = Q v1 M1 := by
  apply propext
  obtain ⟨F, v, M2, h1, rfl, rfl⟩ := h
  constructor
  · rintro ⟨F2, v3, M3, h3, hq⟩
    have e := (lm_call_up d F (F + F2) mi as M _ (by omega) h1).symm.trans (lm_call_up d F2 (F + F2) mi as M _ (by omega) h3)
    simp only [Option.some.injEq, Prod.mk.injEq] at e
    rw [e.1, e.2]
    exact hq
  · intro hq
    exact ⟨F, v, M2, h1, hq⟩
theorem lc_dp {d d' mi : Nat} {as : List Value} {M : lm_M} {Q : Option Value → lm_M → Prop} (hd : d ≤ d') (h : lc d mi as M Q) : lc d' mi as M Q := by
  obtain ⟨F, v, M1, h1, h2⟩ := h
  exact ⟨F, v, M1, lm_call_dp F d d' mi as M _ hd h1, h2⟩
theorem lk_v {d mi : Nat} {cd : lm_C} {ls st : List Value} {Q : Option Value → lm_M → Prop} {M : lm_M} {v : Value} : lk d mi cd ls st Q (some v) M = lw d mi cd ls (v :: st) M Q := rfl
theorem lk_n {d mi : Nat} {cd : lm_C} {ls st : List Value} {Q : Option Value → lm_M → Prop} {M : lm_M} : lk d mi cd ls st Q none M = lw d mi cd ls st M Q := rfl
section LWROWS
variable {d mi pc : Nat} {c : lm_C} {ls st : List Value} {S : lm_S} {I : lm_I} {L : lm_L} {R : lm_R} {Q : Option Value → lm_M → Prop}
theorem lw_iconst {n : Int} : lw d mi ((pc, .iconst n) :: c) ls st (S, I, L, R) Q = lw d mi c ls (.int (Int32.ofInt n) :: st) (S, I, L, R) Q := lw_next rfl
theorem lw_bipush {n : Int} : lw d mi ((pc, .bipush n) :: c) ls st (S, I, L, R) Q = lw d mi c ls (.int (Int8.ofInt n).toInt32 :: st) (S, I, L, R) Q := lw_next rfl
theorem lw_sipush {n : Int} : lw d mi ((pc, .sipush n) :: c) ls st (S, I, L, R) Q = lw d mi c ls (.int (Int16.ofInt n).toInt32 :: st) (S, I, L, R) Q := lw_next rfl
theorem lw_lconst {n : Fin 2} : lw d mi ((pc, .lconst n) :: c) ls st (S, I, L, R) Q = lw d mi c ls (.long (Int64.ofNat (n : Nat)) :: st) (S, I, L, R) Q := lw_next rfl
theorem lw_ldc2 {n : Nat} : lw d mi ((pc, .ldc2_w n) :: c) ls st (S, I, L, R) Q = lw d mi c ls (.long (Int64.ofNat n) :: st) (S, I, L, R) Q := lw_next rfl
theorem lw_ldc {n : Nat} : lw d mi ((pc, .ldc n) :: c) ls st (S, I, L, R) Q = lw d mi c ls (.ref (lm_B + n) :: st) (S, I, L, R) Q := lw_next rfl
theorem lw_getst {n : Nat} : lw d mi ((pc, .getstatic n) :: c) ls st (S, I, L, R) Q = lw d mi c ls (.ref (lm_B + n) :: st) (S, I, L, R) Q := lw_next rfl
theorem lw_iload {k : Nat} {x : Int32} (h : ls[k]? = some (.int x)) : lw d mi ((pc, .iload k) :: c) ls st (S, I, L, R) Q = lw d mi c ls (.int x :: st) (S, I, L, R) Q := lw_next (by show lm_ldI k c ls st (S, I, L, R) = _; unfold lm_ldI; rw [h]; rfl)
theorem lw_iload_n {k : Fin 4} {x : Int32} (h : ls[(k : Nat)]? = some (.int x)) : lw d mi ((pc, .iload_n k) :: c) ls st (S, I, L, R) Q = lw d mi c ls (.int x :: st) (S, I, L, R) Q := lw_next (by show lm_ldI (k : Nat) c ls st (S, I, L, R) = _; unfold lm_ldI; rw [h]; rfl)
theorem lw_lload {k : Nat} {x : Int64} (h : ls[k]? = some (.long x)) : lw d mi ((pc, .lload k) :: c) ls st (S, I, L, R) Q = lw d mi c ls (.long x :: st) (S, I, L, R) Q := lw_next (by show lm_ldL k c ls st (S, I, L, R) = _; unfold lm_ldL; rw [h]; rfl)
theorem lw_lload_n {k : Fin 4} {x : Int64} (h : ls[(k : Nat)]? = some (.long x)) : lw d mi ((pc, .lload_n k) :: c) ls st (S, I, L, R) Q = lw d mi c ls (.long x :: st) (S, I, L, R) Q := lw_next (by show lm_ldL (k : Nat) c ls st (S, I, L, R) = _; unfold lm_ldL; rw [h]; rfl)
theorem lw_aload {k : Nat} {x : Nat} (h : ls[k]? = some (.ref x)) : lw d mi ((pc, .aload k) :: c) ls st (S, I, L, R) Q = lw d mi c ls (.ref x :: st) (S, I, L, R) Q := lw_next (by show lm_ldA k c ls st (S, I, L, R) = _; unfold lm_ldA; rw [h]; rfl)
theorem lw_aload_n {k : Fin 4} {x : Nat} (h : ls[(k : Nat)]? = some (.ref x)) : lw d mi ((pc, .aload_n k) :: c) ls st (S, I, L, R) Q = lw d mi c ls (.ref x :: st) (S, I, L, R) Q := lw_next (by show lm_ldA (k : Nat) c ls st (S, I, L, R) = _; unfold lm_ldA; rw [h]; rfl)
theorem lw_istore {k : Nat} {x : Int32} : lw d mi ((pc, .istore k) :: c) ls (.int x :: st) (S, I, L, R) Q = (k < ls.length ∧ lw d mi c (lm_set1 ls k (.int x)) st (S, I, L, R) Q) := by
  by_cases h : k < ls.length
  · rw [eq_true h, true_and]; exact lw_next (if_pos h)
  · rw [eq_false h, false_and]; exact lw_stuck (if_neg h)
theorem lw_istore_n {k : Fin 4} {x : Int32} : lw d mi ((pc, .istore_n k) :: c) ls (.int x :: st) (S, I, L, R) Q = ((k : Nat) < ls.length ∧ lw d mi c (lm_set1 ls (k : Nat) (.int x)) st (S, I, L, R) Q) := by
  by_cases h : (k : Nat) < ls.length
  · rw [eq_true h, true_and]; exact lw_next (if_pos h)
  · rw [eq_false h, false_and]; exact lw_stuck (if_neg h)
theorem lw_astore {k : Nat} {x : Nat} : lw d mi ((pc, .astore k) :: c) ls (.ref x :: st) (S, I, L, R) Q = (k < ls.length ∧ lw d mi c (lm_set1 ls k (.ref x)) st (S, I, L, R) Q) := by
  by_cases h : k < ls.length
  · rw [eq_true h, true_and]; exact lw_next (if_pos h)
  · rw [eq_false h, false_and]; exact lw_stuck (if_neg h)
theorem lw_astore_n {k : Fin 4} {x : Nat} : lw d mi ((pc, .astore_n k) :: c) ls (.ref x :: st) (S, I, L, R) Q = ((k : Nat) < ls.length ∧ lw d mi c (lm_set1 ls (k : Nat) (.ref x)) st (S, I, L, R) Q) := by
  by_cases h : (k : Nat) < ls.length
  · rw [eq_true h, true_and]; exact lw_next (if_pos h)
  · rw [eq_false h, false_and]; exact lw_stuck (if_neg h)
theorem lw_lstore {k : Nat} {x : Int64} : lw d mi ((pc, .lstore k) :: c) ls (.long x :: st) (S, I, L, R) Q = (k + 1 < ls.length ∧ lw d mi c (lm_set2 ls k (.long x)) st (S, I, L, R) Q) := by
  by_cases h : k + 1 < ls.length
  · rw [eq_true h, true_and]; exact lw_next (if_pos h)
  · rw [eq_false h, false_and]; exact lw_stuck (if_neg h)
theorem lw_lstore_n {k : Fin 4} {x : Int64} : lw d mi ((pc, .lstore_n k) :: c) ls (.long x :: st) (S, I, L, R) Q = ((k : Nat) + 1 < ls.length ∧ lw d mi c (lm_set2 ls (k : Nat) (.long x)) st (S, I, L, R) Q) := by
  by_cases h : (k : Nat) + 1 < ls.length
  · rw [eq_true h, true_and]; exact lw_next (if_pos h)
  · rw [eq_false h, false_and]; exact lw_stuck (if_neg h)
theorem lw_iinc {k : Nat} {n : Int} {x : Int32} (h : ls[k]? = some (.int x)) : lw d mi ((pc, .iinc k n) :: c) ls st (S, I, L, R) Q = lw d mi c (lm_set1 ls k (.int (x + Int32.ofInt n))) st (S, I, L, R) Q := lw_next (by show lm_iinc k n c ls st (S, I, L, R) = _; unfold lm_iinc; rw [h]; rfl)
theorem lw_iadd {x y : Int32} : lw d mi ((pc, .iadd) :: c) ls (.int y :: .int x :: st) (S, I, L, R) Q = lw d mi c ls (.int (x + y) :: st) (S, I, L, R) Q := lw_next rfl
theorem lw_isub {x y : Int32} : lw d mi ((pc, .isub) :: c) ls (.int y :: .int x :: st) (S, I, L, R) Q = lw d mi c ls (.int (x - y) :: st) (S, I, L, R) Q := lw_next rfl
theorem lw_imul {x y : Int32} : lw d mi ((pc, .imul) :: c) ls (.int y :: .int x :: st) (S, I, L, R) Q = lw d mi c ls (.int (x * y) :: st) (S, I, L, R) Q := lw_next rfl
theorem lw_iand {x y : Int32} : lw d mi ((pc, .iand) :: c) ls (.int y :: .int x :: st) (S, I, L, R) Q = lw d mi c ls (.int (x &&& y) :: st) (S, I, L, R) Q := lw_next rfl
theorem lw_ior {x y : Int32} : lw d mi ((pc, .ior) :: c) ls (.int y :: .int x :: st) (S, I, L, R) Q = lw d mi c ls (.int (x ||| y) :: st) (S, I, L, R) Q := lw_next rfl
theorem lw_ishl {x y : Int32} : lw d mi ((pc, .ishl) :: c) ls (.int y :: .int x :: st) (S, I, L, R) Q = lw d mi c ls (.int (x <<< (y &&& 31)) :: st) (S, I, L, R) Q := lw_next rfl
theorem lw_ishr {x y : Int32} : lw d mi ((pc, .ishr) :: c) ls (.int y :: .int x :: st) (S, I, L, R) Q = lw d mi c ls (.int (x >>> (y &&& 31)) :: st) (S, I, L, R) Q := lw_next rfl
theorem lw_idiv {x y : Int32} : lw d mi ((pc, .idiv) :: c) ls (.int y :: .int x :: st) (S, I, L, R) Q = (¬ y = 0 ∧ lw d mi c ls (.int (x / y) :: st) (S, I, L, R) Q) := by
  by_cases h : y = 0
  · rw [eq_false (not_not_intro h), false_and]; exact lw_stuck (if_pos h)
  · rw [eq_true h, true_and]; exact lw_next (if_neg h)
theorem lw_irem {x y : Int32} : lw d mi ((pc, .irem) :: c) ls (.int y :: .int x :: st) (S, I, L, R) Q = (¬ y = 0 ∧ lw d mi c ls (.int (x - x / y * y) :: st) (S, I, L, R) Q) := by
  by_cases h : y = 0
  · rw [eq_false (not_not_intro h), false_and]; exact lw_stuck (if_pos h)
  · rw [eq_true h, true_and]; exact lw_next (if_neg h)
theorem lw_land {x y : Int64} : lw d mi ((pc, .land) :: c) ls (.long y :: .long x :: st) (S, I, L, R) Q = lw d mi c ls (.long (x &&& y) :: st) (S, I, L, R) Q := lw_next rfl
theorem lw_lor {x y : Int64} : lw d mi ((pc, .lor) :: c) ls (.long y :: .long x :: st) (S, I, L, R) Q = lw d mi c ls (.long (x ||| y) :: st) (S, I, L, R) Q := lw_next rfl
theorem lw_lshl {x : Int64} {y : Int32} : lw d mi ((pc, .lshl) :: c) ls (.int y :: .long x :: st) (S, I, L, R) Q = lw d mi c ls (.long (x <<< (y.toInt64 &&& 63)) :: st) (S, I, L, R) Q := lw_next rfl
theorem lw_lshr {x : Int64} {y : Int32} : lw d mi ((pc, .lshr) :: c) ls (.int y :: .long x :: st) (S, I, L, R) Q = lw d mi c ls (.long (x >>> (y.toInt64 &&& 63)) :: st) (S, I, L, R) Q := lw_next rfl
theorem lw_lushr {x : Int64} {y : Int32} : lw d mi ((pc, .lushr) :: c) ls (.int y :: .long x :: st) (S, I, L, R) Q = lw d mi c ls (.long ((x.toUInt64 >>> (y.toInt64.toUInt64 &&& Int64.toUInt64 63)).toInt64) :: st) (S, I, L, R) Q := lw_next rfl
theorem lw_lcmp {x y : Int64} : lw d mi ((pc, .lcmp) :: c) ls (.long y :: .long x :: st) (S, I, L, R) Q = lw d mi c ls (.int (lg_cmp x y) :: st) (S, I, L, R) Q := lw_next rfl
theorem lw_i2l {x : Int32} : lw d mi ((pc, .i2l) :: c) ls (.int x :: st) (S, I, L, R) Q = lw d mi c ls (.long x.toInt64 :: st) (S, I, L, R) Q := lw_next rfl
theorem lw_i2b {x : Int32} : lw d mi ((pc, .i2b) :: c) ls (.int x :: st) (S, I, L, R) Q = lw d mi c ls (.int x.toInt8.toInt32 :: st) (S, I, L, R) Q := lw_next rfl
theorem lw_l2i {x : Int64} : lw d mi ((pc, .l2i) :: c) ls (.long x :: st) (S, I, L, R) Q = lw d mi c ls (.int x.toInt32 :: st) (S, I, L, R) Q := lw_next rfl
theorem lw_if_eq {x : Int32} {t : Int} : lw d mi ((pc, .ifCond .eq t) :: c) ls (.int x :: st) (S, I, L, R) Q = ((x = 0 → lw d mi (lm_J mi t.toNat) ls st (S, I, L, R) Q) ∧ (¬ (x = 0) → lw d mi c ls st (S, I, L, R) Q)) := by
  by_cases h : x = 0
  · rw [eq_true h]; simp only [not_true_eq_false, false_implies, and_true, true_implies]; exact lw_next (if_pos (decide_eq_true h))
  · rw [eq_false h]; simp only [not_false_eq_true, false_implies, true_and, true_implies]; exact lw_next (if_neg (fun q => h (of_decide_eq_true q)))
theorem lw_icmp_eq {x y : Int32} {t : Int} : lw d mi ((pc, .if_icmp .eq t) :: c) ls (.int y :: .int x :: st) (S, I, L, R) Q = ((x = y → lw d mi (lm_J mi t.toNat) ls st (S, I, L, R) Q) ∧ (¬ (x = y) → lw d mi c ls st (S, I, L, R) Q)) := by
  by_cases h : x = y
  · rw [eq_true h]; simp only [not_true_eq_false, false_implies, and_true, true_implies]; exact lw_next (if_pos (decide_eq_true h))
  · rw [eq_false h]; simp only [not_false_eq_true, false_implies, true_and, true_implies]; exact lw_next (if_neg (fun q => h (of_decide_eq_true q)))
theorem lw_if_ne {x : Int32} {t : Int} : lw d mi ((pc, .ifCond .ne t) :: c) ls (.int x :: st) (S, I, L, R) Q = ((¬ x = 0 → lw d mi (lm_J mi t.toNat) ls st (S, I, L, R) Q) ∧ (¬ (¬ x = 0) → lw d mi c ls st (S, I, L, R) Q)) := by
  by_cases h : ¬ x = 0
  · rw [eq_true h]; simp only [not_true_eq_false, false_implies, and_true, true_implies]; exact lw_next (if_pos (decide_eq_true h))
  · rw [eq_false h]; simp only [not_false_eq_true, false_implies, true_and, true_implies]; exact lw_next (if_neg (fun q => h (of_decide_eq_true q)))
theorem lw_icmp_ne {x y : Int32} {t : Int} : lw d mi ((pc, .if_icmp .ne t) :: c) ls (.int y :: .int x :: st) (S, I, L, R) Q = ((¬ x = y → lw d mi (lm_J mi t.toNat) ls st (S, I, L, R) Q) ∧ (¬ (¬ x = y) → lw d mi c ls st (S, I, L, R) Q)) := by
  by_cases h : ¬ x = y
  · rw [eq_true h]; simp only [not_true_eq_false, false_implies, and_true, true_implies]; exact lw_next (if_pos (decide_eq_true h))
  · rw [eq_false h]; simp only [not_false_eq_true, false_implies, true_and, true_implies]; exact lw_next (if_neg (fun q => h (of_decide_eq_true q)))
theorem lw_if_lt {x : Int32} {t : Int} : lw d mi ((pc, .ifCond .lt t) :: c) ls (.int x :: st) (S, I, L, R) Q = ((x < 0 → lw d mi (lm_J mi t.toNat) ls st (S, I, L, R) Q) ∧ (¬ (x < 0) → lw d mi c ls st (S, I, L, R) Q)) := by
  by_cases h : x < 0
  · rw [eq_true h]; simp only [not_true_eq_false, false_implies, and_true, true_implies]; exact lw_next (if_pos (decide_eq_true h))
  · rw [eq_false h]; simp only [not_false_eq_true, false_implies, true_and, true_implies]; exact lw_next (if_neg (fun q => h (of_decide_eq_true q)))
theorem lw_icmp_lt {x y : Int32} {t : Int} : lw d mi ((pc, .if_icmp .lt t) :: c) ls (.int y :: .int x :: st) (S, I, L, R) Q = ((x < y → lw d mi (lm_J mi t.toNat) ls st (S, I, L, R) Q) ∧ (¬ (x < y) → lw d mi c ls st (S, I, L, R) Q)) := by
  by_cases h : x < y
  · rw [eq_true h]; simp only [not_true_eq_false, false_implies, and_true, true_implies]; exact lw_next (if_pos (decide_eq_true h))
  · rw [eq_false h]; simp only [not_false_eq_true, false_implies, true_and, true_implies]; exact lw_next (if_neg (fun q => h (of_decide_eq_true q)))
theorem lw_if_ge {x : Int32} {t : Int} : lw d mi ((pc, .ifCond .ge t) :: c) ls (.int x :: st) (S, I, L, R) Q = ((0 ≤ x → lw d mi (lm_J mi t.toNat) ls st (S, I, L, R) Q) ∧ (¬ (0 ≤ x) → lw d mi c ls st (S, I, L, R) Q)) := by
  by_cases h : 0 ≤ x
  · rw [eq_true h]; simp only [not_true_eq_false, false_implies, and_true, true_implies]; exact lw_next (if_pos (decide_eq_true h))
  · rw [eq_false h]; simp only [not_false_eq_true, false_implies, true_and, true_implies]; exact lw_next (if_neg (fun q => h (of_decide_eq_true q)))
theorem lw_icmp_ge {x y : Int32} {t : Int} : lw d mi ((pc, .if_icmp .ge t) :: c) ls (.int y :: .int x :: st) (S, I, L, R) Q = ((y ≤ x → lw d mi (lm_J mi t.toNat) ls st (S, I, L, R) Q) ∧ (¬ (y ≤ x) → lw d mi c ls st (S, I, L, R) Q)) := by
  by_cases h : y ≤ x
  · rw [eq_true h]; simp only [not_true_eq_false, false_implies, and_true, true_implies]; exact lw_next (if_pos (decide_eq_true h))
  · rw [eq_false h]; simp only [not_false_eq_true, false_implies, true_and, true_implies]; exact lw_next (if_neg (fun q => h (of_decide_eq_true q)))
theorem lw_if_gt {x : Int32} {t : Int} : lw d mi ((pc, .ifCond .gt t) :: c) ls (.int x :: st) (S, I, L, R) Q = ((0 < x → lw d mi (lm_J mi t.toNat) ls st (S, I, L, R) Q) ∧ (¬ (0 < x) → lw d mi c ls st (S, I, L, R) Q)) := by
  by_cases h : 0 < x
  · rw [eq_true h]; simp only [not_true_eq_false, false_implies, and_true, true_implies]; exact lw_next (if_pos (decide_eq_true h))
  · rw [eq_false h]; simp only [not_false_eq_true, false_implies, true_and, true_implies]; exact lw_next (if_neg (fun q => h (of_decide_eq_true q)))
theorem lw_icmp_gt {x y : Int32} {t : Int} : lw d mi ((pc, .if_icmp .gt t) :: c) ls (.int y :: .int x :: st) (S, I, L, R) Q = ((y < x → lw d mi (lm_J mi t.toNat) ls st (S, I, L, R) Q) ∧ (¬ (y < x) → lw d mi c ls st (S, I, L, R) Q)) := by
  by_cases h : y < x
  · rw [eq_true h]; simp only [not_true_eq_false, false_implies, and_true, true_implies]; exact lw_next (if_pos (decide_eq_true h))
  · rw [eq_false h]; simp only [not_false_eq_true, false_implies, true_and, true_implies]; exact lw_next (if_neg (fun q => h (of_decide_eq_true q)))
theorem lw_if_le {x : Int32} {t : Int} : lw d mi ((pc, .ifCond .le t) :: c) ls (.int x :: st) (S, I, L, R) Q = ((x ≤ 0 → lw d mi (lm_J mi t.toNat) ls st (S, I, L, R) Q) ∧ (¬ (x ≤ 0) → lw d mi c ls st (S, I, L, R) Q)) := by
  by_cases h : x ≤ 0
  · rw [eq_true h]; simp only [not_true_eq_false, false_implies, and_true, true_implies]; exact lw_next (if_pos (decide_eq_true h))
  · rw [eq_false h]; simp only [not_false_eq_true, false_implies, true_and, true_implies]; exact lw_next (if_neg (fun q => h (of_decide_eq_true q)))
theorem lw_icmp_le {x y : Int32} {t : Int} : lw d mi ((pc, .if_icmp .le t) :: c) ls (.int y :: .int x :: st) (S, I, L, R) Q = ((x ≤ y → lw d mi (lm_J mi t.toNat) ls st (S, I, L, R) Q) ∧ (¬ (x ≤ y) → lw d mi c ls st (S, I, L, R) Q)) := by
  by_cases h : x ≤ y
  · rw [eq_true h]; simp only [not_true_eq_false, false_implies, and_true, true_implies]; exact lw_next (if_pos (decide_eq_true h))
  · rw [eq_false h]; simp only [not_false_eq_true, false_implies, true_and, true_implies]; exact lw_next (if_neg (fun q => h (of_decide_eq_true q)))
theorem lw_goto {t : Int} : lw d mi ((pc, .goto t) :: c) ls st (S, I, L, R) Q = lw d mi (lm_J mi t.toNat) ls st (S, I, L, R) Q := lw_next rfl
theorem lw_table {dd lo hi : Int} {os : Array Int} {x : Int32} : lw d mi ((pc, .tableswitch dd lo hi os) :: c) ls (.int x :: st) (S, I, L, R) Q = (((x.toInt < lo ∨ hi < x.toInt) → lw d mi (lm_J mi dd.toNat) ls st (S, I, L, R) Q) ∧ (¬ (x.toInt < lo ∨ hi < x.toInt) → ∃ t, os.toList[(x.toInt - lo).toNat]? = some t ∧ lw d mi (lm_J mi t.toNat) ls st (S, I, L, R) Q)) := by
  by_cases h : x.toInt < lo ∨ hi < x.toInt
  · rw [eq_true h]; simp only [not_true_eq_false, false_implies, and_true, true_implies]; exact lw_next (if_pos h)
  · rw [eq_false h]; simp only [not_false_eq_true, false_implies, true_and, true_implies]
    cases ht : os.toList[(x.toInt - lo).toNat]? with
    | none =>
      have e1 : lw d mi ((pc, .tableswitch dd lo hi os) :: c) ls (.int x :: st) (S, I, L, R) Q = False := lw_stuck (by show lm_tab (lm_J mi) dd lo hi os ls (.int x :: st) (S, I, L, R) = none; unfold lm_tab; simp only [if_neg h, ht])
      rw [e1]; simp
    | some t =>
      have e1 : lw d mi ((pc, .tableswitch dd lo hi os) :: c) ls (.int x :: st) (S, I, L, R) Q = lw d mi (lm_J mi t.toNat) ls st (S, I, L, R) Q := lw_next (by show lm_tab (lm_J mi) dd lo hi os ls (.int x :: st) (S, I, L, R) = some (.inl (lm_J mi t.toNat, ls, st, (S, I, L, R))); unfold lm_tab; simp only [if_neg h, ht]; rfl)
      rw [e1]; simp
theorem lw_lookup {dd : Int} {ps : Array (Int × Int)} {x : Int32} : lw d mi ((pc, .lookupswitch dd ps) :: c) ls (.int x :: st) (S, I, L, R) Q = lw d mi (lm_J mi (lm_lku dd x.toInt ps.toList).toNat) ls st (S, I, L, R) Q := lw_next rfl
theorem lw_dup_i {x : Int32} : lw d mi ((pc, .dup) :: c) ls (.int x :: st) (S, I, L, R) Q = lw d mi c ls (.int x :: .int x :: st) (S, I, L, R) Q := lw_next rfl
theorem lw_pop_i {x : Int32} : lw d mi ((pc, .pop) :: c) ls (.int x :: st) (S, I, L, R) Q = lw d mi c ls st (S, I, L, R) Q := lw_next rfl
theorem lw_dup_r {x : Nat} : lw d mi ((pc, .dup) :: c) ls (.ref x :: st) (S, I, L, R) Q = lw d mi c ls (.ref x :: .ref x :: st) (S, I, L, R) Q := lw_next rfl
theorem lw_pop_r {x : Nat} : lw d mi ((pc, .pop) :: c) ls (.ref x :: st) (S, I, L, R) Q = lw d mi c ls st (S, I, L, R) Q := lw_next rfl
theorem lw_dup2 {x y : Int32} : lw d mi ((pc, .dup2) :: c) ls (.int y :: .int x :: st) (S, I, L, R) Q = lw d mi c ls (.int y :: .int x :: .int y :: .int x :: st) (S, I, L, R) Q := lw_next rfl
theorem lw_dup2r {x : Nat} {y : Int32} : lw d mi ((pc, .dup2) :: c) ls (.int y :: .ref x :: st) (S, I, L, R) Q = lw d mi c ls (.int y :: .ref x :: .int y :: .ref x :: st) (S, I, L, R) Q := lw_next rfl
theorem lw_getI {r o : Nat} (hk : r % 8 = 0) : lw d mi ((pc, .getfield r) :: c) ls (.ref o :: st) (S, I, L, R) Q = ((S.2.2 o).1 = r / 1024 ∧ lw d mi c ls (.int (I o (r / 8 % 128)) :: st) (S, I, L, R) Q) := by
  by_cases h : (S.2.2 o).1 = r / 1024
  · rw [eq_true h, true_and]; exact lw_next (by show lm_getf r c ls (.ref o :: st) (S, I, L, R) = _; unfold lm_getf; simp only [if_pos h, hk]; rfl)
  · rw [eq_false h, false_and]; exact lw_stuck (by show lm_getf r c ls (.ref o :: st) (S, I, L, R) = _; unfold lm_getf; simp only [if_neg h])
theorem lw_getL {r o : Nat} (hk : r % 8 = 1) : lw d mi ((pc, .getfield r) :: c) ls (.ref o :: st) (S, I, L, R) Q = ((S.2.2 o).1 = r / 1024 ∧ lw d mi c ls (.long (L o (r / 8 % 128)) :: st) (S, I, L, R) Q) := by
  by_cases h : (S.2.2 o).1 = r / 1024
  · rw [eq_true h, true_and]; exact lw_next (by show lm_getf r c ls (.ref o :: st) (S, I, L, R) = _; unfold lm_getf; simp only [if_pos h, hk]; rfl)
  · rw [eq_false h, false_and]; exact lw_stuck (by show lm_getf r c ls (.ref o :: st) (S, I, L, R) = _; unfold lm_getf; simp only [if_neg h])
theorem lw_getR {r o : Nat} (hk : r % 8 = 2) : lw d mi ((pc, .getfield r) :: c) ls (.ref o :: st) (S, I, L, R) Q = ((S.2.2 o).1 = r / 1024 ∧ lw d mi c ls (R o (r / 8 % 128) :: st) (S, I, L, R) Q) := by
  by_cases h : (S.2.2 o).1 = r / 1024
  · rw [eq_true h, true_and]; exact lw_next (by show lm_getf r c ls (.ref o :: st) (S, I, L, R) = _; unfold lm_getf; simp only [if_pos h, hk]; rfl)
  · rw [eq_false h, false_and]; exact lw_stuck (by show lm_getf r c ls (.ref o :: st) (S, I, L, R) = _; unfold lm_getf; simp only [if_neg h])
theorem lw_getZ {r o : Nat} (hk : r % 8 = 3) : lw d mi ((pc, .getfield r) :: c) ls (.ref o :: st) (S, I, L, R) Q = ((S.2.2 o).1 = r / 1024 ∧ lw d mi c ls (.int (I o (r / 8 % 128)) :: st) (S, I, L, R) Q) := by
  by_cases h : (S.2.2 o).1 = r / 1024
  · rw [eq_true h, true_and]; exact lw_next (by show lm_getf r c ls (.ref o :: st) (S, I, L, R) = _; unfold lm_getf; simp only [if_pos h, hk]; rfl)
  · rw [eq_false h, false_and]; exact lw_stuck (by show lm_getf r c ls (.ref o :: st) (S, I, L, R) = _; unfold lm_getf; simp only [if_neg h])
theorem lw_putI {r o : Nat} {x : Int32} (hk : r % 8 = 0) : lw d mi ((pc, .putfield r) :: c) ls (.int x :: .ref o :: st) (S, I, L, R) Q = ((S.2.2 o).1 = r / 1024 ∧ lw d mi c ls st (S, lm_up I o (r / 8 % 128) x, L, R) Q) := by
  by_cases h : (S.2.2 o).1 = r / 1024
  · rw [eq_true h, true_and]; exact lw_next (by show lm_putf r c ls (.int x :: .ref o :: st) (S, I, L, R) = _; unfold lm_putf; simp only [if_pos h, hk]; rfl)
  · rw [eq_false h, false_and]; exact lw_stuck (by show lm_putf r c ls (.int x :: .ref o :: st) (S, I, L, R) = _; unfold lm_putf; simp only [if_neg h])
theorem lw_putL {r o : Nat} {x : Int64} (hk : r % 8 = 1) : lw d mi ((pc, .putfield r) :: c) ls (.long x :: .ref o :: st) (S, I, L, R) Q = ((S.2.2 o).1 = r / 1024 ∧ lw d mi c ls st (S, I, lm_up L o (r / 8 % 128) x, R) Q) := by
  by_cases h : (S.2.2 o).1 = r / 1024
  · rw [eq_true h, true_and]; exact lw_next (by show lm_putf r c ls (.long x :: .ref o :: st) (S, I, L, R) = _; unfold lm_putf; simp only [if_pos h, hk]; rfl)
  · rw [eq_false h, false_and]; exact lw_stuck (by show lm_putf r c ls (.long x :: .ref o :: st) (S, I, L, R) = _; unfold lm_putf; simp only [if_neg h])
theorem lw_putR {r o : Nat} {x : Nat} (hk : r % 8 = 2) : lw d mi ((pc, .putfield r) :: c) ls (.ref x :: .ref o :: st) (S, I, L, R) Q = ((S.2.2 o).1 = r / 1024 ∧ lw d mi c ls st (S, I, L, lm_up R o (r / 8 % 128) (.ref x)) Q) := by
  by_cases h : (S.2.2 o).1 = r / 1024
  · rw [eq_true h, true_and]; exact lw_next (by show lm_putf r c ls (.ref x :: .ref o :: st) (S, I, L, R) = _; unfold lm_putf; simp only [if_pos h, hk]; rfl)
  · rw [eq_false h, false_and]; exact lw_stuck (by show lm_putf r c ls (.ref x :: .ref o :: st) (S, I, L, R) = _; unfold lm_putf; simp only [if_neg h])
theorem lw_putZ {r o : Nat} {x : Int32} (hk : r % 8 = 3) : lw d mi ((pc, .putfield r) :: c) ls (.int x :: .ref o :: st) (S, I, L, R) Q = (((S.2.2 o).1 = r / 1024 ∧ (x = 0 ∨ x = 1)) ∧ lw d mi c ls st (S, lm_up I o (r / 8 % 128) x, L, R) Q) := by
  by_cases h : (S.2.2 o).1 = r / 1024 ∧ (x = 0 ∨ x = 1)
  · rw [eq_true h, true_and]; exact lw_next (by show lm_putf r c ls (.int x :: .ref o :: st) (S, I, L, R) = _; unfold lm_putf; simp only [if_pos h.1, hk, if_pos h.2]; rfl)
  · rw [eq_false h, false_and]
    by_cases h1 : (S.2.2 o).1 = r / 1024
    · exact lw_stuck (by show lm_putf r c ls (.int x :: .ref o :: st) (S, I, L, R) = _; unfold lm_putf; simp only [if_pos h1, hk, if_neg (fun q => h ⟨h1, q⟩)])
    · exact lw_stuck (by show lm_putf r c ls (.int x :: .ref o :: st) (S, I, L, R) = _; unfold lm_putf; simp only [if_neg h1])
theorem lw_iaload {i : Int32} {a : Nat} : lw d mi ((pc, .iaload) :: c) ls (.int i :: .ref a :: st) (S, I, L, R) Q = ((((S.2.2 a).1 = 21 ∨ (S.2.2 a).1 = 30) ∧ ¬ (i < 0 ∨ (S.2.2 a).2 ≤ i.toNatClampNeg)) ∧ lw d mi c ls (.int (I a i.toNatClampNeg) :: st) (S, I, L, R) Q) := by
  by_cases h : ((S.2.2 a).1 = 21 ∨ (S.2.2 a).1 = 30) ∧ ¬ (i < 0 ∨ (S.2.2 a).2 ≤ i.toNatClampNeg)
  · rw [eq_true h, true_and]; exact lw_next (if_pos h)
  · rw [eq_false h, false_and]; exact lw_stuck (if_neg h)
theorem lw_baload {i : Int32} {a : Nat} : lw d mi ((pc, .baload) :: c) ls (.int i :: .ref a :: st) (S, I, L, R) Q = ((((S.2.2 a).1 = 23 ∨ (S.2.2 a).1 = 24) ∧ ¬ (i < 0 ∨ (S.2.2 a).2 ≤ i.toNatClampNeg)) ∧ lw d mi c ls (.int (I a i.toNatClampNeg) :: st) (S, I, L, R) Q) := by
  by_cases h : ((S.2.2 a).1 = 23 ∨ (S.2.2 a).1 = 24) ∧ ¬ (i < 0 ∨ (S.2.2 a).2 ≤ i.toNatClampNeg)
  · rw [eq_true h, true_and]; exact lw_next (if_pos h)
  · rw [eq_false h, false_and]; exact lw_stuck (if_neg h)
theorem lw_laload {i : Int32} {a : Nat} : lw d mi ((pc, .laload) :: c) ls (.int i :: .ref a :: st) (S, I, L, R) Q = (((S.2.2 a).1 = 22 ∧ ¬ (i < 0 ∨ (S.2.2 a).2 ≤ i.toNatClampNeg)) ∧ lw d mi c ls (.long (L a i.toNatClampNeg) :: st) (S, I, L, R) Q) := by
  by_cases h : (S.2.2 a).1 = 22 ∧ ¬ (i < 0 ∨ (S.2.2 a).2 ≤ i.toNatClampNeg)
  · rw [eq_true h, true_and]; exact lw_next (if_pos h)
  · rw [eq_false h, false_and]; exact lw_stuck (if_neg h)
theorem lw_iastore {x i : Int32} {a : Nat} : lw d mi ((pc, .iastore) :: c) ls (.int x :: .int i :: .ref a :: st) (S, I, L, R) Q = (((S.2.2 a).1 = 21 ∧ ¬ (i < 0 ∨ (S.2.2 a).2 ≤ i.toNatClampNeg)) ∧ lw d mi c ls st (S, lm_up I a i.toNatClampNeg x, L, R) Q) := by
  by_cases h : (S.2.2 a).1 = 21 ∧ ¬ (i < 0 ∨ (S.2.2 a).2 ≤ i.toNatClampNeg)
  · rw [eq_true h, true_and]; exact lw_next (if_pos h)
  · rw [eq_false h, false_and]; exact lw_stuck (if_neg h)
theorem lw_bastore {x i : Int32} {a : Nat} : lw d mi ((pc, .bastore) :: c) ls (.int x :: .int i :: .ref a :: st) (S, I, L, R) Q = ((((S.2.2 a).1 = 23 ∨ (S.2.2 a).1 = 24) ∧ ¬ (i < 0 ∨ (S.2.2 a).2 ≤ i.toNatClampNeg)) ∧ lw d mi c ls st (S, lm_up I a i.toNatClampNeg (lm_nar (S.2.2 a).1 x), L, R) Q) := by
  by_cases h : ((S.2.2 a).1 = 23 ∨ (S.2.2 a).1 = 24) ∧ ¬ (i < 0 ∨ (S.2.2 a).2 ≤ i.toNatClampNeg)
  · rw [eq_true h, true_and]; exact lw_next (if_pos h)
  · rw [eq_false h, false_and]; exact lw_stuck (if_neg h)
theorem lw_lastore {x : Int64} {i : Int32} {a : Nat} : lw d mi ((pc, .lastore) :: c) ls (.long x :: .int i :: .ref a :: st) (S, I, L, R) Q = (((S.2.2 a).1 = 22 ∧ ¬ (i < 0 ∨ (S.2.2 a).2 ≤ i.toNatClampNeg)) ∧ lw d mi c ls st (S, I, lm_up L a i.toNatClampNeg x, R) Q) := by
  by_cases h : (S.2.2 a).1 = 22 ∧ ¬ (i < 0 ∨ (S.2.2 a).2 ≤ i.toNatClampNeg)
  · rw [eq_true h, true_and]; exact lw_next (if_pos h)
  · rw [eq_false h, false_and]; exact lw_stuck (if_neg h)
theorem lw_alen {a : Nat} : lw d mi ((pc, .arraylength) :: c) ls (.ref a :: st) (S, I, L, R) Q = ((21 ≤ (S.2.2 a).1 ∧ (S.2.2 a).1 ≤ 30) ∧ lw d mi c ls (.int (Int32.ofNat (S.2.2 a).2) :: st) (S, I, L, R) Q) := by
  by_cases h : 21 ≤ (S.2.2 a).1 ∧ (S.2.2 a).1 ≤ 30
  · rw [eq_true h, true_and]; exact lw_next (if_pos h)
  · rw [eq_false h, false_and]; exact lw_stuck (if_neg h)
theorem lw_newa {t : ArrayType} {n : Int32} : lw d mi ((pc, .newarray t) :: c) ls (.int n :: st) (S, I, L, R) Q = ((¬ n < 0 ∧ lm_ty t ≠ 99 ∧ n.toNatClampNeg ≤ 65536) ∧ lw d mi c ls (.ref S.1 :: st) ((S.1 + 1, S.2.1 + n.toNatClampNeg, lm_us S.2.2 S.1 (lm_ty t, n.toNatClampNeg)), lm_z I S.1 0, lm_z L S.1 0, lm_z R S.1 .null) Q) := by
  by_cases h : ¬ n < 0 ∧ lm_ty t ≠ 99 ∧ n.toNatClampNeg ≤ 65536
  · rw [eq_true h, true_and]; exact lw_next (if_pos h)
  · rw [eq_false h, false_and]; exact lw_stuck (if_neg h)
theorem lw_new {ci : Nat} : lw d mi ((pc, .new ci) :: c) ls st (S, I, L, R) Q = (ci < 11 ∧ lw d mi c ls (.ref S.1 :: st) ((S.1 + 1, S.2.1 + lm_cN ci, lm_us S.2.2 S.1 (ci, 0)), lm_z I S.1 0, lm_z L S.1 0, lm_z R S.1 .null) Q) := by
  by_cases h : ci < 11
  · rw [eq_true h, true_and]; exact lw_next (if_pos h)
  · rw [eq_false h, false_and]; exact lw_stuck (if_neg h)
theorem lw_copy {n dp sp : Int32} {a b : Nat} : lw d mi ((pc, .monitorenter) :: c) ls (.int n :: .int dp :: .ref b :: .int sp :: .ref a :: st) (S, I, L, R) Q = (((S.2.2 a).1 = 21 ∧ (S.2.2 b).1 = 21 ∧ ¬ sp < 0 ∧ ¬ dp < 0 ∧ ¬ n < 0 ∧ sp.toNatClampNeg + n.toNatClampNeg ≤ (S.2.2 a).2 ∧ dp.toNatClampNeg + n.toNatClampNeg ≤ (S.2.2 b).2 ∧ (st.map fun v => v.category).sum ≤ 8) ∧ lw d mi c ls st (S, lm_cpy I a b sp.toNatClampNeg dp.toNatClampNeg n.toNatClampNeg, L, R) Q) := by
  by_cases h : (S.2.2 a).1 = 21 ∧ (S.2.2 b).1 = 21 ∧ ¬ sp < 0 ∧ ¬ dp < 0 ∧ ¬ n < 0 ∧ sp.toNatClampNeg + n.toNatClampNeg ≤ (S.2.2 a).2 ∧ dp.toNatClampNeg + n.toNatClampNeg ≤ (S.2.2 b).2 ∧ (st.map fun v => v.category).sum ≤ 8
  · rw [eq_true h, true_and]; exact lw_next (if_pos h)
  · rw [eq_false h, false_and]; exact lw_stuck (if_neg h)
theorem lw_obj {a : Nat} : lw d mi ((pc, .monitorexit) :: c) ls (.ref a :: st) (S, I, L, R) Q = (((st.map fun v => v.category).sum ≤ 8) ∧ lw d mi c ls st (S, I, L, R) Q) := by
  by_cases h : (st.map fun v => v.category).sum ≤ 8
  · rw [eq_true h, true_and]; exact lw_next (if_pos h)
  · rw [eq_false h, false_and]; exact lw_stuck (if_neg h)
theorem lw_invokevirtual {r : Nat} {as st' : List Value} (hp : lm_pop (r / 128 % 16) [] st = some (as, st')) : lw d mi ((pc, .invokevirtual r) :: c) ls st (S, I, L, R) Q = (((st'.map fun v => v.category).sum ≤ 8 ∧ lm_rc r as (S, I, L, R) = true) ∧ lc d (r / 2048) as (S, I, L, R) (lk d mi c ls st' Q)) := by
  by_cases h : (st'.map fun v => v.category).sum ≤ 8 ∧ lm_rc r as (S, I, L, R) = true
  · rw [eq_true h, true_and]; exact lw_call (by show lm_inv r c ls st (S, I, L, R) = _; unfold lm_inv; simp only [hp, if_pos h])
  · rw [eq_false h, false_and]; exact lw_stuck (by show lm_inv r c ls st (S, I, L, R) = _; unfold lm_inv; simp only [hp, if_neg h])
theorem lw_invokespecial {r : Nat} {as st' : List Value} (hp : lm_pop (r / 128 % 16) [] st = some (as, st')) : lw d mi ((pc, .invokespecial r) :: c) ls st (S, I, L, R) Q = (((st'.map fun v => v.category).sum ≤ 8 ∧ lm_rc r as (S, I, L, R) = true) ∧ lc d (r / 2048) as (S, I, L, R) (lk d mi c ls st' Q)) := by
  by_cases h : (st'.map fun v => v.category).sum ≤ 8 ∧ lm_rc r as (S, I, L, R) = true
  · rw [eq_true h, true_and]; exact lw_call (by show lm_inv r c ls st (S, I, L, R) = _; unfold lm_inv; simp only [hp, if_pos h])
  · rw [eq_false h, false_and]; exact lw_stuck (by show lm_inv r c ls st (S, I, L, R) = _; unfold lm_inv; simp only [hp, if_neg h])
theorem lw_invokestatic {r : Nat} {as st' : List Value} (hp : lm_pop (r / 128 % 16) [] st = some (as, st')) : lw d mi ((pc, .invokestatic r) :: c) ls st (S, I, L, R) Q = (((st'.map fun v => v.category).sum ≤ 8 ∧ lm_rc r as (S, I, L, R) = true) ∧ lc d (r / 2048) as (S, I, L, R) (lk d mi c ls st' Q)) := by
  by_cases h : (st'.map fun v => v.category).sum ≤ 8 ∧ lm_rc r as (S, I, L, R) = true
  · rw [eq_true h, true_and]; exact lw_call (by show lm_inv r c ls st (S, I, L, R) = _; unfold lm_inv; simp only [hp, if_pos h])
  · rw [eq_false h, false_and]; exact lw_stuck (by show lm_inv r c ls st (S, I, L, R) = _; unfold lm_inv; simp only [hp, if_neg h])
theorem lw_iret {x : Int32} : lw d mi ((pc, .ireturn) :: c) ls [.int x] (S, I, L, R) Q = Q (some (.int x)) (S, I, L, R) := lw_end rfl
theorem lw_vret  : lw d mi ((pc, .return_) :: c) ls [] (S, I, L, R) Q = Q none (S, I, L, R) := lw_end rfl
end LWROWS
