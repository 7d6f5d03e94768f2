/-! ===== the simulation: a whole method ===== -/
theorem lm_args_len (ρ : Nat → Nat) : ∀ as : List Value, (lg_sl (as.map (lm_tv ρ))).length = (lm_args as).length
  | [] => rfl
  | v :: as => by
    have ih := lm_args_len ρ as
    have e1 : lg_sl ((v :: as).map (lm_tv ρ)) = (if (lm_tv ρ v).category = 2 then [Slot.val (lm_tv ρ v), Slot.second] else [Slot.val (lm_tv ρ v)]) ++ lg_sl (as.map (lm_tv ρ)) := rfl
    rw [e1, List.length_append, ih, lm_tv_cat]
    show _ = (if v.category = 2 then v :: Value.null :: lm_args as else v :: lm_args as).length
    split <;> simp <;> omega
theorem lm_args_at (ρ : Nat → Nat) : ∀ (as : List Value) (k i : Nat) (v : Value), (lm_args as)[i]? = some v → v ≠ .null → (k + i, lm_tv ρ v) ∈ lv_args k (as.map (lm_tv ρ))
  | [], k, i, v, h, _ => by simp [lm_args] at h
  | w :: as, k, i, v, h, hn => by
    show _ ∈ (k, lm_tv ρ w) :: lv_args (if (lm_tv ρ w).category = 2 then k + 2 else k + 1) (as.map (lm_tv ρ))
    rw [lm_tv_cat]
    have h : (if w.category = 2 then w :: Value.null :: lm_args as else w :: lm_args as)[i]? = some v := h
    split at h
    · rename_i hc
      rw [if_pos hc]
      match i, h with
      | 0, h => cases h; exact List.mem_cons_self
      | 1, h => cases h; exact absurd rfl hn
      | i + 2, h =>
        have ih := lm_args_at ρ as (k + 2) i v h hn
        rw [show k + (i + 2) = k + 2 + i by omega]
        exact List.mem_cons_of_mem _ ih
    · rename_i hc
      rw [if_neg hc]
      match i, h with
      | 0, h => cases h; exact List.mem_cons_self
      | i + 1, h =>
        have ih := lm_args_at ρ as (k + 1) i v h hn
        rw [show k + (i + 1) = k + 1 + i by omega]
        exact List.mem_cons_of_mem _ ih
theorem lm_args_ok {n : Nat} : ∀ {as : List Value}, lm_oks n as → lm_oks n (lm_args as)
  | [], _ => fun _ h => by cases h
  | v :: as, h => by
    have ih := lm_args_ok (lm_oks_cons.mp h).2
    show lm_oks n (if v.category = 2 then v :: Value.null :: lm_args as else v :: lm_args as)
    split
    · exact lm_oks_cons.mpr ⟨(lm_oks_cons.mp h).1, lm_oks_cons.mpr ⟨trivial, ih⟩⟩
    · exact lm_oks_cons.mpr ⟨(lm_oks_cons.mp h).1, ih⟩
theorem lm_ent_ok {n k : Nat} {as : List Value} (h : lm_oks n as) : lm_oks n (lm_ent k as) := by
  intro v hv
  rcases List.mem_append.mp hv with q | q
  · exact lm_args_ok h v q
  · rw [(List.mem_replicate.mp q).2]; trivial
theorem lm_ent_has {ρ : Nat → Nat} {k : Nat} {as : List Value} (hl : (lm_args as).length ≤ k) : lm_has ρ ((lg_sl (as.map (lm_tv ρ)) ++ List.replicate (k - (lg_sl (as.map (lm_tv ρ))).length) Slot.unset).toArray) k (lm_ent k as) := by
  have h := lv_entry (as.map (lm_tv ρ)) (n := k) (by rw [lm_args_len]; exact hl)
  refine ⟨h.1, h.2.1, by simp [lm_ent]; omega, fun i v hv hn => ?_⟩
  unfold lm_ent at hv
  rcases Nat.lt_or_ge i (lm_args as).length with q | q
  · rw [List.getElem?_append_left q] at hv
    have := lm_args_at ρ as 0 i v hv hn
    rw [Nat.zero_add] at this
    exact h.2.2 _ this
  · rw [List.getElem?_append_right q] at hv
    have := List.mem_of_getElem? hv
    exact absurd (List.mem_replicate.mp this).2 hn
section LMALL
variable {p : Program} {l : Launch} {e : Env} {R : Room} {s : State} {m : MethodId} {args : Array Value} {below : List Frame} {meth : Method} {c : Code} {Q : State → Prop} {D : va_G} {cA : Nat → ClassId} {A : Nat → Prop} {ρ0 : Nat → Nat} {M0 : lm_M} {nL cn : Nat} {ini : Bool} {cc : ByteArray}
variable {J : Nat → lm_C} {i raw : Instr} {cd c' : lm_C} {pc pc' n : Nat} {ls ls' st st' : List Value} {M M' : lm_M}
set_option maxHeartbeats 1000000 in
theorem lm_sim {d mi : Nat} {v : Option Value} {Mf : lm_M} {K : Nat → List Value → lm_M → Option (Option Value × lm_M)} (hmi : mi < 229) (hKm : ∀ mi as M v M', K mi as M = some (v, M') → (M.1.1 ≤ M'.1.1 ∧ M.1.2.1 ≤ M'.1.2.1) ∧ ∃ t, lm_rok t v = true) (hKc : ∀ mi as M v M', mi < 229 → K mi as M = some (v, M') → lm_met l d mi as M v M')
    (hC : lm_ctx p s m args meth c D cA (va_A (lm_ws cA ρ0 M0) s.heap.size) ρ0 cn ini cc nL) (hBf : Mf.1.1 ≤ lm_B) (hckc : lm_ckL cn ini cc (lm_code mi) = true) (hrt : meth.sig.returnType = (match lm_rt mi with | 0 => none | 1 => some .int | 2 => some .boolean | _ => meth.sig.returnType)) (hrok : lm_rok (lm_rt mi) v = true) :
    ∀ (f : Nat) (cd : lm_C) (pc : Nat) (ls st : List Value) (M : lm_M), lm_hd cd pc → lm_ckL cn ini cc cd = true → lm_run K (lm_J mi) f cd ls st M = some (v, Mf) → M0.1.1 ≤ M.1.1 → M0.1.2.1 ≤ M.1.2.1 → lm_G p l e (lm_rm (d + 1) (Mf.1.1 - M0.1.1) (Mf.1.2.1 - M0.1.2.1)) s m args below meth c (MQ below (lm_Qc D cA ρ0 M0 s.heap.size v Mf) args s (Mf.1.1 - M0.1.1) (Mf.1.2.1 - M0.1.2.1) (va_A (lm_ws cA ρ0 M0) s.heap.size)) D cA (va_A (lm_ws cA ρ0 M0) s.heap.size) ρ0 M0 nL (pc) (ls) (st) (M) := by
  intro f
  induction f with
  | zero => intro cd pc ls st M _ _ h; simp [lm_run] at h
  | succ f ih =>
    intro cd pc ls st M hhd hck h h0 h00
    match cd, hhd, hck, h with
    | [], _, _, h => simp [lm_run] at h
    | (pc1, i) :: cd, hhd, hck, h =>
      have e : pc1 = pc := hhd
      subst e
      have hmono := lm_run_mono (J := lm_J mi) (fun mi as M v M' q => (hKm mi as M v M' q).1)
      have hJ : ∀ t, lm_hd (lm_J mi t) t ∧ lm_ckL cn ini cc (lm_J mi t) = true := fun t => ⟨lm_hd_drop t _, lm_ckL_drop _ _ hckc⟩
      cases hs : lm_step (lm_J mi) i cd ls st M with
      | none => simp [lm_run, hs] at h
      | some r =>
        have hnop : ¬ i = .nop := by
          intro q
          subst q
          cases hs
        simp only [lm_ckL, Bool.and_eq_true, Bool.or_eq_true, decide_eq_true_eq] at hck
        obtain ⟨hck1, hck2⟩ := hck
        have hck1 := hck1.resolve_left hnop
        split at hck1
        · rename_i raw n hdec
          simp only [Bool.and_eq_true, Bool.or_eq_true, beq_iff_eq] at hck1
          obtain ⟨⟨c1, c2⟩, c3⟩ := hck1
          have hhd2 : lm_hd cd (pc1 + n) := by
            match cd, c3 with
            | [], _ => trivial
            | (q, _) :: _, c3 => simpa [lm_hd] using c3
          rcases r with ⟨c', ls', st', M'⟩ | ⟨v1, M'⟩ | ⟨mm, as, c', ls', st', M'⟩
          · -- a step
            simp only [lm_run, hs] at h
            have hm1 := lm_step_mono hs
            have hm2 := hmono _ _ _ _ _ _ _ h
            refine lm_sim_nx hC (Nat.le_trans hm2.1 hBf) ⟨h0, h00⟩ ?_ ?_ ⟨?_, ?_⟩ (fun hi => ?_) hdec c2 c1 hs (fun q => ?_) (fun t q => ?_)
            · show _ ≤ Mf.1.1 - M0.1.1; omega
            · show _ ≤ Mf.1.2.1 - M0.1.2.1; omega
            · show 1 ≤ d + 1 + 8; omega
            · show 60 ≤ 60 * (d + 1) + 480; omega
            · refine lm_sim_str hC ⟨?_, ?_⟩ ⟨?_, ?_⟩ hi hdec c2 c1 hs (fun q => ?_)
              · show 8 ≤ d + 1 + 8; omega
              · show 480 ≤ 60 * (d + 1) + 480; omega
              · show _ ≤ Mf.1.1 - M0.1.1; omega
              · show _ ≤ Mf.1.2.1 - M0.1.2.1; omega
              · subst q
                exact ih cd _ _ _ _ hhd2 hck2 h (by omega) (by omega)
            · subst q
              exact ih cd _ _ _ _ hhd2 hck2 h (by omega) (by omega)
            · subst q
              exact ih _ t _ _ _ (hJ t).1 (hJ t).2 h (by omega) (by omega)
          · -- the end
            simp only [lm_run, hs, Option.some.injEq, Prod.mk.injEq] at h
            obtain ⟨rfl, rfl⟩ := h
            obtain ⟨hx, hb, hml, hown, hts, hK, hA, hin, hX, hlk⟩ := id hC
            rcases lm_step_ret hs with ⟨rfl, x, rfl, rfl, rfl⟩ | ⟨rfl, rfl, rfl, rfl⟩
            · have er : raw = .ireturn := by simpa [lm_ck, lm_same] using c1
              have en : n = 1 := by simp [lm_n] at c2; omega
              subst er; subst en
              intro ρ H locs cs hr hok
              have hq : ∀ t : State, t.heap = H → s.WarmedH t.vm → lm_Qc D cA ρ0 M0 s.heap.size (some (.int x)) M args s (.returned (some (.int x))) t := fun t ht hW => ⟨⟨ρ, hr.2.2.2.2.2.2.1, rfl, by rw [ht]; exact hr.1, hr.2.1, hr.2.2.2.2.1⟩, hr.2.2.1.F ht⟩
              have hrk : lm_rt mi = 1 ∨ (lm_rt mi = 2 ∧ (x = 0 ∨ x = 1)) := by simpa [lm_rok] using hrok
              rcases hrk with q | ⟨q, q2⟩
              · rw [q] at hrt
                exact W.zret hx hb hrt rfl hq hr.2.2.1.2.2 hdec hlk
              · rw [q] at hrt
                exact W.zret hx hb hrt (by rcases q2 with rfl | rfl <;> rfl) hq hr.2.2.1.2.2 hdec hlk
            · have er : raw = .return_ := by simpa [lm_ck, lm_same] using c1
              have en : n = 1 := by simp [lm_n] at c2; omega
              subst er; subst en
              intro ρ H locs cs hr hok
              have hq : ∀ t : State, t.heap = H → s.WarmedH t.vm → lm_Qc D cA ρ0 M0 s.heap.size none M args s (.returned none) t := fun t ht hW => ⟨⟨ρ, hr.2.2.2.2.2.2.1, rfl, by rw [ht]; exact hr.1, hr.2.1, hr.2.2.2.2.1⟩, hr.2.2.1.F ht⟩
              have hrk : lm_rt mi = 0 := by simpa [lm_rok] using hrok
              rw [hrk] at hrt
              exact W.vret hx hb hrt hq hr.2.2.1.2.2 hdec hlk
          · -- a call
            simp only [lm_run, hs] at h
            cases hk : K mm as M' with
            | none => simp [hk] at h
            | some q =>
              obtain ⟨v2, M2⟩ := q
              simp only [hk] at h
              obtain ⟨r, hop, hi⟩ := lm_step_call hs
              obtain ⟨g1, g2, g3, rfl, rfl, rfl, rfl⟩ := lm_inv_call hi
              have hm1 := (hKm _ _ _ _ _ hk).1
              have hm2 := hmono _ _ _ _ _ _ _ h
              obtain ⟨tk, hro⟩ := (hKm _ _ _ _ _ hk).2
              have hvr : ∀ x ∈ v2.toList, ∀ ρ' : Nat → Nat, lm_tv ρ' x = x ∧ lm_okv M2.1.1 x := by
                intro x hx ρ'
                cases v2 with
                | none => cases hx
                | some w =>
                  have hx : x = w := by simpa using hx
                  subst hx
                  cases x with
                  | int y => exact ⟨rfl, trivial⟩
                  | _ => simp [lm_rok] at hro
              obtain ⟨en, he, e1, e2, hop2⟩ : ∃ en ∈ lm_tM, en.2.1 = r ∧ en.1 / 10000 = cn ∧ ((raw = .invokevirtual (en.1 % 10000) ∧ (lm_mi (r / 2048)).2.2.2.2.2.2.1 = false ∧ (lm_mi (r / 2048)).1.name ≠ "<init>") ∨ (raw = .invokespecial (en.1 % 10000) ∧ (lm_mi (r / 2048)).2.2.2.2.2.2.1 = false ∧ (lm_mi (r / 2048)).1.name = "<init>") ∨ (raw = .invokestatic (en.1 % 10000) ∧ (lm_mi (r / 2048)).2.2.2.2.2.2.1 = true)) := by
                rcases hop with rfl | rfl | rfl
                · have hck2 : (lm_tM.any (fun e => e.2.1 == r && e.1 / 10000 == cn && decide (raw = .invokevirtual (e.1 % 10000))) && (lm_mi (r / 2048)).2.2.2.2.2.2.1 == false && (lm_mi (r / 2048)).1.name != "<init>") = true := c1
                  simp only [Bool.and_eq_true, beq_iff_eq, bne_iff_ne] at hck2
                  obtain ⟨⟨w1, w2⟩, w3⟩ := hck2
                  obtain ⟨en, he, hh⟩ := List.any_eq_true.mp w1
                  simp only [Bool.and_eq_true, beq_iff_eq, decide_eq_true_eq] at hh
                  exact ⟨en, he, hh.1.1, hh.1.2, Or.inl ⟨hh.2, w2, w3⟩⟩
                · have hck2 : (lm_tM.any (fun e => e.2.1 == r && e.1 / 10000 == cn && decide (raw = .invokespecial (e.1 % 10000))) && (lm_mi (r / 2048)).2.2.2.2.2.2.1 == false && (lm_mi (r / 2048)).1.name == "<init>") = true := c1
                  simp only [Bool.and_eq_true, beq_iff_eq] at hck2
                  obtain ⟨⟨w1, w2⟩, w3⟩ := hck2
                  obtain ⟨en, he, hh⟩ := List.any_eq_true.mp w1
                  simp only [Bool.and_eq_true, beq_iff_eq, decide_eq_true_eq] at hh
                  exact ⟨en, he, hh.1.1, hh.1.2, Or.inr (Or.inl ⟨hh.2, w2, w3⟩)⟩
                · have hck2 : (lm_tM.any (fun e => e.2.1 == r && e.1 / 10000 == cn && decide (raw = .invokestatic (e.1 % 10000))) && (lm_mi (r / 2048)).2.2.2.2.2.2.1 == true) = true := c1
                  simp only [Bool.and_eq_true, beq_iff_eq] at hck2
                  obtain ⟨w1, w2⟩ := hck2
                  obtain ⟨en, he, hh⟩ := List.any_eq_true.mp w1
                  simp only [Bool.and_eq_true, beq_iff_eq, decide_eq_true_eq] at hh
                  exact ⟨en, he, hh.1.1, hh.1.2, Or.inr (Or.inr ⟨hh.2, w2⟩)⟩
              have en3 : n = 3 := by
                rcases hop with rfl | rfl | rfl <;> (simp [lm_n] at c2; omega)
              subst en3
              have hmr : r / 2048 < 229 := by rw [← e1]; exact (lm_tM_spec he).2.1
              refine lm_g_call (d := d) hC he e1 e2 ⟨by show d + 9 ≤ d + 1 + 8; omega, by show 60 * d + 540 ≤ 60 * (d + 1) + 480; omega⟩ (by show _ ≤ Mf.1.1 - M0.1.1; omega) (by show _ ≤ Mf.1.2.1 - M0.1.2.1; omega) (Nat.le_trans hm2.1 hBf) hop2 hdec (hKc _ _ _ _ _ hmr hk) g1 g2 g3 ⟨h0, h00⟩ hm1 hvr ?_
              exact ih _ _ _ _ _ hhd2 hck2 h (by omega) (by omega)
        · cases hck1
end LMALL
theorem lm_call_rok {F d mi : Nat} {as : List Value} {M M' : lm_M} {v : Option Value} (h : lm_call F d mi as M = some (v, M')) : ∃ t, lm_rok t v = true := by
  cases d with
  | zero => simp [lm_call] at h
  | succ d =>
    simp only [lm_call] at h
    split at h
    · split at h
      · rename_i hg
        simp only [Option.some.injEq, Prod.mk.injEq] at h
        obtain ⟨rfl, rfl⟩ := h
        exact ⟨_, hg.2⟩
      · cases h
    · cases h
/-- EVERY light call stands for the method itself, if the resolved code is the class files' code -/
theorem lm_met_all (hckA : ∀ k, k < 229 → lm_ckM k = true) (l : Launch) (F : Nat) : ∀ (d mi : Nat) (as : List Value) (M : lm_M) (v : Option Value) (M' : lm_M), mi < 229 → lm_call F d mi as M = some (v, M') → lm_met l d mi as M v M' := by
  intro d
  induction d with
  | zero => intro mi as M v M' _ h; simp [lm_call] at h
  | succ d ih =>
    intro mi as M v M' hmi h
    simp only [lm_call] at h
    split at h
    · rename_i v1 M1 hrun
      split at h
      · rename_i hg
        simp only [Option.some.injEq, Prod.mk.injEq] at h
        obtain ⟨rfl, rfl⟩ := h
        obtain ⟨hlen, hrok⟩ := hg
        intro D cA ρ hz hwk hB hoks
        obtain ⟨s1, s2, s3, s4, s5, s6, s7, s8, s9⟩ := lm_mi_spec hmi
        have hc := hckA mi hmi
        unfold lm_ckM at hc
        simp only [Bool.and_eq_true, beq_iff_eq] at hc
        obtain ⟨⟨⟨k1, k2⟩, k3⟩, k4⟩ := hc
        refine Met.ofW (cc := (lm_mi mi).2.1) (maxL := (lm_mi mi).2.2.1) (ret := (lm_mi mi).2.2.2.1) s4 rfl ?_
        intro p e s m args below meth c s₁ B hml hv
        obtain ⟨rfl, hsz, hP, hK, hD0, hN, hX⟩ := hv
        subst hsz
        have hts := lm_hts (atoms_spec (ws := lm_wsM mi) B.pre) hN
        have hown : s.vm.findClass (lm_oR (lm_mi mi).2.2.2.2.1) = some m.cls := by rw [← s6]; exact findClass_of_methodNamed B.named
        have hC : lm_ctx p s m (as.map (lm_tv ρ)).toArray meth c D cA (va_A (lm_ws cA ρ M) s.heap.size) ρ (lm_mi mi).2.2.2.2.1 ((lm_mi mi).1.name == "<init>") (lm_mi mi).2.1 (lm_mi mi).2.2.1 := by
          refine ⟨B.exec, B.bytes, hml, hown, hts, hK, fun q hq => Or.inr hq, fun q => ?_, hX, B.notSynchronized⟩
          rw [(name_of_methodNamed B.named B.method).1]
          simpa using q
        have hrt : meth.sig.returnType = (match lm_rt mi with | 0 => none | 1 => some .int | 2 => some .boolean | _ => meth.sig.returnType) := by
          rw [B.returns, k3]
          cases hq : (lm_mi mi).2.2.2.1 with
          | none => rfl
          | some ty => cases ty <;> rfl
        have hhd : lm_hd (lm_code mi) 0 := by
          revert k4
          cases lm_code mi with
          | nil => intro _; trivial
          | cons q t =>
            obtain ⟨pc, i⟩ := q
            intro k4
            match pc, k4 with
            | 0, _ => rfl
            | pc + 1, k4 => cases k4
        have hsim := lm_sim (l := l) (e := e) (below := below) (d := d) hmi (fun mi as M v M' q => ⟨lm_call_mono F d mi as M v M' q, lm_call_rok q⟩) (fun mi as M v M' q1 q2 => ih mi as M v M' q1 q2) hC hB k1 hrt hrok F (lm_code mi) 0 _ [] M hhd k1 hrun (Nat.le_refl _) (Nat.le_refl _)
        rw [lg_entry_eq]
        have hgo := hsim ρ s.heap [] _ ⟨hP, hD0.self, va_S.rf, by rw [← k2]; exact lm_ent_has (by rw [k2]; exact hlen), hwk, lm_ent_ok hoks, fun _ _ => rfl, Nat.le_refl _⟩ (fun _ h => by cases h)
        rw [Nat.sub_self, Nat.sub_self] at hgo
        exact hgo
      · cases h
    · cases h
