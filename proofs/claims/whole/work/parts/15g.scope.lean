/-! ===== what scopes nodes and binders have ===== -/
/-- lambda binders from s outwards, down to s0 -/
def scl (z : Zt) : Nat → List Nat → Nat → Prop
  | s, [], s0 => s = s0
  | s, b :: l, s0 => s = 11 + b ∧ z 22 b = 2 ∧ b < z 30 2 ∧ scl z (z 21 b) l s0
def ScR (z z' : Zt) : Prop := (z 30 0 ≤ z' 30 0 ∧ z 30 2 ≤ z' 30 2 ∧ z' 30 1 = z 30 1 ∧ z' 30 6 = z 30 6) ∧ ((∀ c b, 20 ≤ c → c ≤ 23 → b < z 30 2 → z' c b = z c b) ∧ (∀ n, n < z 30 0 → z' 10 n = z 10 n)) ∧ (∀ n, z 30 0 ≤ n → n < z' 30 0 → ∃ l, scl z' (z' 10 n) l (z 30 6)) ∧ (∀ b, z 30 2 ≤ b → b < z' 30 2 → z' 22 b = 2 ∧ z' 23 b = z 30 1 - 1 ∧ ∃ l, scl z' (z' 21 b) l (z 30 6))
section SCOPE
variable {kd pl : Nat → Nat} {pr : Nat → Bool} {rec : Nat → Nat → Zt → Rs}
theorem scl_mv {z z' : Zt} (h2 : z 30 2 ≤ z' 30 2) (hc : ∀ c b, 20 ≤ c → c ≤ 23 → b < z 30 2 → z' c b = z c b) : ∀ (l : List Nat) (s s0 : Nat), scl z s l s0 → scl z' s l s0 := by
  intro l
  induction l with
  | nil => intro s s0 h; exact h
  | cons b l ih =>
    intro s s0 ⟨a1, a2, a3, a4⟩
    refine ⟨a1, by rw [hc 22 b (by decide) (by decide) a3]; exact a2, by omega, ?_⟩
    rw [hc 21 b (by decide) (by decide) a3]
    exact ih _ _ a4
theorem scl_app {z : Zt} {b s0 : Nat} (h1 : z 22 b = 2) (h2 : b < z 30 2) (h3 : z 21 b = s0) : ∀ (l : List Nat) (s : Nat), scl z s l (11 + b) → scl z s (l ++ [b]) s0 := by
  intro l
  induction l with
  | nil => intro s h; exact ⟨h, h1, h2, h3⟩
  | cons c l ih => intro s ⟨a1, a2, a3, a4⟩; exact ⟨a1, a2, a3, ih _ a4⟩
theorem ScR.rf {z : Zt} : ScR z z := ⟨⟨Nat.le_refl _, Nat.le_refl _, rfl, rfl⟩, ⟨fun _ _ _ _ _ => rfl, fun _ _ => rfl⟩, fun n h1 h2 => by omega, fun b h1 h2 => by omega⟩
theorem ScR.tr {z z1 z2 : Zt} (h : ScR z z1) (h2 : ScR z1 z2) : ScR z z2 := by
  obtain ⟨⟨a1, a2, a3, a4⟩, ⟨a5, a6⟩, a7, a8⟩ := h
  obtain ⟨⟨b1, b2, b3, b4⟩, ⟨b5, b6⟩, b7, b8⟩ := h2
  refine ⟨⟨by omega, by omega, by omega, by omega⟩, ⟨fun c b p q w => by rw [b5 c b p q (by omega)]; exact a5 c b p q w, fun n w => by rw [b6 n (by omega)]; exact a6 n w⟩, fun n p q => ?_, fun b p q => ?_⟩
  · by_cases s : n < z1 30 0
    · obtain ⟨l, hl⟩ := a7 n p s
      rw [b6 n s]
      exact ⟨l, scl_mv b2 b5 _ _ _ hl⟩
    · rw [← a4]; exact b7 n (by omega) q
  · by_cases s : b < z1 30 2
    · obtain ⟨e1, e2, l, hl⟩ := a8 b p s
      rw [b5 22 b (by decide) (by decide) s, b5 23 b (by decide) (by decide) s, b5 21 b (by decide) (by decide) s]
      exact ⟨e1, e2, l, scl_mv b2 b5 _ _ _ hl⟩
    · rw [← a4, ← a3]; exact b8 b (by omega) q
/-- a step that sets none of these columns -/
theorem sc_e {z z' : Zt} (h30 : ∀ k, k ≠ 3 → k ≠ 4 → z' 30 k = z 30 k) (hc : ∀ c b, 20 ≤ c → c ≤ 23 → z' c b = z c b) (h10 : ∀ n, z' 10 n = z 10 n) : ScR z z' := by
  have e0 := h30 0 (by decide) (by decide)
  have e1 := h30 1 (by decide) (by decide)
  have e2 := h30 2 (by decide) (by decide)
  have e6 := h30 6 (by decide) (by decide)
  exact ⟨⟨by omega, by omega, e1, e6⟩, ⟨fun c b p q _ => hc c b p q, fun n _ => h10 n⟩, fun n p q => by omega, fun b p q => by omega⟩
theorem sc_zu {z : Zt} {c n v : Nat} (h : c < 20 ∨ 31 ≤ c) (h2 : c ≠ 10) : ScR z (zu z c n v) := sc_e (fun _ _ _ => zu_n (by omega)) (fun _ _ _ _ => zu_n (by omega)) (fun _ => zu_n (by omega))
theorem sc_adv {z : Zt} : ScR z (adv z) := sc_e (fun _ _ h => adv_n (by omega)) (fun _ _ _ _ => adv_n (by omega)) (fun _ => adv_n (by omega))
theorem sc_zlk {z : Zt} {c n v : Nat} (h : c < 10) : ScR z (zlk z c n v) := (sc_zu (by omega) (by omega)).tr (sc_zu (by omega) (by decide))
theorem sc_zj {z : Zt} {v t : Nat} : ScR z (zj z v t) := (sc_zu (by omega) (by decide)).tr (sc_zu (by omega) (by decide))
theorem sc_zc {z : Zt} {m : Nat} : ScR z (zc z m) := sc_e (fun k h _ => by unfold zc; rw [if_neg (by omega), if_neg (by omega), if_neg (by omega)]) (fun _ _ _ _ => by unfold zc; rw [if_neg (by omega), if_neg (by omega), if_neg (by omega)]) (fun _ => by unfold zc; rw [if_neg (by omega), if_neg (by omega), if_neg (by omega)])
theorem sc_zk {z : Zt} {k d : Nat} : ScR z (zk pl z k d) := by
  have e : ∀ c b, 20 ≤ c → c ≤ 23 → zk pl z k d c b = z c b := fun c b p q => by rw [zk_e, if_neg (by omega), if_neg (by omega), if_neg (by omega), if_neg (by omega), if_neg (by split <;> omega)]
  have e2 : zk pl z k d 30 2 = z 30 2 := zk_30 (by decide) (by decide)
  refine ⟨⟨by rw [zk_0]; omega, by omega, zk_30 (by decide) (by decide), zk_30 (by decide) (by decide)⟩, ⟨fun c b p q _ => e c b p q, fun n h => ?_⟩, fun n p q => ?_, fun b p q => by omega⟩
  · rw [zk_e, if_neg (by omega), if_neg (by omega), if_neg (by omega), if_neg (by omega), if_neg (by split <;> omega)]
  · rw [zk_0] at q
    have en : n = z 30 0 := by omega
    subst en
    exact ⟨[], (NEW_zk (pl := pl) (z := z) (k := k) (d := d)).1.1.2.2.2.2.1⟩
theorem sc_zp {z : Zt} {d : Nat} : ScR z (zp pl z d) := by
  have e : ∀ c b, (20 ≤ c ∧ c ≤ 23) ∨ (c = 10 ∧ b ≠ z 30 0) ∨ (c = 30 ∧ b ≠ 0) → zp pl z d c b = z c b := fun c b p => by rw [zp_e, if_neg (by omega), if_neg (by omega), if_neg (by omega)]
  have e0 : zp pl z d 30 0 = z 30 0 + 1 := by rw [zp_e, if_neg (by omega), if_pos ⟨rfl, rfl⟩]
  have e2 := e 30 2 (by omega)
  refine ⟨⟨by omega, by omega, e 30 1 (by omega), e 30 6 (by omega)⟩, ⟨fun c b p q _ => e c b (by omega), fun n h => e 10 n (by omega)⟩, fun n p q => ?_, fun b p q => by omega⟩
  rw [e0] at q
  have en : n = z 30 0 := by omega
  subst en
  exact ⟨[], by rw [zp_e, if_pos ⟨by decide, rfl⟩]; rfl⟩
/-- a lambda's binder, and back to the scope around it -/
theorem sc_lam {z z1 : Zt} {d r : Nat} (h : ScR (zla pl z d) z1) : ScR z (zu (zlk z1 1 (z 30 0) r) 30 6 (z 30 6)) := by
  obtain ⟨⟨f0, f1, f2, f3, f4, f5, f6⟩, new, n4, f31, f32, wz, f33⟩ := zla_f (pl := pl) (z := z) (d := d)
  have B := zbn_b (z := adv (zk pl z 4 d)) (s := 2)
  have k2 : adv (zk pl z 4 d) 30 2 = z 30 2 := by rw [adv_n (by decide)]; exact zk_30 (by decide) (by decide)
  have k6 : adv (zk pl z 4 d) 30 6 = z 30 6 := by rw [adv_n (by decide)]; exact zk_30 (by decide) (by decide)
  have k1 : adv (zk pl z 4 d) 30 1 = z 30 1 := by rw [adv_n (by decide)]; exact zk_30 (by decide) (by decide)
  rw [k2, k6, k1] at B
  have zo : ∀ c b, c ≠ 4 → c ≠ 30 → zla pl z d c b = zbn (adv (zk pl z 4 d)) 2 c b := fun c b h1 h2 => by
    unfold zla
    rw [adv_n (by omega), zu_n (by omega)]
  have z2x : ∀ c b, 20 ≤ c → c ≤ 23 → b ≠ z 30 2 → zla pl z d c b = z c b := fun c b p q w => by
    rw [zo c b (by omega) (by omega), zbn_o (by omega), adv_n (by omega), zk_e, if_neg (by omega), if_neg (by omega), if_neg (by omega), if_neg (by omega), if_neg (by split <;> omega)]
  have b22 : zla pl z d 22 (z 30 2) = 2 := by rw [zo _ _ (by decide) (by decide)]; exact B.2.2.1
  have b21 : zla pl z d 21 (z 30 2) = z 30 6 := by rw [zo _ _ (by decide) (by decide)]; exact B.2.1
  have b23 : zla pl z d 23 (z 30 2) = z 30 1 - 1 := by rw [zo _ _ (by decide) (by decide)]; exact B.2.2.2
  obtain ⟨⟨a1, a2, a3, a4⟩, ⟨a5, a6⟩, a7, a8⟩ := h
  have e : ∀ u v, zu (zlk z1 1 (z 30 0) r) 30 6 (z 30 6) u v = if u = 30 ∧ v = 6 then z 30 6 else if u = 5 ∧ v = r then z 30 0 else if u = 1 ∧ v = z 30 0 then r else z1 u v := fun _ _ => rfl
  have eo : ∀ u v, u ≠ 1 → u ≠ 5 → (u ≠ 30 ∨ v ≠ 6) → zu (zlk z1 1 (z 30 0) r) 30 6 (z 30 6) u v = z1 u v := fun u v h1 h2 h3 => by rw [e, if_neg (by omega), if_neg (by omega), if_neg (by omega)]
  have mv : ∀ l s s0, scl z1 s l s0 → scl (zu (zlk z1 1 (z 30 0) r) 30 6 (z 30 6)) s l s0 := scl_mv (by rw [eo 30 2 (by decide) (by decide) (by decide)]; exact Nat.le_refl _) (fun c b p q _ => eo c b (by omega) (by omega) (by omega))
  have q22 : z1 22 (z 30 2) = 2 := by rw [a5 22 _ (by decide) (by decide) (by omega)]; exact b22
  have q21 : z1 21 (z 30 2) = z 30 6 := by rw [a5 21 _ (by decide) (by decide) (by omega)]; exact b21
  have q23 : z1 23 (z 30 2) = z 30 1 - 1 := by rw [a5 23 _ (by decide) (by decide) (by omega)]; exact b23
  rw [f6] at a7 a8
  refine ⟨⟨by rw [eo 30 0 (by decide) (by decide) (by decide)]; omega, by rw [eo 30 2 (by decide) (by decide) (by decide)]; omega, by rw [eo 30 1 (by decide) (by decide) (by decide)]; omega, by rw [e, if_pos ⟨rfl, rfl⟩]⟩, ⟨fun c b p q w => ?_, fun n w => ?_⟩, fun n p q => ?_, fun b p q => ?_⟩
  · rw [eo c b (by omega) (by omega) (by omega), a5 c b p q (by omega), z2x c b p q (by omega)]
  · rw [eo 10 n (by decide) (by decide) (Or.inl (by decide)), a6 n (by omega)]
    exact wz.2.1 10 n (by decide) w
  · rw [eo 30 0 (by decide) (by decide) (by decide)] at q
    rw [eo 10 n (by decide) (by decide) (Or.inl (by decide))]
    by_cases s : n = z 30 0
    · subst s
      rw [a6 _ (by omega), new.1.2.2.2.2.1]
      exact ⟨[], rfl⟩
    · obtain ⟨l, hl⟩ := a7 n (by omega) q
      exact ⟨l ++ [z 30 2], mv _ _ _ (scl_app q22 (by omega) q21 _ _ hl)⟩
  · rw [eo 30 2 (by decide) (by decide) (by decide)] at q
    rw [eo 22 b (by decide) (by decide) (Or.inl (by decide)), eo 23 b (by decide) (by decide) (Or.inl (by decide)), eo 21 b (by decide) (by decide) (Or.inl (by decide))]
    by_cases s : b = z 30 2
    · subst s
      rw [q22, q23, q21]
      exact ⟨rfl, rfl, [], rfl⟩
    · obtain ⟨e1, e2, l, hl⟩ := a8 b (by omega) q
      exact ⟨e1, by rw [e2, f1], l ++ [z 30 2], mv _ _ _ (scl_app q22 (by omega) q21 _ _ hl)⟩
theorem rb_r {x : Rs} {g : Nat → Zt → Rs} {q : Nat × Zt} (h : rb x g = .inr q) : ∃ r z, x = .inr (r, z) ∧ g r z = .inr q := by
  cases x with
  | inl t => cases h
  | inr p => exact ⟨p.1, p.2, rfl, h⟩
theorem flt_r {z : Zt} {q : Nat × Zt} (h : flt pl z = .inr q) : False := by cases h
/-- what every run keeps and adds -/
theorem SC_all : ∀ (f c d : Nat) (z : Zt) (q : Nat × Zt), ps kd pl pr f c d z = .inr q → ScR z q.2 := by
  intro f
  induction f with
  | zero => intro c d z q h; cases h
  | succ f ih =>
    have hR : ∀ c d z r z', ps kd pl pr f c d z = .inr (r, z') → ScR z z' := fun c d z r z' h => ih c d z (r, z') h
    have hL : ∀ (l d m w : Nat) (zL : Zt) (q : Nat × Zt), lpL kd pl (ps kd pl pr f) l d m w zL = .inr q → ScR zL q.2 := by
      intro l d m
      induction m with
      | zero => intro w zL q h; cases h; exact ScR.rf
      | succ m ihm =>
        intro w zL q h
        unfold lpL at h
        split at h
        · cases h; exact ScR.rf
        · split at h
          · exact (flt_r h).elim
          · obtain ⟨r, z1, h1, h2⟩ := rb_r h
            exact (((sc_zk.tr sc_adv).tr (hR _ _ _ _ _ h1)).tr ((sc_zlk (by decide)).tr (sc_zlk (by decide)))).tr (ihm _ _ _ h2)
    have hC : ∀ (d m w : Nat) (zL : Zt) (q : Nat × Zt), lpC kd pl (ps kd pl pr f) d m w zL = .inr q → ScR zL q.2 := by
      intro d m
      induction m with
      | zero => intro w zL q h; cases h; exact ScR.rf
      | succ m ihm =>
        intro w zL q h
        unfold lpC at h
        split at h
        · cases h; exact ScR.rf
        · split at h
          · exact (flt_r h).elim
          · obtain ⟨r, z1, h1, h2⟩ := rb_r h
            exact ((sc_zk.tr (hR _ _ _ _ _ h1)).tr (((sc_zlk (by decide)).tr (sc_zlk (by decide))).tr (sc_zu (by omega) (by decide)))).tr (ihm _ _ _ h2)
    have hW : ∀ (d m : Nat) (z : Zt) (q : Nat × Zt), rwL kd pl (ps kd pl pr f) d m z = .inr q → ScR z q.2 := by
      intro d m
      induction m with
      | zero => intro z q h; cases h
      | succ m ihm =>
        intro z q h
        unfold rwL at h
        obtain ⟨w, zL, h1, h2⟩ := rb_r h
        split at h2
        · cases h2; exact hR _ _ _ _ _ h1
        · split at h2
          · exact (flt_r h2).elim
          · obtain ⟨r, z1, h3, h4⟩ := rb_r h2
            cases h4
            exact ((hR _ _ _ _ _ h1).tr ((sc_zk.tr sc_adv).tr (ihm _ _ h3))).tr ((sc_zlk (by decide)).tr (sc_zlk (by decide)))
    have hE : ∀ (n d m la jo : Nat) (z : Zt) (q : Nat × Zt), lpE kd pl (ps kd pl pr f) n d m la jo z = .inr q → ScR z q.2 := by
      intro n d m
      induction m with
      | zero => intro la jo z q h; cases h
      | succ m ihm =>
        intro la jo z q h
        unfold lpE at h
        obtain ⟨r, z1, h1, h2⟩ := rb_r h
        have hz : ScR z1 (adv (zel z1 n la jo r)) := by
          refine ScR.tr ?_ sc_adv
          have h0 : ScR z1 (if la = 1000 then zu z1 1 n r else zu z1 11 la r) := by
            split
            · exact sc_zu (by omega) (by decide)
            · exact sc_zu (by omega) (by decide)
          exact (h0.tr sc_zj).tr (sc_zu (by omega) (by decide))
        split at h2
        · exact ((hR _ _ _ _ _ h1).tr hz).tr (ihm _ _ _ _ h2)
        · split at h2
          · exact (flt_r h2).elim
          · cases h2
            exact (hR _ _ _ _ _ h1).tr hz
    intro c d z q h
    unfold ps at h
    split at h
    · unfold sE at h
      split at h
      · unfold sLam at h
        split at h
        · exact (flt_r h).elim
        · split at h
          · cases h
          · split at h
            · cases h
            · obtain ⟨r, z1, h1, h2⟩ := rb_r h
              cases h2
              exact sc_lam (hR _ _ _ _ _ h1)
      · split at h
        · unfold sIf at h
          split at h
          · exact (flt_r h).elim
          · obtain ⟨r1, z1, h1, h2⟩ := rb_r h
            split at h2
            · exact (flt_r h2).elim
            · obtain ⟨r2, z2, h3, h4⟩ := rb_r h2
              split at h4
              · exact (flt_r h4).elim
              · obtain ⟨r3, z3, h5, h6⟩ := rb_r h4
                cases h6
                exact (((sc_zk.tr sc_adv).tr (hR _ _ _ _ _ h1)).tr ((sc_adv.tr (hR _ _ _ _ _ h3)).tr (sc_adv.tr (hR _ _ _ _ _ h5)))).tr ((sc_zj.tr sc_zj).tr ((sc_zlk (by decide)).tr ((sc_zlk (by decide)).tr (sc_zlk (by decide)))))
        · exact hR _ _ _ _ _ h
    · split at h
      · obtain ⟨r, z1, h1, h2⟩ := rb_r h
        exact (hR _ _ _ _ _ h1).tr (hL _ _ _ _ _ _ h2)
      · split at h
        · unfold sTst at h
          obtain ⟨w, zL, h1, h2⟩ := rb_r h
          split at h2
          · cases h2; exact hR _ _ _ _ _ h1
          · split at h2
            · exact (flt_r h2).elim
            · obtain ⟨r, z1, h3, h4⟩ := rb_r h2
              cases h4
              exact ((hR _ _ _ _ _ h1).tr ((sc_zk.tr sc_adv).tr (hR _ _ _ _ _ h3))).tr ((sc_zlk (by decide)).tr (sc_zlk (by decide)))
        · split at h
          · exact hW _ _ _ _ h
          · split at h
            · obtain ⟨r, z1, h1, h2⟩ := rb_r h
              exact (hR _ _ _ _ _ h1).tr (hL _ _ _ _ _ _ h2)
            · split at h
              · obtain ⟨r, z1, h1, h2⟩ := rb_r h
                exact (hR _ _ _ _ _ h1).tr (hC _ _ _ _ _ h2)
              · unfold sA at h
                split at h
                · split at h
                  · exact (flt_r h).elim
                  · cases h; exact sc_zk.tr sc_adv
                · split at h
                  · unfold sGrp at h
                    split at h
                    · exact (flt_r h).elim
                    · split at h
                      · obtain ⟨r, z1, h1, h2⟩ := rb_r h
                        split at h2
                        · exact (flt_r h2).elim
                        · obtain ⟨r2, z2, h3, h4⟩ := rb_r h2
                          split at h4
                          · exact (flt_r h4).elim
                          · cases h4
                            exact (((sc_zp.tr sc_adv).tr (hR _ _ _ _ _ h1)).tr ((sc_zc.tr sc_adv).tr (hR _ _ _ _ _ h3))).tr (((sc_zlk (by decide)).tr (sc_zlk (by decide))).tr sc_adv)
                      · obtain ⟨r, z1, h1, h2⟩ := rb_r h
                        split at h2
                        · exact (flt_r h2).elim
                        · cases h2
                          exact (sc_adv.tr (hR _ _ _ _ _ h1)).tr ((sc_zu (by omega) (by decide)).tr sc_adv)
                  · split at h
                    · unfold sLst at h
                      split at h
                      · exact (flt_r h).elim
                      · split at h
                        · cases h; exact (sc_zk.tr sc_adv).tr sc_adv
                        · exact (sc_zk.tr sc_adv).tr (hE _ _ _ _ _ _ _ h)
                    · exact (flt_r h).elim
end SCOPE
