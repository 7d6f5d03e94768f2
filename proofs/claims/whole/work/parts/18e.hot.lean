/-! ===== a scope lies before what it is the scope of ===== -/
def HP (z : Zt) : Prop := hot z ∧ (z 30 6 = 1000 ∨ z 30 6 < 11 + z 30 2)
def HtR (z z' : Zt) : Prop := z 30 2 ≤ z' 30 2 ∧ (HP z → HP z')
section HOTP
variable {kd pl : Nat → Nat} {pr : Nat → Bool} {rec : Nat → Nat → Zt → Rs}
theorem HtR.rf {z : Zt} : HtR z z := ⟨Nat.le_refl _, fun h => h⟩
theorem HtR.tr {z z1 z2 : Zt} (h : HtR z z1) (h2 : HtR z1 z2) : HtR z z2 := ⟨Nat.le_trans h.1 h2.1, fun q => h2.2 (h.2 q)⟩
theorem ht_e {z z' : Zt} (h2 : z' 30 2 = z 30 2) (h6 : z' 30 6 = z 30 6) (h21 : ∀ n, z' 21 n = z 21 n) : HtR z z' := ⟨by omega, fun ⟨a, b⟩ => ⟨fun n hn => by rw [h21]; exact a n (by omega), by rw [h2, h6]; exact b⟩⟩
theorem ht_zu {z : Zt} {c n v : Nat} (h : c < 20 ∨ 31 ≤ c) (h2 : c ≠ 13) : HtR z (zu z c n v) := ht_e (zu_n (by omega)) (zu_n (by omega)) (fun _ => zu_n (by omega))
theorem ht_13 {z : Zt} {n : Nat} : HtR z (zu z 13 n 1) := ht_e (zu_n (by omega)) (zu_n (by omega)) (fun _ => zu_n (by omega))
theorem ht_adv {z : Zt} : HtR z (adv z) := ht_e (adv_30 (by decide)) (adv_30 (by decide)) (fun _ => adv_n (by omega))
theorem ht_zlk {z : Zt} {c n v : Nat} (h : c < 10) : HtR z (zlk z c n v) := (ht_zu (by omega) (by omega)).tr (ht_zu (by omega) (by decide))
theorem ht_zj {z : Zt} {v t : Nat} : HtR z (zj z v t) := (ht_zu (by omega) (by decide)).tr (ht_zu (by omega) (by decide))
theorem ht_zc {z : Zt} {m : Nat} : HtR z (zc z m) := ht_e (by rw [zc_e, if_neg (by omega), if_neg (by omega), if_neg (by omega)]) (by rw [zc_e, if_neg (by omega), if_neg (by omega), if_neg (by omega)]) (fun _ => by rw [zc_e, if_neg (by omega), if_neg (by omega), if_neg (by omega)])
theorem ht_zk {z : Zt} {k d : Nat} : HtR z (zk pl z k d) := ht_e (zk_30 (by decide) (by decide)) (zk_30 (by decide) (by decide)) (fun _ => by rw [zk_e, if_neg (by omega), if_neg (by omega), if_neg (by omega), if_neg (by omega), if_neg (by split <;> omega)])
theorem ht_zp {z : Zt} {d : Nat} : HtR z (zp pl z d) := ht_e (by rw [zp_e, if_neg (by omega), if_neg (by omega), if_neg (by omega)]) (by rw [zp_e, if_neg (by omega), if_neg (by omega), if_neg (by omega)]) (fun _ => by rw [zp_e, if_neg (by omega), if_neg (by omega), if_neg (by omega)])
theorem ht_zbn {z : Zt} {s : Nat} : HtR z (zbn z s) := by
  obtain ⟨a2, a5, a6, a4⟩ := zbn_30 (z := z) (s := s)
  refine ⟨by omega, fun ⟨a, b⟩ => ⟨fun n hn => ?_, by rw [a2, a6]; omega⟩⟩
  by_cases q : n = z 30 2
  · rw [q, (zbn_b (z := z) (s := s)).2.1]; omega
  · rw [zbn_o (by omega)]; exact a n (by omega)
theorem ht_zd {z : Zt} : HtR z (zd z) := by
  obtain ⟨⟨a1, a2, a4, a6⟩, ⟨-, b21, -⟩, -⟩ := zd_f (z := z)
  refine ⟨by omega, fun ⟨a, b⟩ => ⟨fun n hn => ?_, by rw [a2, a6]; omega⟩⟩
  by_cases q : n = z 30 2
  · rw [q, b21]; omega
  · rw [zd_o (by omega) (by omega) (by omega) (by omega)]; exact a n (by omega)
theorem ht_lam {z z1 : Zt} {d r : Nat} (h : HtR (zla pl z d) z1) : HtR z (zu (zlk z1 1 (z 30 0) r) 30 6 (z 30 6)) := by
  have h0 : HtR z (zla pl z d) := by
    unfold zla
    refine (HtR.tr (z1 := adv (zk pl z 4 d)) (ht_zk.tr ht_adv) ?_).tr ht_adv
    exact HtR.tr (ht_zbn (z := adv (zk pl z 4 d)) (s := 2)) (ht_zu (by omega) (by decide))
  have h1 := (h0.tr h).tr (ht_zlk (c := 1) (n := z 30 0) (v := r) (by decide))
  refine ⟨by rw [zu_n (by omega)]; exact h1.1, fun q => ?_⟩
  obtain ⟨a, b⟩ := h1.2 q
  refine ⟨fun n hn => ?_, ?_⟩
  · rw [zu_n (by omega)] at hn ⊢
    exact a n hn
  · rw [zu_s, zu_n (by omega)]
    have := q.2
    have := h1.1
    omega
/-- what every run keeps and adds -/
theorem HT_all : ∀ (f c d : Nat) (z : Zt) (q : Nat × Zt), ps kd pl pr f c d z = .inr q → HtR z q.2 := by
  intro f
  induction f with
  | zero => intro c d z q h; cases h
  | succ f ih =>
    have hR : ∀ c d z r z', ps kd pl pr f c d z = .inr (r, z') → HtR z z' := fun c d z r z' h => ih c d z (r, z') h
    have hL : ∀ (l d m w : Nat) (zL : Zt) (q : Nat × Zt), lpL kd pl (ps kd pl pr f) l d m w zL = .inr q → HtR zL q.2 := by
      intro l d m
      induction m with
      | zero => intro w zL q h; cases h; exact HtR.rf
      | succ m ihm =>
        intro w zL q h
        unfold lpL at h
        split at h
        · cases h; exact HtR.rf
        · split at h
          · exact (flt_r h).elim
          · obtain ⟨r, z1, h1, h2⟩ := rb_r h
            exact (((ht_zk.tr ht_adv).tr (hR _ _ _ _ _ h1)).tr ((ht_zlk (by decide)).tr (ht_zlk (by decide)))).tr (ihm _ _ _ h2)
    have hC : ∀ (d m w : Nat) (zL : Zt) (q : Nat × Zt), lpC kd pl (ps kd pl pr f) d m w zL = .inr q → HtR zL q.2 := by
      intro d m
      induction m with
      | zero => intro w zL q h; cases h; exact HtR.rf
      | succ m ihm =>
        intro w zL q h
        unfold lpC at h
        split at h
        · cases h; exact HtR.rf
        · split at h
          · exact (flt_r h).elim
          · obtain ⟨r, z1, h1, h2⟩ := rb_r h
            exact ((ht_zk.tr (hR _ _ _ _ _ h1)).tr (((ht_zlk (by decide)).tr (ht_zlk (by decide))).tr (ht_zu (by omega) (by decide)))).tr (ihm _ _ _ h2)
    have hW : ∀ (d m : Nat) (z : Zt) (q : Nat × Zt), rwL kd pl (ps kd pl pr f) d m z = .inr q → HtR z q.2 := by
      intro d m
      induction m with
      | zero => intro z q h; cases h
      | succ m ihm =>
        intro z q h
        unfold rwL at h
        obtain ⟨w, zL, h1, h2⟩ := rb_r h
        split at h2
        · cases h2; exact hR _ _ _ _ _ h1
        · split at h2
          · exact (flt_r h2).elim
          · obtain ⟨r, z1, h3, h4⟩ := rb_r h2
            cases h4
            exact ((hR _ _ _ _ _ h1).tr ((ht_zk.tr ht_adv).tr (ihm _ _ h3))).tr ((ht_zlk (by decide)).tr (ht_zlk (by decide)))
    have hE : ∀ (n d m la jo : Nat) (z : Zt) (q : Nat × Zt), lpE kd pl (ps kd pl pr f) n d m la jo z = .inr q → HtR z q.2 := by
      intro n d m
      induction m with
      | zero => intro la jo z q h; cases h
      | succ m ihm =>
        intro la jo z q h
        unfold lpE at h
        obtain ⟨r, z1, h1, h2⟩ := rb_r h
        have hz : HtR z1 (adv (zel z1 n la jo r)) := by
          refine HtR.tr ?_ ht_adv
          have h0 : HtR z1 (if la = 1000 then zu z1 1 n r else zu z1 11 la r) := by
            split
            · exact ht_zu (by omega) (by decide)
            · exact ht_zu (by omega) (by decide)
          exact (h0.tr ht_zj).tr (ht_zu (by omega) (by decide))
        split at h2
        · exact ((hR _ _ _ _ _ h1).tr hz).tr (ihm _ _ _ _ h2)
        · split at h2
          · exact (flt_r h2).elim
          · cases h2
            exact (hR _ _ _ _ _ h1).tr hz
    intro c d z q h
    unfold ps at h
    split at h
    · unfold sE at h
      split at h
      · unfold sLam at h
        split at h
        · exact (flt_r h).elim
        · split at h
          · cases h
          · split at h
            · cases h
            · obtain ⟨r, z1, h1, h2⟩ := rb_r h
              cases h2
              exact ht_lam (hR _ _ _ _ _ h1)
      · split at h
        · unfold sIf at h
          split at h
          · exact (flt_r h).elim
          · obtain ⟨r1, z1, h1, h2⟩ := rb_r h
            split at h2
            · exact (flt_r h2).elim
            · obtain ⟨r2, z2, h3, h4⟩ := rb_r h2
              split at h4
              · exact (flt_r h4).elim
              · obtain ⟨r3, z3, h5, h6⟩ := rb_r h4
                cases h6
                exact (((ht_zk.tr ht_adv).tr (hR _ _ _ _ _ h1)).tr ((ht_adv.tr (hR _ _ _ _ _ h3)).tr (ht_adv.tr (hR _ _ _ _ _ h5)))).tr ((ht_zj.tr ht_zj).tr ((ht_zlk (by decide)).tr ((ht_zlk (by decide)).tr (ht_zlk (by decide)))))
        · exact hR _ _ _ _ _ h
    · split at h
      · obtain ⟨r, z1, h1, h2⟩ := rb_r h
        exact (hR _ _ _ _ _ h1).tr (hL _ _ _ _ _ _ h2)
      · split at h
        · unfold sTst at h
          obtain ⟨w, zL, h1, h2⟩ := rb_r h
          split at h2
          · cases h2; exact hR _ _ _ _ _ h1
          · split at h2
            · exact (flt_r h2).elim
            · obtain ⟨r, z1, h3, h4⟩ := rb_r h2
              cases h4
              exact ((hR _ _ _ _ _ h1).tr ((ht_zk.tr ht_adv).tr (hR _ _ _ _ _ h3))).tr ((ht_zlk (by decide)).tr (ht_zlk (by decide)))
        · split at h
          · exact hW _ _ _ _ h
          · split at h
            · obtain ⟨r, z1, h1, h2⟩ := rb_r h
              exact (hR _ _ _ _ _ h1).tr (hL _ _ _ _ _ _ h2)
            · split at h
              · obtain ⟨r, z1, h1, h2⟩ := rb_r h
                exact (hR _ _ _ _ _ h1).tr (hC _ _ _ _ _ h2)
              · unfold sA at h
                split at h
                · split at h
                  · exact (flt_r h).elim
                  · cases h; exact ht_zk.tr ht_adv
                · split at h
                  · unfold sGrp at h
                    split at h
                    · exact (flt_r h).elim
                    · split at h
                      · obtain ⟨r, z1, h1, h2⟩ := rb_r h
                        split at h2
                        · exact (flt_r h2).elim
                        · obtain ⟨r2, z2, h3, h4⟩ := rb_r h2
                          split at h4
                          · exact (flt_r h4).elim
                          · cases h4
                            exact (((ht_zp.tr ht_adv).tr (hR _ _ _ _ _ h1)).tr ((ht_zc.tr ht_adv).tr (hR _ _ _ _ _ h3))).tr (((ht_zlk (by decide)).tr (ht_zlk (by decide))).tr ht_adv)
                      · obtain ⟨r, z1, h1, h2⟩ := rb_r h
                        split at h2
                        · exact (flt_r h2).elim
                        · cases h2
                          exact (ht_adv.tr (hR _ _ _ _ _ h1)).tr ((ht_13.tr ht_adv))
                  · split at h
                    · unfold sLst at h
                      split at h
                      · exact (flt_r h).elim
                      · split at h
                        · cases h; exact (ht_zk.tr ht_adv).tr ht_adv
                        · exact (ht_zk.tr ht_adv).tr (hE _ _ _ _ _ _ _ h)
                    · exact (flt_r h).elim
/-- over whole texts -/
theorem ht_sD {f : Nat} {z : Zt} {q : Nat × Zt} (h : sD kd pl pr f z = .inr q) : HtR z q.2 := by
  have hz : HtR z (zd z) := ht_zd
  have hP : ∀ (m : Nat) (z : Zt) (q : Nat × Zt), lpP kd pl m z = .inr q → HtR z q.2 := by
    intro m
    induction m with
    | zero => intro z q h; cases h
    | succ m ih =>
      intro z q h
      unfold lpP at h
      split at h
      · cases h; exact HtR.rf
      · split at h
        · exact (flt_r h).elim
        · exact HtR.tr (ht_zbn (z := z) (s := 1)) (ih _ _ h)
  unfold sD at h
  split at h
  · exact (flt_r h).elim
  obtain ⟨r0, z1, h1, h2⟩ := rb_r h
  split at h2
  · exact (flt_r h2).elim
  obtain ⟨r, z2, h3, h4⟩ := rb_r h2
  cases h4
  have a := hP _ _ _ h1
  have b := HT_all _ _ _ _ _ h3
  exact (hz.tr a).tr (((ht_zu (by omega) (by decide)).tr ht_adv).tr (HtR.tr b (ht_zu (by omega) (by decide))))
theorem ht_sT {f : Nat} : ∀ (m : Nat) (z : Zt) (q : Nat × Zt), sT kd pl pr f m z = .inr q → HtR z q.2 := by
  intro m
  induction m with
  | zero => intro z q h; cases h
  | succ m ih =>
    intro z q h
    unfold sT at h
    obtain ⟨r0, z1, h1, h2⟩ := rb_r h
    have a := ht_sD h1
    split at h2
    · exact a.tr (ht_adv.tr (ih _ _ h2))
    · split at h2
      · cases h2; exact a
      · exact (flt_r h2).elim
end HOTP
