/-! ===== brackets are no more than one ===== -/
def BrR (z z' : Zt) : Prop := z 30 0 ≤ z' 30 0 ∧ (∀ n, n < z 30 0 → z' 13 n = z 13 n ∨ z' 13 n ≤ 1) ∧ (∀ n, z 30 0 ≤ n → n < z' 30 0 → z' 13 n ≤ 1)
section BRACK
variable {kd pl : Nat → Nat} {pr : Nat → Bool} {rec : Nat → Nat → Zt → Rs}
theorem BrR.rf {z : Zt} : BrR z z := ⟨Nat.le_refl _, fun _ _ => Or.inl rfl, fun n h1 h2 => by omega⟩
theorem BrR.tr {z z1 z2 : Zt} (h : BrR z z1) (h2 : BrR z1 z2) : BrR z z2 := by
  obtain ⟨a1, a2, a3⟩ := h
  obtain ⟨b1, b2, b3⟩ := h2
  refine ⟨by omega, fun n hn => ?_, fun n n1 n2 => ?_⟩
  · rcases b2 n (by omega) with q | q
    · rw [q]; exact a2 n hn
    · exact Or.inr q
  · by_cases s : n < z1 30 0
    · rcases b2 n s with q | q
      · rw [q]; exact a3 n n1 s
      · exact q
    · exact b3 n (by omega) n2
theorem br_e {z z' : Zt} (h30 : z' 30 0 = z 30 0) (h13 : ∀ n, z' 13 n = z 13 n) : BrR z z' := ⟨by omega, fun n _ => Or.inl (h13 n), fun n n1 n2 => by omega⟩
theorem br_zu {z : Zt} {c n v : Nat} (h : c < 20 ∨ 31 ≤ c) (h2 : c ≠ 13) : BrR z (zu z c n v) := br_e (zu_n (by omega)) (fun _ => zu_n (by omega))
theorem br_13 {z : Zt} {n : Nat} : BrR z (zu z 13 n 1) := ⟨by rw [zu_n (by omega)]; exact Nat.le_refl _, fun m _ => by
  by_cases s : m = n
  · right; rw [s, zu_s]; exact Nat.le_refl _
  · left; rw [zu_n (by omega)], fun m m1 m2 => by rw [zu_n (by omega)] at m2; omega⟩
theorem br_adv {z : Zt} : BrR z (adv z) := br_e (adv_30 (by decide)) (fun _ => adv_n (by omega))
theorem br_zlk {z : Zt} {c n v : Nat} (h : c < 10) : BrR z (zlk z c n v) := (br_zu (by omega) (by omega)).tr (br_zu (by omega) (by decide))
theorem br_zj {z : Zt} {v t : Nat} : BrR z (zj z v t) := (br_zu (by omega) (by decide)).tr (br_zu (by omega) (by decide))
theorem br_zc {z : Zt} {m : Nat} : BrR z (zc z m) := br_e (by unfold zc; rw [if_neg (by omega), if_neg (by omega), if_neg (by omega)]) (fun _ => by unfold zc; rw [if_neg (by omega), if_neg (by omega), if_neg (by omega)])
theorem br_zk {z : Zt} {k d : Nat} : BrR z (zk pl z k d) := by
  refine ⟨by rw [zk_0]; omega, fun n h => Or.inl ?_, fun n n1 n2 => ?_⟩
  · rw [zk_e, if_neg (by omega), if_neg (by omega), if_neg (by omega), if_neg (by omega), if_neg (by split <;> omega)]
  · rw [zk_0] at n2
    have en : n = z 30 0 := by omega
    subst en
    rw [(NEW_zk (pl := pl) (z := z) (k := k) (d := d)).1.1.2.2.2.2.2.1]
    omega
theorem br_zp {z : Zt} {d : Nat} : BrR z (zp pl z d) := by
  have e0 : zp pl z d 30 0 = z 30 0 + 1 := by rw [zp_e, if_neg (by omega), if_pos ⟨rfl, rfl⟩]
  refine ⟨by omega, fun n h => Or.inl ?_, fun n n1 n2 => ?_⟩
  · rw [zp_e, if_neg (by omega), if_neg (by omega), if_neg (by omega)]
  · rw [e0] at n2
    have en : n = z 30 0 := by omega
    subst en
    rw [zp_e, if_pos ⟨by decide, rfl⟩]
    exact Nat.zero_le _
theorem br_lam {z z1 : Zt} {d r : Nat} (h : BrR (zla pl z d) z1) : BrR z (zu (zlk z1 1 (z 30 0) r) 30 6 (z 30 6)) := by
  have h0 : BrR z (zla pl z d) := by
    unfold zla
    refine (BrR.tr (z1 := adv (zk pl z 4 d)) (br_zk.tr br_adv) ?_).tr br_adv
    refine BrR.tr (br_e (z' := zbn (adv (zk pl z 4 d)) 2) (zbn_o (by omega)) (fun _ => zbn_o (by omega))) (br_zu (by omega) (by decide))
  refine (h0.tr h).tr ((br_zlk (by decide)).tr (br_e (zu_n (by omega)) (fun _ => zu_n (by omega))))
/-- what every run keeps and adds -/
theorem BR_all : ∀ (f c d : Nat) (z : Zt) (q : Nat × Zt), ps kd pl pr f c d z = .inr q → BrR z q.2 := by
  intro f
  induction f with
  | zero => intro c d z q h; cases h
  | succ f ih =>
    have hR : ∀ c d z r z', ps kd pl pr f c d z = .inr (r, z') → BrR z z' := fun c d z r z' h => ih c d z (r, z') h
    have hL : ∀ (l d m w : Nat) (zL : Zt) (q : Nat × Zt), lpL kd pl (ps kd pl pr f) l d m w zL = .inr q → BrR zL q.2 := by
      intro l d m
      induction m with
      | zero => intro w zL q h; cases h; exact BrR.rf
      | succ m ihm =>
        intro w zL q h
        unfold lpL at h
        split at h
        · cases h; exact BrR.rf
        · split at h
          · exact (flt_r h).elim
          · obtain ⟨r, z1, h1, h2⟩ := rb_r h
            exact (((br_zk.tr br_adv).tr (hR _ _ _ _ _ h1)).tr ((br_zlk (by decide)).tr (br_zlk (by decide)))).tr (ihm _ _ _ h2)
    have hC : ∀ (d m w : Nat) (zL : Zt) (q : Nat × Zt), lpC kd pl (ps kd pl pr f) d m w zL = .inr q → BrR zL q.2 := by
      intro d m
      induction m with
      | zero => intro w zL q h; cases h; exact BrR.rf
      | succ m ihm =>
        intro w zL q h
        unfold lpC at h
        split at h
        · cases h; exact BrR.rf
        · split at h
          · exact (flt_r h).elim
          · obtain ⟨r, z1, h1, h2⟩ := rb_r h
            exact ((br_zk.tr (hR _ _ _ _ _ h1)).tr (((br_zlk (by decide)).tr (br_zlk (by decide))).tr (br_zu (by omega) (by decide)))).tr (ihm _ _ _ h2)
    have hW : ∀ (d m : Nat) (z : Zt) (q : Nat × Zt), rwL kd pl (ps kd pl pr f) d m z = .inr q → BrR z q.2 := by
      intro d m
      induction m with
      | zero => intro z q h; cases h
      | succ m ihm =>
        intro z q h
        unfold rwL at h
        obtain ⟨w, zL, h1, h2⟩ := rb_r h
        split at h2
        · cases h2; exact hR _ _ _ _ _ h1
        · split at h2
          · exact (flt_r h2).elim
          · obtain ⟨r, z1, h3, h4⟩ := rb_r h2
            cases h4
            exact ((hR _ _ _ _ _ h1).tr ((br_zk.tr br_adv).tr (ihm _ _ h3))).tr ((br_zlk (by decide)).tr (br_zlk (by decide)))
    have hE : ∀ (n d m la jo : Nat) (z : Zt) (q : Nat × Zt), lpE kd pl (ps kd pl pr f) n d m la jo z = .inr q → BrR z q.2 := by
      intro n d m
      induction m with
      | zero => intro la jo z q h; cases h
      | succ m ihm =>
        intro la jo z q h
        unfold lpE at h
        obtain ⟨r, z1, h1, h2⟩ := rb_r h
        have hz : BrR z1 (adv (zel z1 n la jo r)) := by
          refine BrR.tr ?_ br_adv
          have h0 : BrR z1 (if la = 1000 then zu z1 1 n r else zu z1 11 la r) := by
            split
            · exact br_zu (by omega) (by decide)
            · exact br_zu (by omega) (by decide)
          exact (h0.tr br_zj).tr (br_zu (by omega) (by decide))
        split at h2
        · exact ((hR _ _ _ _ _ h1).tr hz).tr (ihm _ _ _ _ h2)
        · split at h2
          · exact (flt_r h2).elim
          · cases h2
            exact (hR _ _ _ _ _ h1).tr hz
    intro c d z q h
    unfold ps at h
    split at h
    · unfold sE at h
      split at h
      · unfold sLam at h
        split at h
        · exact (flt_r h).elim
        · split at h
          · cases h
          · split at h
            · cases h
            · obtain ⟨r, z1, h1, h2⟩ := rb_r h
              cases h2
              exact br_lam (hR _ _ _ _ _ h1)
      · split at h
        · unfold sIf at h
          split at h
          · exact (flt_r h).elim
          · obtain ⟨r1, z1, h1, h2⟩ := rb_r h
            split at h2
            · exact (flt_r h2).elim
            · obtain ⟨r2, z2, h3, h4⟩ := rb_r h2
              split at h4
              · exact (flt_r h4).elim
              · obtain ⟨r3, z3, h5, h6⟩ := rb_r h4
                cases h6
                exact (((br_zk.tr br_adv).tr (hR _ _ _ _ _ h1)).tr ((br_adv.tr (hR _ _ _ _ _ h3)).tr (br_adv.tr (hR _ _ _ _ _ h5)))).tr ((br_zj.tr br_zj).tr ((br_zlk (by decide)).tr ((br_zlk (by decide)).tr (br_zlk (by decide)))))
        · exact hR _ _ _ _ _ h
    · split at h
      · obtain ⟨r, z1, h1, h2⟩ := rb_r h
        exact (hR _ _ _ _ _ h1).tr (hL _ _ _ _ _ _ h2)
      · split at h
        · unfold sTst at h
          obtain ⟨w, zL, h1, h2⟩ := rb_r h
          split at h2
          · cases h2; exact hR _ _ _ _ _ h1
          · split at h2
            · exact (flt_r h2).elim
            · obtain ⟨r, z1, h3, h4⟩ := rb_r h2
              cases h4
              exact ((hR _ _ _ _ _ h1).tr ((br_zk.tr br_adv).tr (hR _ _ _ _ _ h3))).tr ((br_zlk (by decide)).tr (br_zlk (by decide)))
        · split at h
          · exact hW _ _ _ _ h
          · split at h
            · obtain ⟨r, z1, h1, h2⟩ := rb_r h
              exact (hR _ _ _ _ _ h1).tr (hL _ _ _ _ _ _ h2)
            · split at h
              · obtain ⟨r, z1, h1, h2⟩ := rb_r h
                exact (hR _ _ _ _ _ h1).tr (hC _ _ _ _ _ h2)
              · unfold sA at h
                split at h
                · split at h
                  · exact (flt_r h).elim
                  · cases h; exact br_zk.tr br_adv
                · split at h
                  · unfold sGrp at h
                    split at h
                    · exact (flt_r h).elim
                    · split at h
                      · obtain ⟨r, z1, h1, h2⟩ := rb_r h
                        split at h2
                        · exact (flt_r h2).elim
                        · obtain ⟨r2, z2, h3, h4⟩ := rb_r h2
                          split at h4
                          · exact (flt_r h4).elim
                          · cases h4
                            exact (((br_zp.tr br_adv).tr (hR _ _ _ _ _ h1)).tr ((br_zc.tr br_adv).tr (hR _ _ _ _ _ h3))).tr (((br_zlk (by decide)).tr (br_zlk (by decide))).tr br_adv)
                      · obtain ⟨r, z1, h1, h2⟩ := rb_r h
                        split at h2
                        · exact (flt_r h2).elim
                        · cases h2
                          exact (br_adv.tr (hR _ _ _ _ _ h1)).tr ((br_13.tr br_adv))
                  · split at h
                    · unfold sLst at h
                      split at h
                      · exact (flt_r h).elim
                      · split at h
                        · cases h; exact (br_zk.tr br_adv).tr br_adv
                        · exact (br_zk.tr br_adv).tr (hE _ _ _ _ _ _ _ h)
                    · exact (flt_r h).elim
/-- over whole texts -/
theorem br_sD {f : Nat} {z : Zt} {q : Nat × Zt} (h : sD kd pl pr f z = .inr q) : BrR z q.2 := by
  have hz : BrR z (zd z) := br_e (zd_o (by omega) (by omega) (by omega) (by omega)) (fun _ => zd_o (by omega) (by omega) (by omega) (by omega))
  have hP : ∀ (m : Nat) (z : Zt) (q : Nat × Zt), lpP kd pl m z = .inr q → BrR z q.2 := by
    intro m
    induction m with
    | zero => intro z q h; cases h
    | succ m ih =>
      intro z q h
      unfold lpP at h
      split at h
      · cases h; exact BrR.rf
      · split at h
        · exact (flt_r h).elim
        · exact BrR.tr (br_e (z' := zbn z 1) (zbn_o (by omega)) (fun _ => zbn_o (by omega))) (ih _ _ h)
  unfold sD at h
  split at h
  · exact (flt_r h).elim
  obtain ⟨r0, z1, h1, h2⟩ := rb_r h
  split at h2
  · exact (flt_r h2).elim
  obtain ⟨r, z2, h3, h4⟩ := rb_r h2
  cases h4
  have a := hP _ _ _ h1
  have b := BR_all _ _ _ _ _ h3
  exact (hz.tr a).tr (((br_zu (by omega) (by decide)).tr br_adv).tr (BrR.tr b (br_zu (by omega) (by decide))))
theorem br_sT {f : Nat} : ∀ (m : Nat) (z : Zt) (q : Nat × Zt), sT kd pl pr f m z = .inr q → BrR z q.2 := by
  intro m
  induction m with
  | zero => intro z q h; cases h
  | succ m ih =>
    intro z q h
    unfold sT at h
    obtain ⟨r0, z1, h1, h2⟩ := rb_r h
    have a := br_sD h1
    split at h2
    · exact a.tr (br_adv.tr (ih _ _ h2))
    · split at h2
      · cases h2; exact a
      · exact (flt_r h2).elim
end BRACK
