/-! ===== every call keeps the invariant ===== -/
section OPS
variable {kd pl : Nat → Nat} {nt p p' c n : Nat} {S : lm_S} {I I2 : lm_I} {L : lm_L} {R : lm_R} {z : Zt} {ky bi : Nat → Int64} {mn tp : Nat → Nat} {l : Nat → Rr} {f : N3 → Bool} {σ : HS}
theorem HST_of (hh : CHs σ I ∧ MHs c σ I ∧ PHs z mn l c σ) : HST c σ.1 σ.2.2.1 I := ⟨⟨hh.1.1.2.1, hh.2.1.1.2.1, PH_fo hh.2.2⟩, hh.1.2.1, hh.2.1.2.1, hh.2.2.1.1, hh.2.2.1.2.1⟩
theorem INV_S {τ : HS} (hB : BAS p p' bi tp n S I L R) (hY : YTX kd pl nt ky bi p z mn l c f σ S I L R) (a : CHs τ I2) (b : MHs c τ I2) (d : PHs z mn l c τ) (g1 : ∀ o, (o < 70 ∨ (80 ≤ o ∧ o < 96) ∨ (97 ≤ o ∧ o < 147) ∨ 156 ≤ o) → I2 o = I o) (g2 : ∀ k, k ≠ 75 → k ≠ 80 → k ≠ 82 → (k < 88 ∨ 92 < k) → I2 96 k = I 96 k) : INV (S, I2, L, R) := by
  have h84 : I2 96 84 = -9 := by rw [g2 84 (by decide) (by decide) (by decide) (by omega)]; exact hB.2.2.2.2.2.2.1
  have h85 : ∃ cn, cn < 80 ∧ I2 96 85 = nI cn := by rw [g2 85 (by decide) (by decide) (by decide) (by omega)]; exact hB.2.2.2.2.2.2.2
  refine ⟨p, p', bi, tp, n, BAS_fr hB (fun o ho => g1 o (by omega)) (g2 1 (by decide) (by decide) (by decide) (by omega)) h84 h85 (OUTk_2 hB.2.2.2.2.2.1 (Or.inl ⟨congrFun (g1 90 (by omega)) 1, g1 91 (by omega), g2 3 (by decide) (by decide) (by decide) (by omega), g1 98 (by omega)⟩)), Or.inr ⟨kd, pl, nt, ky, z, mn, l, c, f, τ, YTX_fr hY (fun o ho => g1 o (by omega)) (fun k hk => g2 k (by omega) (by omega) (by omega) (by omega)) h84 h85 ⟨a, b, d⟩ (MDc_fr hY.2.2.2.2.1 (g1 80 (by omega)) (g1 89 (by omega))) (MDm_fr hY.2.2.2.2.2 (g2 99 (by decide) (by decide) (by decide) (by omega)) (g1 158 (by omega)) (g1 159 (by omega)) (g1 160 (by omega)))⟩⟩
/-- feed of both -/
theorem L_feed (a : Int32) (y : Int64) : lp_op 96 INV 124 147 [.int a, .long y] := by
  intro M hI
  obtain ⟨S, I, L, R⟩ := M
  have keep := hI
  obtain ⟨p, p', bi, tp, n, hB, hY⟩ := hI
  replace hB : BAS p p' bi tp n S I L R := hB
  replace hY : NTX I p ∨ ∃ kd pl nt ky z mn l c f σ, YTX kd pl nt ky bi p z mn l c f σ S I L R := hY
  have hS := hB.1.1
  have hR := hB.2.1.1
  have hpp := hB.2.1.2.1
  have sh : (S.2.2 96).1 = 10 := by rw [sh_96 hS]
  have inj : ∀ {i j : Nat}, i < 1000 → j < 1000 → nI i = nI j → i = j := fun hi hj q => nI_inj hi hj q
  have n240 := hB.2.2.2.1.1.1
  refine k_124 (e := 999) hS hR hB.2.2.2.1.1 hB.2.2.2.1.2.2 (fun q => ⟨_, rfl, sh, k_147 (e := 999) hS hR hB.2.2.2.1.2.1 (fun _ => ⟨rfl, keep⟩) (fun m ha m1 m8 _ => ?_) (fun m I2 ha m1 m8 _ _ _ _ => ?_)⟩) (fun m ha m1 m8 big => ⟨_, rfl, sh, k_147 (e := 999) hS hR hB.2.2.2.1.2.1 (fun q => ?_) (fun _ _ _ _ _ => ⟨rfl, keep⟩) (fun m' I2 ha' m1' m8' le _ _ _ => ?_)⟩) (fun m I1 ha m1 m8 le tc v1 f1 k1 => ⟨_, rfl, sh, k_147 (e := 999) (tp := tp) (n := n) hS hR ?_ (fun q => ?_) (fun m' ha' _ _ big => ?_) (fun m' I2 ha' m1' m8' le' tm f2 k2 => ?_)⟩)
  · exfalso
    rw [ha] at q
    rcases q with q | q
    · rw [Int32.lt_iff_toInt_lt, nI_ti (by omega), nI_ti (by omega)] at q; omega
    · exact q (by rw [Int32.le_iff_toInt_le, nI_ti (by omega), nI_ti (by omega)]; omega)
  · exfalso
    rw [ha] at q
    rcases q with q | q
    · rw [Int32.lt_iff_toInt_lt, nI_ti (by omega), nI_ti (by omega)] at q; omega
    · exact q (by rw [Int32.le_iff_toInt_le, nI_ti (by omega), nI_ti (by omega)]; omega)
  · exfalso
    rw [ha] at q
    rcases q with q | q
    · rw [Int32.lt_iff_toInt_lt, nI_ti (by omega), nI_ti (by omega)] at q; omega
    · exact q (by rw [Int32.le_iff_toInt_le, nI_ti (by omega), nI_ti (by omega)]; omega)
  · exfalso
    have := inj (i := m) (j := m') (by omega) (by omega) (ha.symm.trans ha')
    omega
  · have tm := hB.2.2.2.1.2.1
    exact ⟨tm.1, by rw [f1 96 (by decide) (by decide)]; exact tm.2.1, fun j hj => by rw [f1 97 (by decide) (by decide)]; exact tm.2.2 j hj⟩
  · exfalso
    rw [ha] at q
    rcases q with q | q
    · rw [Int32.lt_iff_toInt_lt, nI_ti (by omega), nI_ti (by omega)] at q; omega
    · exact q (by rw [Int32.le_iff_toInt_le, nI_ti (by omega), nI_ti (by omega)]; omega)
  · exfalso
    have := inj (i := m) (j := m') (by omega) (by omega) (ha.symm.trans ha')
    omega
  · have em := inj (i := m) (j := m') (by omega) (by omega) (ha.symm.trans ha')
    subst em
    refine ⟨rfl, ?_⟩
    have F : ∀ o, o ≠ 0 → o ≠ 1 → o ≠ 96 → o ≠ 97 → I2 o = I o := fun o a b d e => by rw [f2 o d e, f1 o a b]
    have K0 : ∀ k, k ≠ 1 → I2 0 k = I 0 k := fun k hk => by rw [f2 0 (by decide) (by decide), k1 k hk]
    have K96 : ∀ k, k ≠ 1 → I2 96 k = I 96 k := fun k hk => by rw [k2 k hk, f1 96 (by decide) (by decide)]
    have h84 : I2 96 84 = -9 := by rw [K96 84 (by decide)]; exact hB.2.2.2.2.2.2.1
    have h85 : ∃ cn, cn < 80 ∧ I2 96 85 = nI cn := by rw [K96 85 (by decide)]; exact hB.2.2.2.2.2.2.2
    refine ⟨p, p', bi, tpx tp n y, n + m, ?_, ?_⟩
    · obtain ⟨a, b, ⟨⟨x1, x2⟩, c2⟩, -, d, ⟨o, o1, ⟨o2, o3⟩, o4, o5⟩, -, -⟩ := hB
      refine ⟨a, b, ⟨⟨x1, fun j hj => ?_⟩, fun r hr => ?_⟩, ⟨⟨tc.1, fun j hj => ?_⟩, tm, ?_⟩, d, ⟨o, o1, ⟨?_, fun j hj => ?_⟩, ?_, fun j hj => ?_⟩, h84, h85⟩
      · show I2 (lm_B + 10) j = _
        rw [F (lm_B + 10) (by show 1000000 + 10 ≠ 0; omega) (by show 1000000 + 10 ≠ 1; omega) (by show 1000000 + 10 ≠ 96; omega) (by show 1000000 + 10 ≠ 97; omega)]
        exact x2 j hj
      · show I2 88 r = _
        rw [F 88 (by decide) (by decide) (by decide) (by decide)]; exact c2 r hr
      · show I2 1 j = _ ∧ _
        rw [f2 1 (by decide) (by decide)]; exact tc.2 j hj
      · show I2 0 1 = _
        rw [f2 0 (by decide) (by decide)]; exact v1
      · show I2 90 1 = _
        rw [F 90 (by decide) (by decide) (by decide) (by decide)]; exact o2
      · show I2 91 j = _
        rw [F 91 (by decide) (by decide) (by decide) (by decide)]; exact o3 j hj
      · show I2 96 3 = _
        rw [K96 3 (by decide)]; exact o4
      · show I2 98 j = _
        rw [F 98 (by decide) (by decide) (by decide) (by decide)]; exact o5 j hj
    · rcases hY with ⟨⟨a1, a2⟩, ⟨b1, b2, b3, b4⟩, d1, d2, d3⟩ | ⟨kd, pl, nt, ky, z, mn, l, c, f, σ, hY⟩
      · left
        show NTX I2 p
        refine ⟨⟨by rw [K0 4 (by decide)]; exact a1, by rw [K96 48 (by decide)]; exact a2⟩, ⟨?_, ?_, ?_, ?_⟩, ?_, ?_, ?_⟩
        · rw [F (p + 7) (by omega) (by omega) (by omega) (by omega)]; exact b1
        · rw [F (p + 20) (by omega) (by omega) (by omega) (by omega)]; exact b2
        · rw [F (p + 20) (by omega) (by omega) (by omega) (by omega)]; exact b3
        · rw [F (p + 27) (by omega) (by omega) (by omega) (by omega)]; exact b4
        · rw [F 77 (by decide) (by decide) (by decide) (by decide)]; exact d1
        · rw [F 77 (by decide) (by decide) (by decide) (by decide)]; exact d2
        · rw [F 77 (by decide) (by decide) (by decide) (by decide)]; exact d3
      · right
        exact ⟨kd, pl, nt, ky, z, mn, l, c, f, σ, YTX_fr4 hY (fun o ho => F o (by omega) (by omega) (by omega) (by omega)) (K0 4 (by decide)) (fun k hk => K96 k (by omega)) h84 h85 (fun k hk => ⟨(hB.2.2.2.2.1 k hk).1, (hB.2.2.2.2.1 k hk).2.2⟩) ⟨rfl, rfl⟩ ⟨CHs_fr hY.2.2.2.1.1 (fun o a b => F o (by omega) (by omega) (by omega) (by omega)), MHs_fr hY.2.2.2.1.2.1 (fun k a b => K96 k (by omega)) (F 154 (by decide) (by decide) (by decide) (by decide)) (F 155 (by decide) (by decide) (by decide) (by decide)), hY.2.2.2.1.2.2⟩ (MDc_fr hY.2.2.2.2.1 (F 80 (by decide) (by decide) (by decide) (by decide)) (F 89 (by decide) (by decide) (by decide) (by decide))) (MDm_fr hY.2.2.2.2.2 (K96 99 (by decide)) (F 158 (by decide) (by decide) (by decide) (by decide)) (F 159 (by decide) (by decide) (by decide) (by decide)) (F 160 (by decide) (by decide) (by decide) (by decide)))⟩
theorem L_read : lp_op 96 INV 125 181 [] := by
  intro M hI
  obtain ⟨S, I, L, R⟩ := M
  exact op_read hI
theorem L_told (a : Int32) : lp_op 96 INV 126 200 [.int a] := by
  intro M hI
  obtain ⟨S, I, L, R⟩ := M
  have keep := hI
  obtain ⟨p, p', bi, tp, n, hB, hY⟩ := hI
  replace hB : BAS p p' bi tp n S I L R := hB
  replace hY : NTX I p ∨ ∃ kd pl nt ky z mn l c f σ, YTX kd pl nt ky bi p z mn l c f σ S I L R := hY
  have hS := hB.1.1
  have hR := hB.2.1.1
  have hpp := hB.2.1.2.1
  have hp : p = 2 ∨ p = 36 := by omega
  have hc := hB.2.1.2.2.1
  have sh : (S.2.2 96).1 = 10 := by rw [sh_96 hS]
  have t7 := hB.2.2.2.1.2.2
  have m7 := hB.2.2.2.1.2.1.2.1
  rcases hY with hN | ⟨kd, pl, nt, ky, z, mn, l, c, f, σ, hY⟩
  · obtain ⟨⟨a1, a2⟩, ⟨b1, b2, b3, b4⟩, d1, d2, d3⟩ := hN
    refine c_126 (e := 998) (T := fun j => if j = 7 then nI n else nI 0) (b6 := 0) (B := 0) hS hR hp hc b2 (by omega) b3 rfl b1 b4 d2 d1 (Or.inl rfl) d3 rfl t7 (fun q => ⟨_, rfl, sh, ?_⟩) (fun j hj q => ⟨_, rfl, sh, ?_⟩)
    · exact k_200 (e := 998) (T := fun j => if j = 7 then nI n else nI 0) (b48 := 0) (b6 := 0) hS (Or.inl ⟨rfl, fun j hj => if_neg (by omega)⟩) a2 m7 (fun _ => ⟨rfl, keep⟩) (fun j hj q' => absurd q' (q j hj))
    · refine k_200 (e := 998) (T := fun j => if j = 7 then nI n else nI 0) (b48 := 0) (b6 := 0) hS (Or.inl ⟨rfl, fun j hj => if_neg (by omega)⟩) a2 m7 (fun x => absurd q (x j hj)) (fun j' hj' q' => ?_)
      have ej := nI_inj (i := j) (j := j') (by omega) (by omega) (q.symm.trans q')
      subst ej
      exact ⟨rfl, keep⟩
  · have B22 : z 30 2 ≤ 22 := hY.1.2.2.1.2.2.1.2.1
    have al1 : σ.2.2.2.2.1 = 0 ∨ σ.2.2.2.2.1 = 1 := by
      have : σ.2.2.2.2.1 ≤ 1 := hY.2.2.2.1.2.2.1.2.2.2
      omega
    obtain ⟨d1, d2, -, -⟩ := hY.2.2.1
    obtain ⟨⟨⟨-, u3, u4, u5⟩, -, -⟩, ⟨⟨w1, w2, w3, -, -⟩, -, -⟩, -⟩ := hY.2.2.2.1
    have mt := hY.1.1.1.2.2.2.1
    refine c_126 (e := 998) (T := fun j => if j = 0 then nI (z 30 1) else if j = 1 then nI (z 30 2) else if j = 2 then nI (z 30 0) else if j = 3 then nI c else if j = 4 then σ.2.2.2.2.2 else if j = 5 then nI σ.2.2.1 else if j = 6 then nI σ.2.2.2.2.1 else nI n) (b6 := σ.2.2.2.2.1) (B := z 30 2) hS hR hp hc d1 (by omega) hY.1.2.1.1.2.2.2 rfl hY.1.1.2.2.1.1.1 hY.1.1.2.2.2.1 u4 u3 al1 u5 rfl t7 (fun q => ⟨_, rfl, sh, ?_⟩) (fun j hj q => ⟨_, rfl, sh, ?_⟩)
    · exact k_200 (e := 998) (T := fun j => if j = 0 then nI (z 30 1) else if j = 1 then nI (z 30 2) else if j = 2 then nI (z 30 0) else if j = 3 then nI c else if j = 4 then σ.2.2.2.2.2 else if j = 5 then nI σ.2.2.1 else if j = 6 then nI σ.2.2.2.2.1 else nI n) (b48 := 1) (b6 := σ.2.2.2.2.1) hS (Or.inr ⟨rfl, d2, mt.2.1.1, mt.1.1, mt.2.2.1.1, w1, w2, al1, w3, rfl⟩) hY.1.2.2.2.2.2.2.2 m7 (fun _ => ⟨rfl, keep⟩) (fun j hj q' => absurd q' (q j hj))
    · refine k_200 (e := 998) (T := fun j => if j = 0 then nI (z 30 1) else if j = 1 then nI (z 30 2) else if j = 2 then nI (z 30 0) else if j = 3 then nI c else if j = 4 then σ.2.2.2.2.2 else if j = 5 then nI σ.2.2.1 else if j = 6 then nI σ.2.2.2.2.1 else nI n) (b48 := 1) (b6 := σ.2.2.2.2.1) hS (Or.inr ⟨rfl, d2, mt.2.1.1, mt.1.1, mt.2.2.1.1, w1, w2, al1, w3, rfl⟩) hY.1.2.2.2.2.2.2.2 m7 (fun x => absurd q (x j hj)) (fun j' hj' q' => ?_)
      have ej := nI_inj (i := j) (j := j') (by omega) (by omega) (q.symm.trans q')
      subst ej
      exact ⟨rfl, keep⟩
end OPS
