section OPS2
theorem L_node (a b : Int32) : lp_op 96 INV 127 202 [.int a, .int b] := by
  intro M hI
  obtain ⟨S, I, L, R⟩ := M
  have keep := hI
  obtain ⟨p, p', bi, tp, n, hB, hY⟩ := hI
  replace hB : BAS p p' bi tp n S I L R := hB
  replace hY : NTX I p ∨ ∃ kd pl nt ky z mn l c f σ, YTX kd pl nt ky bi p z mn l c f σ S I L R := hY
  have hS := hB.1.1
  have hR := hB.2.1.1
  have hpp := hB.2.1.2.1
  have hp : p = 2 ∨ p = 36 := by omega
  have hc := hB.2.1.2.2.1
  have sh : (S.2.2 96).1 = 10 := by rw [sh_96 hS]
  rcases hY with hN | ⟨kd, pl, nt, ky, z, mn, l, c, f, σ, hY⟩
  · exact n_127 (e := 997) hS hR hp hc hN ⟨_, rfl, sh, k_202z (e := 997) hS hN.1.2 ⟨rfl, keep⟩⟩
  · have hT := hY.1.1.1
    have h4 := hY.1.2.2.2.2.2.2.1
    have h48 := hY.1.2.2.2.2.2.2.2
    have c160 : c ≤ 160 := hT.2.1.2.2.2.2.2.1
    have n80 : z 30 0 ≤ 80 := hT.2.1.2.1
    have B22 : z 30 2 ≤ 22 := hT.2.1.2.2.1
    refine op_node (e := 997) (K := z 0) (P := z 7) hS hR hp hc n80 hY.2.1.1 h48 hT.2.2.2.1.1.1 hY.1.1.2.2.1.1.1 (fun k hk => ?_) (fun k hk => ?_) (fun k hk h0 => ?_) keep
    · obtain ⟨⟨g8, g9, -, g13⟩, -⟩ := CTX_n hY.1.1 hk
      exact ⟨g8, g9, g13⟩
    · obtain ⟨g, g13, -, -⟩ := MCX_n hY.1.2.2.2.1 hk
      exact ⟨g, hY.2.2.1.2.2.2 k hk, g13⟩
    · obtain ⟨-, -, -, -, g15, -⟩ := CTX_n hY.1.1 hk
      obtain ⟨-, -, -, g131⟩ := MCX_n hY.1.2.2.2.1 hk
      have mb : mn k < 11 + z 30 2 := hY.1.2.2.1.2.2.2.2 k hk h0
      rw [g15, g131 h0, oN_lt (by omega)]

theorem L_rule (a : Int32) : lp_op 96 INV 128 203 [.int a] := by
  intro M hI
  obtain ⟨S, I, L, R⟩ := M
  have keep := hI
  obtain ⟨p, p', bi, tp, n, hB, hY⟩ := hI
  replace hB : BAS p p' bi tp n S I L R := hB
  replace hY : NTX I p ∨ ∃ kd pl nt ky z mn l c f σ, YTX kd pl nt ky bi p z mn l c f σ S I L R := hY
  have hS := hB.1.1
  have hR := hB.2.1.1
  have hpp := hB.2.1.2.1
  have hp : p = 2 ∨ p = 36 := by omega
  have hc := hB.2.1.2.2.1
  have sh : (S.2.2 96).1 = 10 := by rw [sh_96 hS]
  rcases hY with hN | ⟨kd, pl, nt, ky, z, mn, l, c, f, σ, hY⟩
  · exact n_128 (e := 997) hS hR hp hc hN ⟨_, rfl, sh, k_203z (e := 997) hS hN.1.2 ⟨rfl, keep⟩⟩
  · have hT := hY.1.1.1
    have h4 := hY.1.2.2.2.2.2.2.1
    have h48 := hY.1.2.2.2.2.2.2.2
    have c160 : c ≤ 160 := hT.2.1.2.2.2.2.2.1
    exact op_rule (e := 998) hS hR hp hc (fun i => (hY.1.1.2.1.2.1.2.2.2 i).2) c160 hY.2.1.2.2 h48 hY.1.1.2.2.2 hY.2.2.1.2.2.1 keep

theorem L_fits : lp_op 96 INV 129 198 [] := by
  intro M hI
  obtain ⟨S, I, L, R⟩ := M
  have keep := hI
  obtain ⟨p, p', bi, tp, n, hB, hY⟩ := hI
  replace hB : BAS p p' bi tp n S I L R := hB
  replace hY : NTX I p ∨ ∃ kd pl nt ky z mn l c f σ, YTX kd pl nt ky bi p z mn l c f σ S I L R := hY
  have hS := hB.1.1
  have hR := hB.2.1.1
  have hpp := hB.2.1.2.1
  have hp : p = 2 ∨ p = 36 := by omega
  have hc := hB.2.1.2.2.1
  have sh : (S.2.2 96).1 = 10 := by rw [sh_96 hS]
  rcases hY with hN | ⟨kd, pl, nt, ky, z, mn, l, c, f, σ, hY⟩
  · exact n_129 (e := 997) hS hN ⟨_, rfl, sh, k_198z (e := 997) hS hN.1.2 ⟨rfl, keep⟩⟩
  · have hT := hY.1.1.1
    have h4 := hY.1.2.2.2.2.2.2.1
    have h48 := hY.1.2.2.2.2.2.2.2
    have c160 : c ≤ 160 := hT.2.1.2.2.2.2.2.1
    exact op_fits (e := 992) hS hR hT h4 h48 (fun I2 g => INV_X hB hY g)

theorem L_conflict (a b : Int32) : lp_op 96 INV 130 199 [.int a, .int b] := by
  intro M hI
  obtain ⟨S, I, L, R⟩ := M
  have keep := hI
  obtain ⟨p, p', bi, tp, n, hB, hY⟩ := hI
  replace hB : BAS p p' bi tp n S I L R := hB
  replace hY : NTX I p ∨ ∃ kd pl nt ky z mn l c f σ, YTX kd pl nt ky bi p z mn l c f σ S I L R := hY
  have hS := hB.1.1
  have hR := hB.2.1.1
  have hpp := hB.2.1.2.1
  have hp : p = 2 ∨ p = 36 := by omega
  have hc := hB.2.1.2.2.1
  have sh : (S.2.2 96).1 = 10 := by rw [sh_96 hS]
  rcases hY with hN | ⟨kd, pl, nt, ky, z, mn, l, c, f, σ, hY⟩
  · exact n_130 (e := 997) hS hR hp hc hN ⟨_, rfl, sh, k_199z (e := 997) hS hN.1.2 ⟨rfl, keep⟩⟩
  · have hT := hY.1.1.1
    have h4 := hY.1.2.2.2.2.2.2.1
    have h48 := hY.1.2.2.2.2.2.2.2
    have c160 : c ≤ 160 := hT.2.1.2.2.2.2.2.1
    exact op_conflict (e := 992) hS hR hT hY.2.1.2.2 h48 (fun I2 g => INV_X hB hY g)

theorem L_search (a : Int32) : lp_op 96 INV 131 205 [.int a] := by
  intro M hI
  obtain ⟨S, I, L, R⟩ := M
  have keep := hI
  obtain ⟨p, p', bi, tp, n, hB, hY⟩ := hI
  replace hB : BAS p p' bi tp n S I L R := hB
  replace hY : NTX I p ∨ ∃ kd pl nt ky z mn l c f σ, YTX kd pl nt ky bi p z mn l c f σ S I L R := hY
  have hS := hB.1.1
  have hR := hB.2.1.1
  have hpp := hB.2.1.2.1
  have hp : p = 2 ∨ p = 36 := by omega
  have hc := hB.2.1.2.2.1
  have sh : (S.2.2 96).1 = 10 := by rw [sh_96 hS]
  rcases hY with hN | ⟨kd, pl, nt, ky, z, mn, l, c, f, σ, hY⟩
  · exact n_131 (e := 997) hS hN (fun q => ⟨_, rfl, sh, k_205b (e := 998) hS q ⟨rfl, keep⟩⟩) (fun m m1 m2 ha => ⟨_, rfl, sh, by rw [ha]; exact k_205z (e := 997) hS hN.1.2 m1 m2 ⟨rfl, keep⟩⟩)
  · have hT := hY.1.1.1
    have h4 := hY.1.2.2.2.2.2.2.1
    have h48 := hY.1.2.2.2.2.2.2.2
    have c160 : c ≤ 160 := hT.2.1.2.2.2.2.2.1
    exact op_search (e := 992) hS hR hT h4 h48 hY.2.2.2.1.1 hY.2.2.2.1.2.1 hY.2.2.2.1.2.2 keep (fun τ I2 a b d g1 g2 => INV_S hB hY a b d g1 g2)

theorem L_set (a b : Int32) : lp_op 96 INV 132 208 [.int a, .int b] := by
  intro M hI
  obtain ⟨S, I, L, R⟩ := M
  have keep := hI
  obtain ⟨p, p', bi, tp, n, hB, hY⟩ := hI
  replace hB : BAS p p' bi tp n S I L R := hB
  replace hY : NTX I p ∨ ∃ kd pl nt ky z mn l c f σ, YTX kd pl nt ky bi p z mn l c f σ S I L R := hY
  have hS := hB.1.1
  have hR := hB.2.1.1
  have hpp := hB.2.1.2.1
  have hp : p = 2 ∨ p = 36 := by omega
  have hc := hB.2.1.2.2.1
  have sh : (S.2.2 96).1 = 10 := by rw [sh_96 hS]
  rcases hY with hN | ⟨kd, pl, nt, ky, z, mn, l, c, f, σ, hY⟩
  · exact n_132 (e := 997) hS hR hN ⟨_, rfl, sh, k_208z (e := 997) hS hN.1.2 ⟨rfl, keep⟩⟩
  · have hT := hY.1.1.1
    have h4 := hY.1.2.2.2.2.2.2.1
    have h48 := hY.1.2.2.2.2.2.2.2
    have c160 : c ≤ 160 := hT.2.1.2.2.2.2.2.1
    exact op_set (e := 997) hS hR (HST_of hY.2.2.2.1) c160 h48 hT.2.2.2.1.2.2.1.1 keep

theorem L_less (a b : Int32) : lp_op 96 INV 133 209 [.int a, .int b] := by
  intro M hI
  obtain ⟨S, I, L, R⟩ := M
  have keep := hI
  obtain ⟨p, p', bi, tp, n, hB, hY⟩ := hI
  replace hB : BAS p p' bi tp n S I L R := hB
  replace hY : NTX I p ∨ ∃ kd pl nt ky z mn l c f σ, YTX kd pl nt ky bi p z mn l c f σ S I L R := hY
  have hS := hB.1.1
  have hR := hB.2.1.1
  have hpp := hB.2.1.2.1
  have hp : p = 2 ∨ p = 36 := by omega
  have hc := hB.2.1.2.2.1
  have sh : (S.2.2 96).1 = 10 := by rw [sh_96 hS]
  rcases hY with hN | ⟨kd, pl, nt, ky, z, mn, l, c, f, σ, hY⟩
  · exact n_133 (e := 997) hS hR hN ⟨_, rfl, sh, k_209z (e := 997) hS hN.1.2 ⟨rfl, keep⟩⟩
  · have hT := hY.1.1.1
    have h4 := hY.1.2.2.2.2.2.2.1
    have h48 := hY.1.2.2.2.2.2.2.2
    have c160 : c ≤ 160 := hT.2.1.2.2.2.2.2.1
    exact op_less (e := 992) hS hR hT (HST_of hY.2.2.2.1) h48 (fun I2 g => INV_X hB hY g)

theorem L_type (a : Int32) : lp_op 96 INV 134 214 [.int a] := by
  intro M hI
  obtain ⟨S, I, L, R⟩ := M
  have keep := hI
  obtain ⟨p, p', bi, tp, n, hB, hY⟩ := hI
  replace hB : BAS p p' bi tp n S I L R := hB
  replace hY : NTX I p ∨ ∃ kd pl nt ky z mn l c f σ, YTX kd pl nt ky bi p z mn l c f σ S I L R := hY
  have hS := hB.1.1
  have hR := hB.2.1.1
  have hpp := hB.2.1.2.1
  have hp : p = 2 ∨ p = 36 := by omega
  have hc := hB.2.1.2.2.1
  have sh : (S.2.2 96).1 = 10 := by rw [sh_96 hS]
  rcases hY with hN | ⟨kd, pl, nt, ky, z, mn, l, c, f, σ, hY⟩
  · exact n_134 (e := 997) hS hR hp hc hN ⟨_, rfl, sh, k_214z (e := 997) hS hN.1.2 ⟨rfl, keep⟩⟩
  · have hT := hY.1.1.1
    have h4 := hY.1.2.2.2.2.2.2.1
    have h48 := hY.1.2.2.2.2.2.2.2
    have c160 : c ≤ 160 := hT.2.1.2.2.2.2.2.1
    exact op_type (e := 992) hS hR hT hY.2.1.1 hY.1.1.2.2.1.1.1 h48 (fun I2 g k => INV_Z hB hY g k)

theorem L_binder (a : Int32) : lp_op 96 INV 135 216 [.int a] := by
  intro M hI
  obtain ⟨S, I, L, R⟩ := M
  have keep := hI
  obtain ⟨p, p', bi, tp, n, hB, hY⟩ := hI
  replace hB : BAS p p' bi tp n S I L R := hB
  replace hY : NTX I p ∨ ∃ kd pl nt ky z mn l c f σ, YTX kd pl nt ky bi p z mn l c f σ S I L R := hY
  have hS := hB.1.1
  have hR := hB.2.1.1
  have hpp := hB.2.1.2.1
  have hp : p = 2 ∨ p = 36 := by omega
  have hc := hB.2.1.2.2.1
  have sh : (S.2.2 96).1 = 10 := by rw [sh_96 hS]
  rcases hY with hN | ⟨kd, pl, nt, ky, z, mn, l, c, f, σ, hY⟩
  · exact n_135 (e := 997) hS hR hp hc hN ⟨_, rfl, sh, k_216z (e := 997) hS hN.1.2 ⟨rfl, keep⟩⟩
  · have hT := hY.1.1.1
    have h4 := hY.1.2.2.2.2.2.2.1
    have h48 := hY.1.2.2.2.2.2.2.2
    have c160 : c ≤ 160 := hT.2.1.2.2.2.2.2.1
    exact op_binder (e := 992) hS hR hT hY.2.1.2.1 hY.1.2.1.1.2.2.2 hY.1.1.2.2.1.1.2.1 h48 (fun I2 g k => INV_Z hB hY g k)

theorem L_without (a b : Int32) : lp_op 96 INV 136 217 [.int a, .int b] := by
  intro M hI
  obtain ⟨S, I, L, R⟩ := M
  have keep := hI
  obtain ⟨p, p', bi, tp, n, hB, hY⟩ := hI
  replace hB : BAS p p' bi tp n S I L R := hB
  replace hY : NTX I p ∨ ∃ kd pl nt ky z mn l c f σ, YTX kd pl nt ky bi p z mn l c f σ S I L R := hY
  have hS := hB.1.1
  have hR := hB.2.1.1
  have hpp := hB.2.1.2.1
  have hp : p = 2 ∨ p = 36 := by omega
  have hc := hB.2.1.2.2.1
  have sh : (S.2.2 96).1 = 10 := by rw [sh_96 hS]
  rcases hY with hN | ⟨kd, pl, nt, ky, z, mn, l, c, f, σ, hY⟩
  · exact n_136 (e := 997) hS hR hp hc hN ⟨_, rfl, sh, k_217z (e := 997) hS hN.1.2 ⟨rfl, keep⟩⟩
  · have hT := hY.1.1.1
    have h4 := hY.1.2.2.2.2.2.2.1
    have h48 := hY.1.2.2.2.2.2.2.2
    have c160 : c ≤ 160 := hT.2.1.2.2.2.2.2.1
    exact op_without (e := 992) hS hR hT hY.2.1.1 hY.2.1.2.2 hY.1.1.2.2.1.1.1 h48 (fun I2 g k => INV_Z hB hY g k)

theorem L_changes : lp_op 96 INV 137 223 [] := by
  intro M hI
  obtain ⟨S, I, L, R⟩ := M
  have keep := hI
  obtain ⟨p, p', bi, tp, n, hB, hY⟩ := hI
  replace hB : BAS p p' bi tp n S I L R := hB
  replace hY : NTX I p ∨ ∃ kd pl nt ky z mn l c f σ, YTX kd pl nt ky bi p z mn l c f σ S I L R := hY
  have hS := hB.1.1
  have hR := hB.2.1.1
  have hpp := hB.2.1.2.1
  have hp : p = 2 ∨ p = 36 := by omega
  have hc := hB.2.1.2.2.1
  have sh : (S.2.2 96).1 = 10 := by rw [sh_96 hS]
  rcases hY with hN | ⟨kd, pl, nt, ky, z, mn, l, c, f, σ, hY⟩
  · exact n_137 (e := 997) hS hN ⟨_, rfl, sh, Eq.mpr (k_223z (e := 999) hS hN.1.2) ⟨rfl, keep⟩⟩
  · have hT := hY.1.1.1
    have h4 := hY.1.2.2.2.2.2.2.1
    have h48 := hY.1.2.2.2.2.2.2.2
    have c160 : c ≤ 160 := hT.2.1.2.2.2.2.2.1
    exact op_changes (e := 989) hS hR hY.1 hY.2.2.2.2.1 hY.2.2.2.2.2 (fun I2 g k m1 m2 => INV_CZ hB hY g k m1 m2)

theorem L_change (a b : Int32) : lp_op 96 INV 138 224 [.int a, .int b] := by
  intro M hI
  obtain ⟨S, I, L, R⟩ := M
  have keep := hI
  obtain ⟨p, p', bi, tp, n, hB, hY⟩ := hI
  replace hB : BAS p p' bi tp n S I L R := hB
  replace hY : NTX I p ∨ ∃ kd pl nt ky z mn l c f σ, YTX kd pl nt ky bi p z mn l c f σ S I L R := hY
  have hS := hB.1.1
  have hR := hB.2.1.1
  have hpp := hB.2.1.2.1
  have hp : p = 2 ∨ p = 36 := by omega
  have hc := hB.2.1.2.2.1
  have sh : (S.2.2 96).1 = 10 := by rw [sh_96 hS]
  rcases hY with hN | ⟨kd, pl, nt, ky, z, mn, l, c, f, σ, hY⟩
  · exact n_138 (e := 997) hS hN ⟨_, rfl, sh, k_224z (e := 997) hS hN.1.2 ⟨rfl, keep⟩⟩
  · have hT := hY.1.1.1
    have h4 := hY.1.2.2.2.2.2.2.1
    have h48 := hY.1.2.2.2.2.2.2.2
    have c160 : c ≤ 160 := hT.2.1.2.2.2.2.2.1
    exact op_change (e := 989) hS hR hB.2.2.1.1 hY.1 hY.2.2.2.2.1 hY.2.2.2.2.2 (fun I2 g k m1 m2 => INV_CZ hB hY g k m1 m2)

theorem L_mended (a b : Int32) : lp_op 96 INV 139 225 [.int a, .int b] := by
  intro M hI
  obtain ⟨S, I, L, R⟩ := M
  have keep := hI
  obtain ⟨p, p', bi, tp, n, hB, hY⟩ := hI
  replace hB : BAS p p' bi tp n S I L R := hB
  replace hY : NTX I p ∨ ∃ kd pl nt ky z mn l c f σ, YTX kd pl nt ky bi p z mn l c f σ S I L R := hY
  have hS := hB.1.1
  have hR := hB.2.1.1
  have hpp := hB.2.1.2.1
  have hp : p = 2 ∨ p = 36 := by omega
  have hc := hB.2.1.2.2.1
  have sh : (S.2.2 96).1 = 10 := by rw [sh_96 hS]
  rcases hY with hN | ⟨kd, pl, nt, ky, z, mn, l, c, f, σ, hY⟩
  · exact n_139 (e := 997) hS hN ⟨_, rfl, sh, k_225z (e := 997) hS hN.1.2 ⟨rfl, keep⟩⟩
  · have hT := hY.1.1.1
    have h4 := hY.1.2.2.2.2.2.2.1
    have h48 := hY.1.2.2.2.2.2.2.2
    have c160 : c ≤ 160 := hT.2.1.2.2.2.2.2.1
    exact op_mended (e := 989) hS hR hY.1 hY.2.1.2.1 hY.2.2.2.2.1 hY.2.2.2.2.2 (fun I2 g k m1 m2 => INV_CZ hB hY g k m1 m2)

theorem L_out (a : Int32) : lp_op 96 INV 140 218 [.int a] := by
  intro M hI
  obtain ⟨S, I, L, R⟩ := M
  have keep := hI
  obtain ⟨p, p', bi, tp, n, hB, hY⟩ := hI
  replace hB : BAS p p' bi tp n S I L R := hB
  obtain ⟨o, ho⟩ := hB.2.2.2.2.2.1
  exact op_out (e := 998) hB.1.1 hB.2.1.1 ho keep
end OPS2
