section OPMENDED2
variable {kd pl : Nat → Nat} {nt e p c : Nat} {S : lm_S} {I : lm_I} {L : lm_L} {R : lm_R} {Q : Option Value → lm_M → Prop} {z : Zt} {ky bi : Nat → Int64} {mn : Nat → Nat} {l : Nat → Rr} {f : N3 → Bool} {X X' : List N3} {a b : Int32}
theorem MDc_fr {I' : lm_I} (h : MDc ky bi z mn l c f I) (h80 : I' 80 = I 80) (h89 : I' 89 = I 89) : MDc ky bi z mn l c f I' := by
  rcases h with x | ⟨x, Y, y1, y2⟩
  · exact Or.inl (by rw [h80]; exact x)
  · exact Or.inr ⟨by rw [h80]; exact x, Y, y1, OFc_E y2 h80 h89⟩
theorem MDm_fr {I' : lm_I} (h : MDm ky bi z mn l c f I) (h99 : I' 96 99 = I 96 99) (h158 : I' 158 = I 158) (h159 : I' 159 = I 159) (h160 : I' 160 = I 160) : MDm ky bi z mn l c f I' := by
  rcases h with x | ⟨Y, y1, y2, y3⟩
  · exact Or.inl (by rw [h99]; exact x)
  · exact Or.inr ⟨Y, y1, by rw [h99]; exact y2, fun j hj => by rw [h158, h159, h160]; exact y3 j hj⟩
theorem XTX_Me {I' : lm_I} (h : XTX kd pl nt ky bi p z mn l c f S I L R) (g : frMe I I') : XTX kd pl nt ky bi p z mn l c f S I' L R := by
  obtain ⟨h1, h2, h3, ⟨m1, m2, ⟨n1, n2, n3⟩, m4, m5⟩, h5, h6, h7, h8⟩ := h
  have hp := h1.1.1.1
  refine ⟨CTX_fr h1 (fun o ho => g o (by omega)) (fun k _ => by rw [g 96 (by omega)]), nmC_fr hp h2 (fun o ho => g o (by omega)), h3, ⟨mTB_fr m1 (fun o a b => g o (by omega)) (fun k _ => by rw [g 96 (by omega)]), fun n hn => by rw [g 132 (by omega), g 133 (by omega), g 161 (by omega)]; exact m2 n hn, ⟨n1, n2, ?_⟩, by rw [g 96 (by omega)]; exact m4, by rw [g 96 (by omega)]; exact m5⟩, h5, fun r hr => by rw [g 88 (by omega)]; exact h6 r hr, by rw [g 0 (by omega)]; exact h7, by rw [g 96 (by omega)]; exact h8⟩
  rcases n3 with ⟨x, -⟩ | ⟨x, y, w⟩
  · exact absurd x (by decide)
  · exact Or.inr ⟨x, by rw [g 96 (by omega)]; exact y, fun b hb => by rw [g 135 (by omega), g 136 (by omega), g 137 (by omega)]; exact w b hb⟩
theorem op_mended (hS : lp_shape S) (hR : lp_refs R) (h : XTX kd pl nt ky bi p z mn l c f S I L R) (N1 : 1 ≤ z 30 2) (hM : MDc ky bi z mn l c f I) (hM2 : MDm ky bi z mn l c f I) {Inv : lm_M → Prop} (hI : ∀ I2, frCZ I I2 → OUTk I I2 → MDc ky bi z mn l c f I2 → MDm ky bi z mn l c f I2 → Inv (S, I2, L, R)) : lc (e + 11) 139 [.ref 0, .int a, .int b] (S, I, L, R) (fun v M1 => ∃ r : Int32, v = some (.int r) ∧ (M1.1.2.2 96).1 = 10 ∧ lc (e + 11) 225 [.ref 96, .int a, .int b] M1 (fun v2 M2 => v2 = some (.int r) ∧ Inv M2)) := by
  have sh : (S.2.2 96).1 = 10 := by rw [sh_96 hS]
  have hM2' : ∀ I1, frCo I I1 → MDm ky bi z mn l c f I1 := fun I1 fr => MDm_fr hM2 (by rw [fr 96 (by omega)]) (fr 158 (by omega)) (fr 159 (by omega)) (fr 160 (by omega))
  have fin : ∀ (X : List N3) (I1 I2 I3 : lm_I), OFX ky bi z mn l c f X → OFc X I1 → I1 80 4 = nI 1 → frCo I I1 → frMe I1 I2 → frCZ I2 I3 → (∀ o, o < 96 → I3 o = I2 o) → OFm X I3 → OUTk I I3 → Inv (S, I3, L, R) := fun X I1 I2 I3 hX hO k4 fr g g2 g3 hO' ou => by
    refine hI I3 ⟨fun o ho => ?_, fun k a1 a2 a3 a4 a5 a6 a7 a8 a9 a10 => ?_, g2.2.2⟩ ou (Or.inr ⟨?_, X, hX, OFc_E hO ?_ ?_⟩) (Or.inr ⟨X, hX, hO'⟩)
    · rw [g2.1 o ho, g o (by omega), fr o (by omega)]
    · rw [g2.2.1 k a1 a2 a3 a4 a5 a6 a7 a8 a9 a10, g 96 (by omega), fr 96 (by omega)]
    · rw [g3 80 (by omega), g 80 (by omega)]; exact k4
    · rw [g3 80 (by omega), g 80 (by omega)]
    · rw [g3 89 (by omega), g 89 (by omega)]
  refine c_139 hS hR h hM (fun q => ⟨_, rfl, sh, ?_⟩) (fun X I1 j hX hO k4 fr hj jb q => ⟨_, rfl, sh, ?_⟩) (fun X I1 I2 k j n P So Le Ri dp u val hX hO k4 fr hk ka hj jb ft g o1 o2 big => ⟨_, rfl, sh, ?_⟩) (fun X I1 I2 k j n P So Le Ri dp u val hX hO k4 fr hk ka hj jb ft g sm o1 o2 => ⟨_, rfl, sh, ?_⟩)
  · refine k_225b hS hR h N1 hM2 (Or.inl q) (fun X I2 hX hO' fr' => ⟨rfl, ?_⟩)
    have w := fr_CZ (I := I) (fun _ _ => rfl) fr'
    exact hI I2 w.1 w.2 (MDc_fr hM (fr'.1 80 (by omega)) (fr'.1 89 (by omega))) (Or.inr ⟨X, hX, hO'⟩)
  · refine k_225b hS hR (XTX_Co h fr) N1 (hM2' I1 fr) (Or.inr (fun X' hX' => by rw [← OFX_un hX hX']; exact q)) (fun X' I2 hX' hO' fr' => ⟨rfl, ?_⟩)
    exact hI I2 (fr_CZ fr fr').1 (fr_CZ fr fr').2 (MD_both hX hO k4 (fun o h1 _ => fr'.1 o (by omega))) (Or.inr ⟨X', hX', hO'⟩)
  · rw [ka, jb]
    have M2 : MDm ky bi z mn l c f I2 := MDm_fr (hM2' I1 fr) (by rw [g 96 (by omega)]) (g 158 (by omega)) (g 159 (by omega)) (g 160 (by omega))
    refine k_225y hS hR (XTX_Me (XTX_Co h fr) g) N1 M2 hX hk hj ft (fun I3 g2 g3 hO' _ q1 q2 => ⟨rfl, fin X I1 I2 I3 hX hO k4 fr g g2 g3 hO' (Or.inl ⟨?_, ?_, ?_, ?_⟩)⟩) (fun I3 _ _ _ sm _ _ => absurd sm (by omega))
    · rw [g3 90 (by omega), o2, fr 90 (by omega)]
    · rw [g3 91 (by omega), o1, fr 91 (by omega)]
    · rw [q2, g 96 (by omega), fr 96 (by omega)]
    · rw [q1, g 98 (by omega), fr 98 (by omega)]
  · rw [ka, jb]
    have M2 : MDm ky bi z mn l c f I2 := MDm_fr (hM2' I1 fr) (by rw [g 96 (by omega)]) (g 158 (by omega)) (g 159 (by omega)) (g 160 (by omega))
    refine k_225y hS hR (XTX_Me (XTX_Co h fr) g) N1 M2 hX hk hj ft (fun I3 _ _ _ big _ _ => absurd big (by omega)) (fun I3 g2 g3 hO' _ q1 q2 => ⟨rfl, fin X I1 I2 I3 hX hO k4 fr g g2 g3 hO' (Or.inr ⟨(txt (val (z 30 0 + j)) []).1, sm, ⟨?_, fun i hi => ?_⟩, q1, q2⟩)⟩)
    · rw [g3 90 (by omega)]; exact o1
    · rw [g3 91 (by omega)]; exact o2 i hi
end OPMENDED2
