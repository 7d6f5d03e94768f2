/-! ===== what holds between calls ===== -/
def NTX (I : lm_I) (p : Nat) : Prop := (I 0 4 = nI 0 ∧ I 96 48 = nI 0) ∧ (I (p + 7) 12 = nI 0 ∧ I (p + 20) 6 = nI 0 ∧ I (p + 20) 8 = nI (11 + 0) ∧ I (p + 27) 6 = nI 0) ∧ I 77 3 = nI 0 ∧ I 77 4 = nI 0 ∧ I 77 5 = nI 0
def YTX (kd pl : Nat → Nat) (nt : Nat) (ky bi : Nat → Int64) (p : Nat) (z : Zt) (mn : Nat → Nat) (l : Nat → Rr) (c : Nat) (f : N3 → Bool) (σ : HS) (S : lm_S) (I : lm_I) (L : lm_L) (R : lm_R) : Prop := XTX kd pl nt ky bi p z mn l c f S I L R ∧ (1 ≤ z 30 0 ∧ 1 ≤ z 30 2 ∧ 1 ≤ c) ∧ (I (p + 20) 6 = nI (z 30 1) ∧ I 96 51 = nI (z 30 1) ∧ mRA pl I l c ∧ ∀ k, k < z 30 0 → I 126 k = nI (z 7 k)) ∧ (CHs σ I ∧ MHs c σ I ∧ PHs z mn l c σ) ∧ MDc ky bi z mn l c f I ∧ MDm ky bi z mn l c f I
def BAS (p p' : Nat) (bi : Nat → Int64) (tp : Nat → Nat) (n : Nat) (S : lm_S) (I : lm_I) (L : lm_L) (R : lm_R) : Prop := (lp_shape S ∧ S.1 = 162 ∧ S.2.1 = 85709) ∧ (lp_refs R ∧ ((p = 2 ∧ p' = 36) ∨ (p = 36 ∧ p' = 2)) ∧ R 0 2 = .ref p ∧ R 0 3 = .ref p') ∧ (KCO S I ∧ ∀ r, r < 168 → I 88 r = nI 1) ∧ (tpC I tp n ∧ tpM I tp n ∧ I 0 1 = nI n) ∧ (∀ k, k < 11 → L (p + 21) k = bi k ∧ L (p' + 21) k = bi k ∧ L 140 k = bi k) ∧ (∃ o, OUT2 I o) ∧ I 96 84 = -9 ∧ ∃ cn, cn < 80 ∧ I 96 85 = nI cn
def INV (M : lm_M) : Prop := ∃ p p' bi tp n, BAS p p' bi tp n M.1 M.2.1 M.2.2.1 M.2.2.2 ∧ (NTX M.2.1 p ∨ ∃ kd pl nt ky z mn l c f σ, YTX kd pl nt ky bi p z mn l c f σ M.1 M.2.1 M.2.2.1 M.2.2.2)
section INVS
variable {kd pl : Nat → Nat} {nt e p p' c n : Nat} {S : lm_S} {I : lm_I} {L : lm_L} {R : lm_R} {z : Zt} {ky bi : Nat → Int64} {mn tp : Nat → Nat} {l : Nat → Rr} {f : N3 → Bool} {σ : HS}
theorem rtab_p {I' : lm_I} {cnt V : Nat} {F X Y Z : Nat → Nat} (f : ∀ o, p ≤ o → o ≤ p + 33 → I' o = I o) (ht : rtab I (p + 27) cnt V F X Y Z) : rtab I' (p + 27) cnt V F X Y Z := by
  obtain ⟨a1, a2, ⟨nd, bd, a3, a4, a5⟩, a6⟩ := ht
  refine ⟨by rw [f _ (by omega) (by omega)]; exact a1, a2, ⟨nd, bd, by rw [f _ (by omega) (by omega)]; exact a3, by rw [f _ (by omega) (by omega)]; exact a4, a5⟩, fun r hr => ⟨?_, (a6 r hr).2⟩⟩
  obtain ⟨b1, b2, b3⟩ := (a6 r hr).1
  exact ⟨by rw [f _ (by omega) (by omega)]; exact b1, fun q => ⟨by rw [f _ (by omega) (by omega)]; exact (b2 q).1, by rw [f _ (by omega) (by omega)]; exact (b2 q).2⟩, fun q q2 => by rw [f _ (by omega) (by omega)]; exact b3 q q2⟩
theorem mTB_fr4 {I' : lm_I} {t : Nat → Nat → Nat} {lv : Nat → Nat} (h : mTB I t lv) (h1 : ∀ o, 125 ≤ o → o < 147 → I' o = I o) (h2 : ∀ k, (k = 49 ∨ k = 50 ∨ k = 68) → I' 96 k = I 96 k) : mTB I' t lv := by
  obtain ⟨⟨a1, a2, a3⟩, ⟨b1, b2, b3, b4, b5, b6, b7⟩, ⟨c1, c2, c3⟩, d1⟩ := h
  refine ⟨⟨by rw [h2 49 (by decide)]; exact a1, a2, fun n hn => ?_⟩, ⟨by rw [h2 50 (by decide)]; exact b1, b2, b3, b4, fun d hd => ?_, fun b hb => ?_, b7⟩, ⟨by rw [h2 68 (by decide)]; exact c1, c2, fun r hr => ?_⟩, fun k hk => ?_⟩
  · rw [h1 125 (by decide) (by decide), h1 127 (by decide) (by decide), h1 128 (by decide) (by decide), h1 129 (by decide) (by decide), h1 131 (by decide) (by decide)]
    exact a3 n hn
  · rw [h1 138 (by decide) (by decide), h1 139 (by decide) (by decide)]
    exact b5 d hd
  · rw [h1 135 (by decide) (by decide), h1 136 (by decide) (by decide)]
    exact b6 b hb
  · rw [h1 141 (by decide) (by decide), h1 142 (by decide) (by decide), h1 143 (by decide) (by decide)]
    exact c3 r hr
  · rw [h1 130 (by decide) (by decide)]
    exact d1 k hk
theorem XTX_fr {I' : lm_I} {L' : lm_L} (h : XTX kd pl nt ky bi p z mn l c f S I L R) (f1 : ∀ o, ((p ≤ o ∧ o ≤ p + 33) ∨ o = 88 ∨ (125 ≤ o ∧ o < 147) ∨ o = 161) → I' o = I o) (f4 : I' 0 4 = I 0 4) (f2 : ∀ k, ((48 ≤ k ∧ k ≤ 51) ∨ k = 68) → I' 96 k = I 96 k) (h84 : I' 96 84 = -9) (h85 : ∃ cn, cn < 80 ∧ I' 96 85 = nI cn) (l1 : ∀ k, k < 11 → L' (p + 21) k = bi k ∧ L' 140 k = bi k) (l2 : L' 134 = L 134 ∧ L' (p + 21) = L (p + 21)) : XTX kd pl nt ky bi p z mn l c f S I' L' R := by
  obtain ⟨⟨a, b, ⟨⟨c1, c2, c3⟩, c4⟩, d1, d2⟩, ⟨⟨x1, x2, x3, x4⟩, x5, x6, x7⟩, h3, ⟨m1, m2, ⟨n1, n2, n3⟩, m4, m5⟩, h5, h6, h7, h8⟩ := h
  have hp := a.1.1
  have m' := mTB_fr4 m1 (fun o h1 h2 => f1 o (by omega)) (fun k hk => f2 k (by omega))
  have t : TBX kd pl nt p z mn l c I' R := ⟨a.1, a.2.1, ⟨rtab_p (fun o o1 o2 => f1 o (by omega)) a.2.2.1.1, a.2.2.1.2⟩, m', h84, h85⟩
  refine ⟨⟨t, b, ⟨⟨by rw [f1 _ (by omega)]; exact c1, by rw [f1 _ (by omega)]; exact c2, by rw [f1 _ (by omega)]; exact c3⟩, fun n hn => ⟨fun o h1 h2 h3 h4 => by rw [f1 _ (by omega)]; exact (c4 n hn).1 o h1 h2 h3 h4, by rw [f1 _ (by omega)]; exact (c4 n hn).2⟩⟩, by rw [f1 _ (by omega)]; exact d1, fun i hi => ?_⟩, ⟨⟨x1, x2, by rw [f1 _ (by omega)]; exact x3, by rw [f1 _ (by omega)]; exact x4⟩, fun k hk => (l1 k hk).1, fun b hb => by rw [f1 _ (by omega), l2.2]; exact x6 b hb, fun d hd => by rw [f1 _ (by omega)]; exact x7 d hd⟩, h3, ⟨m', fun n hn => by rw [f1 132 (by omega), f1 133 (by omega), f1 161 (by omega)]; exact m2 n hn, ⟨n1, fun k hk => (l1 k hk).2, ?_⟩, h84, h85⟩, h5, fun r hr => by rw [f1 88 (by omega)]; exact h6 r hr, by rw [f4]; exact h7, by rw [f2 48 (by omega)]; exact h8⟩
  · obtain ⟨x1, x2, x3, x4, x5, x6⟩ := d2 i hi
    exact ⟨by rw [f1 _ (by omega)]; exact x1, by rw [f1 _ (by omega)]; exact x2, by rw [f1 _ (by omega)]; exact x3, by rw [f1 _ (by omega)]; exact x4, by rw [f1 _ (by omega)]; exact x5, by rw [f1 _ (by omega)]; exact x6⟩
  · rcases n3 with ⟨x, -⟩ | ⟨x, y, w⟩
    · exact absurd x (by decide)
    · exact Or.inr ⟨x, by rw [f2 50 (by omega)]; exact y, fun b hb => by rw [f1 135 (by omega), f1 136 (by omega), f1 137 (by omega), l2.1]; exact w b hb⟩
theorem YTX_fr4 {I' : lm_I} {L' : lm_L} {σ' : HS} (h : YTX kd pl nt ky bi p z mn l c f σ S I L R) (f1 : ∀ o, ((p ≤ o ∧ o ≤ p + 33) ∨ o = 88 ∨ (125 ≤ o ∧ o < 147) ∨ o = 161) → I' o = I o) (f4 : I' 0 4 = I 0 4) (f2 : ∀ k, ((48 ≤ k ∧ k ≤ 51) ∨ k = 68) → I' 96 k = I 96 k) (h84 : I' 96 84 = -9) (h85 : ∃ cn, cn < 80 ∧ I' 96 85 = nI cn) (l1 : ∀ k, k < 11 → L' (p + 21) k = bi k ∧ L' 140 k = bi k) (l2 : L' 134 = L 134 ∧ L' (p + 21) = L (p + 21)) (hh : CHs σ' I' ∧ MHs c σ' I' ∧ PHs z mn l c σ') (hc : MDc ky bi z mn l c f I') (hm : MDm ky bi z mn l c f I') : YTX kd pl nt ky bi p z mn l c f σ' S I' L' R := by
  obtain ⟨a, b, ⟨d1, d2, ⟨r1, r2⟩, d4⟩, -, -, -⟩ := h
  have hp := a.1.1.1.1
  refine ⟨XTX_fr a f1 f4 f2 h84 h85 l1 l2, b, ⟨by rw [f1 _ (by omega)]; exact d1, by rw [f2 51 (by omega)]; exact d2, ⟨by rw [f2 68 (by omega)]; exact r1, fun i hi => ?_⟩, fun k hk => by rw [f1 126 (by omega)]; exact d4 k hk⟩, hh, hc, hm⟩
  have := r2 i hi
  unfold mRow at this ⊢
  rw [f1 141 (by omega), f1 142 (by omega), f1 143 (by omega), f1 144 (by omega), f1 145 (by omega)]
  exact this
theorem YTX_fr {I' : lm_I} {σ' : HS} (h : YTX kd pl nt ky bi p z mn l c f σ S I L R) (f1 : ∀ o, (o < 70 ∨ o = 88 ∨ (99 ≤ o ∧ o < 147) ∨ 161 ≤ o) → I' o = I o) (f2 : ∀ k, ((48 ≤ k ∧ k ≤ 51) ∨ k = 68) → I' 96 k = I 96 k) (h84 : I' 96 84 = -9) (h85 : ∃ cn, cn < 80 ∧ I' 96 85 = nI cn) (hh : CHs σ' I' ∧ MHs c σ' I' ∧ PHs z mn l c σ') (hc : MDc ky bi z mn l c f I') (hm : MDm ky bi z mn l c f I') : YTX kd pl nt ky bi p z mn l c f σ' S I' L R := by
  have hp := h.1.1.1.1.1
  exact YTX_fr4 h (fun o ho => f1 o (by omega)) (by rw [f1 0 (by omega)]) f2 h84 h85 (fun k hk => ⟨h.1.2.1.2.1 k hk, h.1.2.2.2.1.2.2.1.2.1 k hk⟩) ⟨rfl, rfl⟩ hh hc hm
theorem BAS_fr {I' : lm_I} (h : BAS p p' bi tp n S I L R) (f1 : ∀ o, (o < 70 ∨ o = 88 ∨ o = 97 ∨ 161 ≤ o) → I' o = I o) (f2 : I' 96 1 = I 96 1) (h84 : I' 96 84 = -9) (h85 : ∃ cn, cn < 80 ∧ I' 96 85 = nI cn) (ho : ∃ o, OUT2 I' o) : BAS p p' bi tp n S I' L R := by
  obtain ⟨a, b, ⟨⟨k1, k2⟩, c2⟩, ⟨t1, t2, t3⟩, d, -, -⟩ := h
  refine ⟨a, b, ⟨⟨k1, fun j hj => by rw [f1 (lm_B + 10) (Or.inr (Or.inr (Or.inr (by show 161 ≤ 1000000 + 10; omega))))]; exact k2 j hj⟩, fun r hr => by rw [f1 88 (by omega)]; exact c2 r hr⟩, ⟨⟨t1.1, fun j hj => by rw [f1 1 (by omega)]; exact t1.2 j hj⟩, ⟨t2.1, by rw [f2]; exact t2.2.1, fun j hj => by rw [f1 97 (by omega)]; exact t2.2.2 j hj⟩, by rw [f1 0 (by omega)]; exact t3⟩, d, ho, h84, h85⟩
theorem OUTk_2 {I' : lm_I} (h : ∃ o, OUT2 I o) (k : OUTk I I') : ∃ o, OUT2 I' o := by
  rcases k with ⟨k1, k2, k3, k4⟩ | k
  · obtain ⟨o, a, ⟨b1, b2⟩, d, g⟩ := h
    exact ⟨o, a, ⟨by rw [k1]; exact b1, fun j hj => by rw [k2]; exact b2 j hj⟩, by rw [k3]; exact d, fun j hj => by rw [k4]; exact g j hj⟩
  · exact k
theorem CHs_fr {I' : lm_I} (h : CHs σ I) (f : ∀ o, 77 ≤ o → o < 80 → I' o = I o) : CHs σ I' := by
  obtain ⟨⟨a1, a2, a3, a4⟩, b1, b2⟩ := h
  exact ⟨⟨by rw [f 77 (by omega) (by omega)]; exact a1, by rw [f 77 (by omega) (by omega)]; exact a2, by rw [f 77 (by omega) (by omega)]; exact a3, by rw [f 77 (by omega) (by omega)]; exact a4⟩, fun r hr => by rw [f 78 (by omega) (by omega)]; exact b1 r hr, fun r hr q => by rw [f 79 (by omega) (by omega)]; exact b2 r hr q⟩
theorem MHs_fr {I' : lm_I} (h : MHs c σ I) (f : ∀ k, 88 ≤ k → k ≤ 92 → I' 96 k = I 96 k) (g : I' 154 = I 154) (g2 : I' 155 = I 155) : MHs c σ I' := by
  obtain ⟨⟨a1, a2, a3, a4, a5⟩, b1, b2⟩ := h
  exact ⟨⟨by rw [f 88 (by omega) (by omega)]; exact a1, by rw [f 89 (by omega) (by omega)]; exact a2, by rw [f 90 (by omega) (by omega)]; exact a3, by rw [f 91 (by omega) (by omega)]; exact a4, fun q => by rw [f 92 (by omega) (by omega)]; exact a5 q⟩, fun r hr => by rw [g]; exact b1 r hr, fun r hr q => by rw [g2]; exact b2 r hr q⟩
/-- the text stays, what solving changes -/
theorem INV_X {I' : lm_I} (hB : BAS p p' bi tp n S I L R) (hY : YTX kd pl nt ky bi p z mn l c f σ S I L R) (g : frX I I') : INV (S, I', L, R) := by
  have h84 : I' 96 84 = -9 := by rw [g.2 84 (by decide) (by decide) (by decide)]; exact hB.2.2.2.2.2.2.1
  have h85 : ∃ cn, cn < 80 ∧ I' 96 85 = nI cn := by rw [g.2 85 (by decide) (by decide) (by decide)]; exact hB.2.2.2.2.2.2.2
  refine ⟨p, p', bi, tp, n, BAS_fr hB (fun o ho => g.1 o (by omega)) (g.2 1 (by decide) (by decide) (by decide)) h84 h85 (OUTk_2 hB.2.2.2.2.2.1 (Or.inl ⟨congrFun (g.1 90 (by omega)) 1, g.1 91 (by omega), g.2 3 (by decide) (by decide) (by decide), g.1 98 (by omega)⟩)), Or.inr ⟨kd, pl, nt, ky, z, mn, l, c, f, σ, YTX_fr hY (fun o ho => g.1 o (by omega)) (fun k hk => g.2 k (by omega) (by omega) (by omega)) h84 h85 ⟨CHs_fr hY.2.2.2.1.1 (fun o a b => g.1 o (by omega)), MHs_fr hY.2.2.2.1.2.1 (fun k a b => g.2 k (by omega) (by omega) (by omega)) (g.1 154 (by omega)) (g.1 155 (by omega)), hY.2.2.2.1.2.2⟩ (MDc_fr hY.2.2.2.2.1 (g.1 80 (by omega)) (g.1 89 (by omega))) (MDm_fr hY.2.2.2.2.2 (g.2 99 (by decide) (by decide) (by decide)) (g.1 158 (by omega)) (g.1 159 (by omega)) (g.1 160 (by omega)))⟩⟩
/-- and what is written -/
theorem INV_Z {I' : lm_I} (hB : BAS p p' bi tp n S I L R) (hY : YTX kd pl nt ky bi p z mn l c f σ S I L R) (g : frZ I I') (k : OUTk I I') : INV (S, I', L, R) := by
  have h84 : I' 96 84 = -9 := by rw [g.2 84 (by decide) (by decide) (by decide) (by decide) (by decide) (by decide)]; exact hB.2.2.2.2.2.2.1
  have h85 : ∃ cn, cn < 80 ∧ I' 96 85 = nI cn := by rw [g.2 85 (by decide) (by decide) (by decide) (by decide) (by decide) (by decide)]; exact hB.2.2.2.2.2.2.2
  refine ⟨p, p', bi, tp, n, BAS_fr hB (fun o ho => g.1 o (by omega)) (g.2 1 (by decide) (by decide) (by decide) (by decide) (by decide) (by decide)) h84 h85 (OUTk_2 hB.2.2.2.2.2.1 k), Or.inr ⟨kd, pl, nt, ky, z, mn, l, c, f, σ, YTX_fr hY (fun o ho => g.1 o (by omega)) (fun k hk => g.2 k (by omega) (by omega) (by omega) (by omega) (by omega) (by omega)) h84 h85 ⟨CHs_fr hY.2.2.2.1.1 (fun o a b => g.1 o (by omega)), MHs_fr hY.2.2.2.1.2.1 (fun k a b => g.2 k (by omega) (by omega) (by omega) (by omega) (by omega) (by omega)) (g.1 154 (by omega)) (g.1 155 (by omega)), hY.2.2.2.1.2.2⟩ (MDc_fr hY.2.2.2.2.1 (g.1 80 (by omega)) (g.1 89 (by omega))) (MDm_fr hY.2.2.2.2.2 (g.2 99 (by decide) (by decide) (by decide) (by decide) (by decide) (by decide)) (g.1 158 (by omega)) (g.1 159 (by omega)) (g.1 160 (by omega)))⟩⟩
theorem INV_CZ {I' : lm_I} (hB : BAS p p' bi tp n S I L R) (hY : YTX kd pl nt ky bi p z mn l c f σ S I L R) (g : frCZ I I') (k : OUTk I I') (m1 : MDc ky bi z mn l c f I') (m2 : MDm ky bi z mn l c f I') : INV (S, I', L, R) := by
  refine ⟨p, p', bi, tp, n, BAS_fr hB (fun o ho => g.1 o (by omega)) (g.2.1 1 (by decide) (by decide) (by decide) (by decide) (by decide) (by decide) (by decide) (by decide) (by decide) (by decide)) g.2.2.1 g.2.2.2 (OUTk_2 hB.2.2.2.2.2.1 k), Or.inr ⟨kd, pl, nt, ky, z, mn, l, c, f, σ, YTX_fr hY (fun o ho => g.1 o (by omega)) (fun k hk => g.2.1 k (by omega) (by omega) (by omega) (by omega) (by omega) (by omega) (by omega) (by omega) (by omega) (by omega)) g.2.2.1 g.2.2.2 ⟨CHs_fr hY.2.2.2.1.1 (fun o a b => g.1 o (by omega)), MHs_fr hY.2.2.2.1.2.1 (fun k a b => g.2.1 k (by omega) (by omega) (by omega) (by omega) (by omega) (by omega) (by omega) (by omega) (by omega) (by omega)) (g.1 154 (by omega)) (g.1 155 (by omega)), hY.2.2.2.1.2.2⟩ m1 m2⟩⟩
end INVS
