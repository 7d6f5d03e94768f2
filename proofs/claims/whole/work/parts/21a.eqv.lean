/-! ===== the same asked of types ===== -/
def cCS (z : Zt) (mn : Nat → Nat) (l : Nat → Rr) (c : Nat) (ch : Nat → Int32) (w : Nat → Ty) : Prop := csat (fun r => (cF z mn (l r)).1) (fun r => (cF z mn (l r)).2.1) (fun r => (cF z mn (l r)).2.2.1) (fun r => (cF z mn (l r)).2.2.2) ch c w
def mMS (t : Nat → Nat → Nat) (A : Nat → Bool) (cs cn cm : Nat) (us : Nat → Int32) (w : Nat → Ty) : Prop := msM (tN t) (t 1) (t 2) (t 3) (t 4) (t 11) (t 12) (t 13) (t 17) (t 18) (t 19) A cs cn cm us (tK t) w
section EQV
variable {kd pl : Nat → Nat} {nt c p : Nat} {z : Zt} {ky bi : Nat → Int64} {mn : Nat → Nat} {l : Nat → Rr} {I : lm_I} {L : lm_L} {ch us : Nat → Int32} {A : Nat → Bool}
theorem chok_8 {t : Nat → Nat → Nat} : chok t 8 0 0 := ⟨by decide, fun h => absurd h (by decide), fun h => absurd h (by decide), fun h => absurd h (by decide), fun h => absurd h (by omega)⟩
theorem eqT (hT : TX kd pl nt z) (ht : tok (tz z mn l c)) (hu : ∀ r, r < c → (ch r ≠ 0 ↔ us r ≠ 0)) : eqv (z 30 0) (z 30 2) (sg (z 30 0) (z 30 2) 8 0) (tu (z 30 0) (z 30 2) 0) (cCS z mn l c ch) (mMS (tz z mn l c) A 8 0 0 us) := by
  have n80 : z 30 0 ≤ 80 := ht.1
  have rm : ∀ r, r < c → ∀ w, rr4 (cF z mn (l r)) w ↔ rr4 (rowT (tz z mn l c) 8 0 0 r) (fun v => w (sg (z 30 0) (z 30 2) 8 0 v)) := fun r hr w => ((cF_row hT ht hr).1 w).trans (row_map (cs' := 8) (cn' := 0) ht chok_8 hr)
  have vr : ∀ j, vrow 8 0 j = (1, 80 + j, j, 0) := fun j => by unfold vrow; rw [if_neg (by omega)]
  refine ⟨fun w hw => ⟨fun j hj => ?_, fun r hr h1 h2 => ?_⟩, fun w hw => ?_⟩
  · replace hj : j < z 30 0 := hj
    rw [vr j]
    show w (sg (z 30 0) (z 30 2) 8 0 (80 + j)) = w (sg (z 30 0) (z 30 2) 8 0 j)
    rw [sg8_1 (by omega), sg8_0 (by omega)]
  · exact (rm r hr w).mp (hw r hr ((hu r hr).mpr h1) (cF_row hT ht hr).2.2)
  · have ag := vrow_tu (N := z 30 0) (B := z 30 2) (cs := 8) (cn := 0) (w := w) n80 (fun h => absurd h (by omega)) hw.1
    refine ⟨fun r hr h1 h2 => ?_, ag⟩
    have q : rr4 (rowT (tz z mn l c) 8 0 0 r) w := hw.2 r hr ((hu r hr).mp h1) (fun h => absurd h.1 (by decide))
    exact (rm r hr _).mpr ((rr4_agr (row_v ht chok_8 hr) ag).mpr q)
end EQV
