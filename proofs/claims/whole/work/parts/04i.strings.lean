/-! ===== the simulation: String.length and String.charAt of the constants ===== -/
section LMSTR
variable {p : Program} {l : Launch} {e : Env} {R : Room} {s : State} {m : MethodId} {args : Array Value} {below : List Frame} {meth : Method} {c : Code} {Q : State → Prop} {D : va_G} {cA : Nat → ClassId} {A : Nat → Prop} {ρ0 : Nat → Nat} {M0 : lm_M} {nL cn : Nat} {ini : Bool} {cc : ByteArray}
variable {J : Nat → lm_C} {i raw : Instr} {cd c' : lm_C} {pc pc' n : Nat} {ls ls' st st' : List Value} {M M' : lm_M}
theorem lm_sim_str (hC : lm_ctx p s m args meth c D cA A ρ0 cn ini cc nL) (hR : 8 ≤ R.frames ∧ 480 ≤ R.locals) (hcs : M.1.1 - M0.1.1 ≤ R.cells ∧ M.1.2.1 - M0.1.2.1 ≤ R.slots) (hi : i = .swap ∨ i = .athrow)
    (hdec : decode cc pc = .ok (raw, n)) (hn : lm_n i = 0 ∨ lm_n i = n) (hck : lm_ck cn ini pc raw i = true) (hs : lm_step J i cd ls st M = some (.inl (c', ls', st', M')))
    (kN : cd = c' → lm_G p l e R s m args below meth c Q D cA A ρ0 M0 nL (pc + n) (ls') (st') (M')) : lm_G p l e R s m args below meth c Q D cA A ρ0 M0 nL (pc) (ls) (st) (M) := sorry
end LMSTR
