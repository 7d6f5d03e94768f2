/-! ===== the tape cut into tokens: as a pure text ===== -/
def bbl (b : Nat) : Bool := decide (b = 32 ∨ b = 10)
def blt (b : Nat) : Bool := decide (97 ≤ b ∧ b ≤ 122)
def bdg (b : Nat) : Bool := decide (48 ≤ b ∧ b ≤ 57)
def bwd (b : Nat) : Bool := blt b || bdg b
def bqt (b : Nat) : Bool := decide (32 ≤ b ∧ b ≤ 126 ∧ b ≠ 34)
def rn (f : Nat → Bool) (tp : Nat → Nat) : Nat → Nat → Nat
  | 0, a => a
  | m + 1, a => if f (tp a) = true then rn f tp m (a + 1) else a
/-- the first place from a on at which f doesn't hold, or the end -/
def rx (f : Nat → Bool) (tp : Nat → Nat) (n a : Nat) : Nat := rn f tp (n - a) a
section RX
variable {f : Nat → Bool} {tp : Nat → Nat} {n a : Nat}
theorem rx_t (h : a < n) (hf : f (tp a) = true) : rx f tp n a = rx f tp n (a + 1) := by
  unfold rx
  rw [show n - a = (n - (a + 1)) + 1 by omega]
  exact if_pos hf
theorem rx_e (h : n ≤ a) : rx f tp n a = a := by
  unfold rx
  rw [show n - a = 0 by omega]
  rfl
theorem rx_f (hf : f (tp a) = false) : rx f tp n a = a := by
  by_cases h : n ≤ a
  · exact rx_e h
  · unfold rx
    rw [show n - a = (n - (a + 1)) + 1 by omega]
    exact if_neg (by rw [hf]; decide)
theorem rx_b : ∀ (m a : Nat), n - a = m → a ≤ n → a ≤ rx f tp n a ∧ rx f tp n a ≤ n ∧ (rx f tp n a < n → f (tp (rx f tp n a)) = false) := by
  intro m
  induction m with
  | zero => intro a h1 h2; rw [rx_e (by omega)]; exact ⟨Nat.le_refl _, h2, fun q => by omega⟩
  | succ m ih =>
    intro a h1 h2
    cases hf : f (tp a) with
    | true =>
      rw [rx_t (by omega) hf]
      have h := ih (a + 1) (by omega) (by omega)
      exact ⟨by omega, h.2.1, h.2.2⟩
    | false => rw [rx_f hf]; exact ⟨Nat.le_refl _, h2, fun _ => hf⟩
theorem rx_ge (h : a ≤ n) : a ≤ rx f tp n a := (rx_b _ a rfl h).1
theorem rx_le (h : a ≤ n) : rx f tp n a ≤ n := (rx_b _ a rfl h).2.1
theorem rx_st (h : a ≤ n) (h2 : rx f tp n a < n) : f (tp (rx f tp n a)) = false := (rx_b _ a rfl h).2.2 h2
theorem rx_idem (h : a ≤ n) : rx f tp n (rx f tp n a) = rx f tp n a := by
  by_cases h2 : rx f tp n a < n
  · exact rx_f (rx_st h h2)
  · exact rx_e (by omega)
end RX
/-- a word's number -/
def wky (tp : Nat → Nat) (a : Nat) : Nat → Int64
  | 0 => 0
  | k + 1 => (wky tp a k <<< ((nI 8).toInt64 &&& 63)) ||| (nI (tp (a + k))).toInt64
theorem wky_s {tp : Nat → Nat} {a j : Nat} (h : a ≤ j) : wky tp a (j + 1 - a) = (wky tp a (j - a) <<< ((nI 8).toInt64 &&& 63)) ||| (nI (tp j)).toInt64 := by
  rw [show j + 1 - a = (j - a) + 1 by omega]
  show _ ||| (nI (tp (a + (j - a)))).toInt64 = _
  rw [show a + (j - a) = j by omega]
def wkd (k : Int64) : Nat := if k = Int64.ofNat 26982 then 5 else if k = Int64.ofNat 1952998766 then 20 else if k = Int64.ofNat 1701606245 then 21 else 0
def dbk (b : Nat) : Nat := if b = 61 then 9 else if b = 43 then 13 else if b = 38 then 8 else 23
def sgk (b : Nat) : Nat := if b = 59 then 14 else if b = 61 then 15 else if b = 60 then 10 else if b = 43 then 12 else if b = 58 then 11 else if b = 92 then 4 else if b = 46 then 16 else if b = 40 then 6 else if b = 41 then 17 else if b = 91 then 7 else if b = 93 then 18 else if b = 44 then 19 else 23
/-- the token at a: kind, key, where it ends -/
def tk1 (tp : Nat → Nat) (n a : Nat) : Nat × Int64 × Nat :=
  if blt (tp a) = true then (if 8 < rx bwd tp n a - a then (23, 0, n) else (wkd (wky tp a (rx bwd tp n a - a)), wky tp a (rx bwd tp n a - a), rx bwd tp n a))
  else if bdg (tp a) = true then (if 6 < rx bdg tp n a - a then (23, 0, n) else (1, 0, rx bdg tp n a))
  else if tp a = 34 then (if (rx bqt tp n (a + 1) < n ∧ tp (rx bqt tp n (a + 1)) = 34) ∧ rx bqt tp n (a + 1) - a - 1 ≤ 8 then (2, 0, rx bqt tp n (a + 1) + 1) else (23, 0, n))
  else if (a + 1 < n ∧ tp (a + 1) = tp a) ∧ dbk (tp a) ≠ 23 then (dbk (tp a), 0, a + 2)
  else if sgk (tp a) = 23 then (23, 0, n) else (sgk (tp a), 0, a + 1)
/-- the token behind q: kind, place, key, where it ends -/
def tkA (tp : Nat → Nat) (n q : Nat) : Nat × Nat × Int64 × Nat :=
  if rx bbl tp n q < n then ((tk1 tp n (rx bbl tp n q)).1, rx bbl tp n q, (tk1 tp n (rx bbl tp n q)).2.1, (tk1 tp n (rx bbl tp n q)).2.2) else (22, n, 0, n)
def tq (tp : Nat → Nat) (n : Nat) : Nat → Nat
  | 0 => 0
  | i + 1 => (tkA tp n (tq tp n i)).2.2.2
abbrev xk (tp : Nat → Nat) (n i : Nat) : Nat := (tkA tp n (tq tp n i)).1
abbrev xp (tp : Nat → Nat) (n i : Nat) : Nat := (tkA tp n (tq tp n i)).2.1
abbrev xy (tp : Nat → Nat) (n i : Nat) : Int64 := (tkA tp n (tq tp n i)).2.2.1
section TK
variable {tp : Nat → Nat} {n a i : Nat}
theorem wkd_le (k : Int64) : wkd k = 0 ∨ wkd k = 5 ∨ wkd k = 20 ∨ wkd k = 21 := by
  unfold wkd
  split
  · exact Or.inr (Or.inl rfl)
  · split
    · exact Or.inr (Or.inr (Or.inl rfl))
    · split
      · exact Or.inr (Or.inr (Or.inr rfl))
      · exact Or.inl rfl
theorem dbk_le (b : Nat) : dbk b = 9 ∨ dbk b = 13 ∨ dbk b = 8 ∨ dbk b = 23 := by
  unfold dbk
  repeat' split
  all_goals omega
theorem sgk_le (b : Nat) : sgk b ≤ 23 ∧ sgk b ≠ 22 := by
  unfold sgk
  repeat' split
  all_goals omega
theorem tk1_b (h : a < n) : (tk1 tp n a).1 ≤ 23 ∧ (tk1 tp n a).1 ≠ 22 ∧ a < (tk1 tp n a).2.2 ∧ (tk1 tp n a).2.2 ≤ n := by
  unfold tk1
  by_cases h1 : blt (tp a) = true
  · rw [if_pos h1]
    have hw : bwd (tp a) = true := by unfold bwd; rw [h1]; rfl
    have e1 := rx_t (n := n) h hw
    have g1 := rx_ge (f := bwd) (tp := tp) (n := n) (a := a + 1) (by omega)
    have g2 := rx_le (f := bwd) (tp := tp) (n := n) (a := a) (by omega)
    have g3 := wkd_le (wky tp a (rx bwd tp n a - a))
    split
    · exact ⟨by show 23 ≤ 23; decide, by show (23 : Nat) ≠ 22; decide, h, Nat.le_refl _⟩
    · exact ⟨by show wkd _ ≤ 23; omega, by show wkd _ ≠ 22; omega, by show a < rx bwd tp n a; omega, g2⟩
  · rw [if_neg h1]
    by_cases h2 : bdg (tp a) = true
    · rw [if_pos h2]
      have e1 := rx_t (n := n) h h2
      have g1 := rx_ge (f := bdg) (tp := tp) (n := n) (a := a + 1) (by omega)
      have g2 := rx_le (f := bdg) (tp := tp) (n := n) (a := a) (by omega)
      split
      · exact ⟨by show 23 ≤ 23; decide, by show (23 : Nat) ≠ 22; decide, h, Nat.le_refl _⟩
      · exact ⟨by show 1 ≤ 23; decide, by show (1 : Nat) ≠ 22; decide, by show a < rx bdg tp n a; omega, g2⟩
    · rw [if_neg h2]
      by_cases h3 : tp a = 34
      · rw [if_pos h3]
        have g1 := rx_ge (f := bqt) (tp := tp) (n := n) (a := a + 1) (by omega)
        split
        · rename_i q
          exact ⟨by show 2 ≤ 23; decide, by show (2 : Nat) ≠ 22; decide, by show a < rx bqt tp n (a + 1) + 1; omega, by show rx bqt tp n (a + 1) + 1 ≤ n; omega⟩
        · exact ⟨by show 23 ≤ 23; decide, by show (23 : Nat) ≠ 22; decide, h, Nat.le_refl _⟩
      · rw [if_neg h3]
        split
        · rename_i q
          have := dbk_le (tp a)
          exact ⟨by show dbk _ ≤ 23; omega, by show dbk _ ≠ 22; omega, by show a < a + 2; omega, by show a + 2 ≤ n; omega⟩
        · have := sgk_le (tp a)
          split
          · exact ⟨by show 23 ≤ 23; decide, by show (23 : Nat) ≠ 22; decide, h, Nat.le_refl _⟩
          · exact ⟨this.1, this.2, by show a < a + 1; omega, by show a + 1 ≤ n; omega⟩
theorem tq_le : ∀ i, tq tp n i ≤ n := by
  intro i
  induction i with
  | zero => exact Nat.zero_le _
  | succ i ih =>
    show (tkA tp n (tq tp n i)).2.2.2 ≤ n
    unfold tkA
    split
    · rename_i h; exact (tk1_b h).2.2.2
    · exact Nat.le_refl _
theorem tk_b (i : Nat) : xk tp n i ≤ 23 ∧ tq tp n i ≤ xp tp n i ∧ xp tp n i ≤ n ∧ (xk tp n i = 22 ↔ xp tp n i = n) ∧ (xk tp n i ≠ 22 → xp tp n i < tq tp n (i + 1)) := by
  have h1 := tq_le (tp := tp) (n := n) i
  have h2 := rx_ge (f := bbl) (tp := tp) h1
  have h3 := rx_le (f := bbl) (tp := tp) h1
  show (tkA tp n (tq tp n i)).1 ≤ 23 ∧ tq tp n i ≤ (tkA tp n (tq tp n i)).2.1 ∧ (tkA tp n (tq tp n i)).2.1 ≤ n ∧ ((tkA tp n (tq tp n i)).1 = 22 ↔ (tkA tp n (tq tp n i)).2.1 = n) ∧ ((tkA tp n (tq tp n i)).1 ≠ 22 → (tkA tp n (tq tp n i)).2.1 < (tkA tp n (tq tp n i)).2.2.2)
  unfold tkA
  split
  · rename_i h
    have h4 := tk1_b (tp := tp) h
    exact ⟨h4.1, h2, h3, ⟨fun q => absurd q h4.2.1, fun q => by exact absurd (show rx bbl tp n (tq tp n i) = n from q) (by omega)⟩, fun _ => h4.2.2.1⟩
  · exact ⟨by show 22 ≤ 23; decide, h1, Nat.le_refl _, ⟨fun _ => rfl, fun _ => rfl⟩, fun q => absurd rfl q⟩
theorem xp_lt (h : xk tp n i ≠ 22) : xp tp n i < xp tp n (i + 1) := by
  have h1 := (tk_b (tp := tp) (n := n) i).2.2.2.2 h
  have h2 := (tk_b (tp := tp) (n := n) (i + 1)).2.1
  omega
end TK
