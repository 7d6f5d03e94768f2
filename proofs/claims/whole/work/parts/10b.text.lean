/-! ===== a text: what both programs know of it =====
t 0 kinds, 1 2 3 parts, 4 meanings, 5 parents, 6 depths, 7 places; 11 12 13 bodies, heads and inners of declarations; 14 15 kinds and declarations of binders; 17 18 19 sorts, nodes and others of rules; 20: how many nodes, declarations, binders, rules -/
abbrev tN (t : Nat → Nat → Nat) : Nat := t 20 0
abbrev tD (t : Nat → Nat → Nat) : Nat := t 20 1
abbrev tB (t : Nat → Nat → Nat) : Nat := t 20 2
abbrev tK (t : Nat → Nat → Nat) : Nat := t 20 3
def tok (t : Nat → Nat → Nat) : Prop := tN t ≤ 80 ∧ tB t ≤ 22 ∧ tD t ≤ 6 ∧ tD t ≤ tN t ∧ tK t ≤ 160 ∧ (∀ n, n < tN t → t 0 n ≤ 13 ∧ (3 ≤ t 0 n ∧ t 0 n ≠ 7 → t 1 n < tN t) ∧ (3 ≤ t 0 n ∧ t 0 n ≠ 7 ∧ t 0 n ≠ 4 → t 2 n < tN t) ∧ (t 0 n = 5 → t 3 n < tN t) ∧ (t 0 n = 0 → t 4 n < 11 + tB t) ∧ (t 0 n = 4 → t 4 n < tB t)) ∧ (∀ d, d < tD t → t 11 d < tN t ∧ t 12 d + t 13 d < tB t) ∧ (∀ r, r < tK t → ((t 17 r = 1 ∧ t 18 r < tD t) ∨ (t 17 r ≠ 1 ∧ t 18 r < tN t ∧ sok (t 17 r) (t 0 (t 18 r)))) ∧ (t 17 r = 11 → t 19 r < tN t))
/-- a change that can be tried -/
def chok (t : Nat → Nat → Nat) (cs cn cm : Nat) : Prop := cn < 80 ∧ (cs = 0 → cm < 11 + tB t) ∧ (cs = 2 → cn < tN t ∧ t 0 cn = 3 ∧ t 0 (t 1 cn) = 3) ∧ (cs = 4 → cn < tN t ∧ t 0 cn = 3) ∧ (5 ≤ cs ∧ cs ≤ 7 → cn < tN t)
def rowT (t : Nat → Nat → Nat) (cs cn cm r : Nat) : Nat × Nat × Nat × Nat := hrow (t 1) (t 2) (t 3) (t 4) (t 11) (t 12) (t 13) cs cn cm (sr cs cn (t 17 r) (t 18 r)) (t 18 r) (t 19 r)
theorem rv1 {F X Y Z : Nat} {Pv : Nat → Prop} (hF : F = 1 ∨ F = 2) (hX : Pv X) (hY : Pv Y) : rowv (F, X, Y, Z) Pv := ⟨by show 1 ≤ F; omega, by show F ≤ 7; omega, hX, fun _ => hY, fun z _ => absurd (show 3 ≤ F from z) (by omega), fun z => absurd (show F = 5 from z) (by omega), fun z => absurd (show F = 6 from z) (by omega), fun z => absurd (show F = 7 from z) (by omega)⟩
theorem rv3 {F X Y Z : Nat} {Pv : Nat → Prop} (hF : F = 3 ∨ F = 4) (hX : Pv X) (hY : Pv Y) (hZ : Pv Z) : rowv (F, X, Y, Z) Pv := ⟨by show 1 ≤ F; omega, by show F ≤ 7; omega, hX, fun _ => hY, fun _ _ => hZ, fun z => absurd (show F = 5 from z) (by omega), fun z => absurd (show F = 6 from z) (by omega), fun z => absurd (show F = 7 from z) (by omega)⟩
theorem rv5 {X Y Z : Nat} {Pv : Nat → Prop} (hX : ∀ i, i ≤ Y → Pv (X + i)) (hZ : Pv Z) : rowv (5, X, Y, Z) Pv := ⟨by show 1 ≤ 5; omega, by show 5 ≤ 7; omega, hX 0 (Nat.zero_le _), fun z => absurd (show 5 ≤ 4 from z) (by omega), fun _ _ => hZ, fun _ => hX, fun z => absurd (show 5 = 6 from z) (by omega), fun z => absurd (show 5 = 7 from z) (by omega)⟩
theorem rv6 {X Y Z : Nat} {Pv : Nat → Prop} (hX : Pv X) (hY : 1 ≤ Y ∧ Y ≤ 3) : rowv (6, X, Y, Z) Pv := ⟨by show 1 ≤ 6; omega, by show 6 ≤ 7; omega, hX, fun z => absurd (show 6 ≤ 4 from z) (by omega), fun _ z => absurd (show 6 ≤ 5 from z) (by omega), fun z => absurd (show 6 = 5 from z) (by omega), fun _ => hY, fun z => absurd (show 6 = 7 from z) (by omega)⟩
theorem rv7 {X Y Z : Nat} {Pv : Nat → Prop} (hX : Pv X) (hY : Y ≤ 10) : rowv (7, X, Y, Z) Pv := ⟨by show 1 ≤ 7; omega, by show 7 ≤ 7; omega, hX, fun z => absurd (show 7 ≤ 4 from z) (by omega), fun _ z => absurd (show 7 ≤ 5 from z) (by omega), fun z => absurd (show 7 = 5 from z) (by omega), fun z => absurd (show 7 = 6 from z) (by omega), fun _ => hY⟩
/-- what a sort asks of the kind -/
def need (s k : Nat) : Prop := s ≤ 23 ∧ s ≠ 1 ∧ ((s = 0 ∨ s = 5 ∨ s = 6 ∨ s = 12 ∨ s = 9 ∨ s = 15 ∨ s = 16 ∨ s = 19 ∨ 21 ≤ s) → 3 ≤ k ∧ k ≠ 7) ∧ ((s = 0 ∨ s = 7 ∨ s = 20 ∨ s = 9 ∨ s = 13 ∨ s = 15 ∨ s = 17 ∨ s = 19 ∨ s = 22) → 3 ≤ k ∧ k ≠ 7 ∧ k ≠ 4) ∧ (s = 2 → k = 0) ∧ (s = 5 → k = 4) ∧ (s = 8 → k = 5)
theorem need_sok {s s' k : Nat} (h : sok s k) (hsl : s' = s ∨ (s = 3 ∧ s' = 4) ∨ (s = 4 ∧ s' = 3) ∨ (s = 16 ∧ s' = 21) ∨ (s = 17 ∧ s' = 22) ∨ (s = 18 ∧ s' = 23) ∨ (s = 21 ∧ s' = 16) ∨ (s = 22 ∧ s' = 17) ∨ (s = 23 ∧ s' = 18)) : need s' k := by
  unfold sok at h
  unfold need
  rcases h with ⟨rfl, rfl⟩ | ⟨rfl, rfl⟩ | ⟨rfl, rfl⟩ | ⟨rfl, rfl⟩ | ⟨rfl, rfl⟩ | ⟨rfl | rfl | rfl, rfl⟩ | ⟨rfl, rfl⟩ | ⟨rfl | rfl, rfl⟩ | ⟨rfl | rfl | rfl, rfl⟩ | ⟨rfl | rfl, rfl⟩ | ⟨rfl | rfl | rfl, rfl⟩ | ⟨rfl | rfl, rfl⟩ | ⟨rfl | rfl | rfl, rfl⟩ | ⟨rfl | rfl | rfl, rfl⟩
  all_goals
    rcases hsl with rfl | ⟨a, rfl⟩ | ⟨a, rfl⟩ | ⟨a, rfl⟩ | ⟨a, rfl⟩ | ⟨a, rfl⟩ | ⟨a, rfl⟩ | ⟨a, rfl⟩ | ⟨a, rfl⟩
    all_goals first
      | decide
      | exact absurd a (by decide)
section TEXT
variable {t : Nat → Nat → Nat} {cs cn cm r : Nat}
/-- each rule speaks of variables of the text -/
theorem row_v (ht : tok t) (hc : chok t cs cn cm) (hr : r < tK t) : rowv (rowT t cs cn cm r) (vok (tN t) (tB t)) := by
  obtain ⟨hN, hB, hD, hDN, hK, hno, hde, hru⟩ := ht
  obtain ⟨hcn, hc0, hc2, hc4, hc5⟩ := hc
  obtain ⟨hs, hot⟩ := hru r hr
  have hsl := srl (cs := cs) (cn := cn) (s := t 17 r) (nd := t 18 r)
  unfold rowT
  generalize t 19 r = ot at *
  generalize t 18 r = nd at *
  generalize t 17 r = s at *
  generalize hs' : sr cs cn s nd = s' at *
  have hv1 : ∀ x, x < tN t → vok (tN t) (tB t) x := fun x hx => Or.inl hx
  have hv2 : ∀ x, x < tN t → vok (tN t) (tB t) (80 + x) := fun x hx => Or.inr (Or.inl ⟨by omega, by omega⟩)
  have hv3 : ∀ x, x < tN t → vok (tN t) (tB t) (160 + x) := fun x hx => Or.inr (Or.inr (Or.inl ⟨by omega, by omega⟩))
  have hv4 : ∀ x, x < tB t → vok (tN t) (tB t) (240 + x) := fun x hx => Or.inr (Or.inr (Or.inr ⟨by omega, by omega⟩))
  by_cases h1 : s = 1
  · have e1 : s' = 1 := by omega
    subst e1
    have hd : nd < tD t := by
      rcases hs with h | h
      · exact h.2
      · exact absurd h1 h.1
    obtain ⟨q1, q2⟩ := hde nd hd
    exact rv5 (fun i hi => by rw [Nat.add_assoc]; exact hv4 _ (by omega)) (hv2 _ q1)
  · obtain ⟨hnd, hsok⟩ : nd < tN t ∧ sok s (t 0 nd) := by
      rcases hs with h | h
      · exact absurd h.1 h1
      · exact h.2
    obtain ⟨k13, b1, b2, b3, b4, b5⟩ := hno nd hnd
    obtain ⟨k23, kn1, n1, n2, n3, n4, n5⟩ := need_sok hsok hsl
    have g1 := fun q => b1 (n1 q)
    have g2 := fun q => b2 (n2 q)
    have hot' : s' = 11 → ot < tN t := fun q => hot (by omega)
    clear hsok hsl hs hs' n1 n2
    rcases (show s' = 0 ∨ s' = 2 ∨ s' = 3 ∨ s' = 4 ∨ s' = 5 ∨ s' = 6 ∨ s' = 7 ∨ s' = 8 ∨ s' = 9 ∨ s' = 10 ∨ s' = 11 ∨ s' = 12 ∨ s' = 13 ∨ s' = 14 ∨ s' = 15 ∨ s' = 16 ∨ s' = 17 ∨ s' = 18 ∨ s' = 19 ∨ s' = 20 ∨ s' = 21 ∨ s' = 22 ∨ s' = 23 by omega) with h | h | h | h | h | h | h | h | h | h | h | h | h | h | h | h | h | h | h | h | h | h | h <;> subst h
    · show rowv (if cs = 4 ∧ cn = nd then _ else _) _
      have a1 := g1 (by decide)
      have a2 := g2 (by decide)
      split
      · exact rv1 (Or.inl rfl) (hv1 _ hnd) (hv2 _ a1)
      · refine rv3 (Or.inr rfl) (hv2 _ a1) (hv2 _ ?_) (hv1 _ hnd)
        unfold ag
        split
        · rename_i z
          obtain ⟨y1, y2, y3⟩ := hc2 z.1
          rw [z.2]
          have z1 := (hno cn y1).2.1 (by omega)
          exact (hno (t 1 cn) z1).2.2.1 (by omega)
        · split
          · rename_i z
            obtain ⟨y1, y2, y3⟩ := hc2 z.1
            exact (hno cn y1).2.2.1 (by omega)
          · exact a2
    · show rowv (if hme (t 4) cs cn cm nd < 11 then _ else _) _
      have hm : hme (t 4) cs cn cm nd < 11 + tB t := by
        unfold hme
        split
        · rename_i z
          exact hc0 z.1
        · exact b4 (n3 rfl)
      split
      · exact rv7 (hv1 _ hnd) (by omega)
      · rename_i z
        refine rv1 (Or.inl rfl) (hv1 _ hnd) ?_
        rw [Nat.add_sub_assoc (by omega)]
        exact hv4 _ (by omega)
    · exact rv6 (hv1 _ hnd) (by decide)
    · exact rv6 (hv1 _ hnd) (by decide)
    · exact rv3 (Or.inr rfl) (hv1 _ hnd) (hv4 _ (b5 (n4 rfl))) (hv2 _ (g1 (by decide)))
    · exact rv6 (hv2 _ (g1 (by decide))) (by decide)
    · exact rv1 (Or.inl rfl) (hv1 _ hnd) (hv2 _ (g2 (by decide)))
    · exact rv1 (Or.inl rfl) (hv1 _ hnd) (hv2 _ (b3 (n5 rfl)))
    · exact rv3 (Or.inl rfl) (hv1 _ hnd) (hv2 _ (g1 (by decide))) (hv2 _ (g2 (by decide)))
    · exact rv1 (Or.inr rfl) (hv1 _ hnd) (hv3 _ hnd)
    · exact rv1 (Or.inl rfl) (hv2 _ (hot' rfl)) (hv3 _ hnd)
    · exact rv6 (hv2 _ (g1 (by decide))) (by decide)
    · exact rv6 (hv2 _ (g2 (by decide))) (by decide)
    · exact rv6 (hv1 _ hnd) (by decide)
    · exact rv1 (Or.inl rfl) (hv2 _ (g1 (by decide))) (hv2 _ (g2 (by decide)))
    · exact rv6 (hv2 _ (g1 (by decide))) (by decide)
    · exact rv6 (hv2 _ (g2 (by decide))) (by decide)
    · exact rv6 (hv1 _ hnd) (by decide)
    · exact rv1 (Or.inr rfl) (hv2 _ (g2 (by decide))) (hv2 _ (g1 (by decide)))
    · exact rv1 (Or.inl rfl) (hv1 _ hnd) (hv2 _ (g2 (by decide)))
    · exact rv1 (Or.inr rfl) (hv2 _ (g1 (by decide))) (hv3 _ hnd)
    · exact rv1 (Or.inl rfl) (hv2 _ (g1 (by decide))) (hv2 _ (g2 (by decide)))
    · exact rv1 (Or.inl rfl) (hv1 _ hnd) (hv2 _ (g1 (by decide)))
theorem row_5 (ht : tok t) (hr : r < tK t) (h5 : (rowT t cs cn cm r).1 = 5) : ∃ d, d < tD t ∧ rowT t cs cn cm r = (5, 240 + t 12 d, t 13 d, 80 + t 11 d) := by
  obtain ⟨hN, hB, hD, hDN, hK, hno, hde, hru⟩ := ht
  obtain ⟨hs, hot⟩ := hru r hr
  have hsl := srl (cs := cs) (cn := cn) (s := t 17 r) (nd := t 18 r)
  unfold rowT at h5 ⊢
  generalize t 19 r = ot at *
  generalize t 18 r = nd at *
  generalize t 17 r = s at *
  generalize hs' : sr cs cn s nd = s' at *
  by_cases h1 : s = 1
  · have e1 : s' = 1 := by omega
    subst e1
    have hd : nd < tD t := by
      rcases hs with h | h
      · exact h.2
      · exact absurd h1 h.1
    exact ⟨nd, hd, rfl⟩
  · exfalso
    obtain ⟨hnd, hsok⟩ : nd < tN t ∧ sok s (t 0 nd) := by
      rcases hs with h | h
      · exact absurd h.1 h1
      · exact h.2
    obtain ⟨k23, kn1, -⟩ := need_sok hsok hsl
    clear hsok hsl hs hs'
    rcases (show s' = 0 ∨ s' = 2 ∨ s' = 3 ∨ s' = 4 ∨ s' = 5 ∨ s' = 6 ∨ s' = 7 ∨ s' = 8 ∨ s' = 9 ∨ s' = 10 ∨ s' = 11 ∨ s' = 12 ∨ s' = 13 ∨ s' = 14 ∨ s' = 15 ∨ s' = 16 ∨ s' = 17 ∨ s' = 18 ∨ s' = 19 ∨ s' = 20 ∨ s' = 21 ∨ s' = 22 ∨ s' = 23 by omega) with h | h | h | h | h | h | h | h | h | h | h | h | h | h | h | h | h | h | h | h | h | h | h <;> subst h
    · by_cases z : cs = 4 ∧ cn = nd
      · rw [show hrow (t 1) (t 2) (t 3) (t 4) (t 11) (t 12) (t 13) cs cn cm 0 nd ot = (1, nd, 80 + t 1 nd, 0) from if_pos z] at h5
        exact absurd (show (1 : Nat) = 5 from h5) (by decide)
      · rw [show hrow (t 1) (t 2) (t 3) (t 4) (t 11) (t 12) (t 13) cs cn cm 0 nd ot = (4, 80 + t 1 nd, 80 + ag (t 1) (t 2) cs cn nd, nd) from if_neg z] at h5
        exact absurd (show (4 : Nat) = 5 from h5) (by decide)
    · by_cases z : hme (t 4) cs cn cm nd < 11
      · rw [show hrow (t 1) (t 2) (t 3) (t 4) (t 11) (t 12) (t 13) cs cn cm 2 nd ot = (7, nd, hme (t 4) cs cn cm nd, 0) from if_pos z] at h5
        exact absurd (show (7 : Nat) = 5 from h5) (by decide)
      · rw [show hrow (t 1) (t 2) (t 3) (t 4) (t 11) (t 12) (t 13) cs cn cm 2 nd ot = (1, nd, 240 + hme (t 4) cs cn cm nd - 11, 0) from if_neg z] at h5
        exact absurd (show (1 : Nat) = 5 from h5) (by decide)
    all_goals first
      | exact absurd (show (6 : Nat) = 5 from h5) (by decide)
      | exact absurd (show (1 : Nat) = 5 from h5) (by decide)
      | exact absurd (show (2 : Nat) = 5 from h5) (by decide)
      | exact absurd (show (3 : Nat) = 5 from h5) (by decide)
      | exact absurd (show (4 : Nat) = 5 from h5) (by decide)
theorem sg_5 {N B d i : Nat} : sg N B cs cn (240 + d + i) = sg N B cs cn (240 + d) + i := by
  unfold sg
  rw [if_neg (by omega), if_neg (by omega), if_neg (by omega), if_neg (by omega), if_neg (by omega), if_neg (by omega)]
  omega
/-- a rule's row in the class's variables -/
theorem row_map {w : Nat → Ty} (ht : tok t) (hc : chok t cs cn cm) (hr : r < tK t) {cs' cn' : Nat} : rr4 (mrow (sg (tN t) (tB t) cs' cn') (rowT t cs cn cm r)) w ↔ rr4 (rowT t cs cn cm r) (fun v => w (sg (tN t) (tB t) cs' cn' v)) := by
  refine rr4_map (row_v ht hc hr) (fun h5 i hi => ?_)
  obtain ⟨d, hd, e⟩ := row_5 ht hr h5
  rw [e]
  exact sg_5
end TEXT
