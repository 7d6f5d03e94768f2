/-! ===== types as texts ===== -/
def atom (r : Nat) : Ty := .param (.num .anonymous r)
theorem atom_inj {a b : Nat} (h : atom a = atom b) : a = b := by
  unfold atom at h
  injection h with h
  injection h
/-- what stands for open types -/
def sub (θ : Nat → Ty) : Ty → Ty
  | .zero => .zero
  | .succ t => .succ (sub θ t)
  | .max a b => .max (sub θ a) (sub θ b)
  | .imax a b => .imax (sub θ a) (sub θ b)
  | .param (.num .anonymous r) => θ r
  | .param nm => .param nm
  | .mvar x => .mvar x
theorem sub_atom {θ : Nat → Ty} {r : Nat} : sub θ (atom r) = θ r := rfl
theorem sub_con {θ : Nat → Ty} {s : Nat} {a b : Ty} (hs : 1 ≤ s ∧ s ≤ 6) : sub θ (con s a b) = con s (sub θ a) (sub θ b) := by
  rcases (show s = 1 ∨ s = 2 ∨ s = 3 ∨ s = 4 ∨ s = 5 ∨ s = 6 by omega) with rfl | rfl | rfl | rfl | rfl | rfl <;> rfl
/-- the most general types of cells -/
def gen (n : Nat) (rr So Le Ri : Nat → Nat) (val : Nat → Ty) : Prop := ∀ c, c < n → val c = if So (rr c) = 0 then atom (rr c) else con (So (rr c)) (val (Le (rr c))) (val (Ri (rr c)))
def vg (rr So Le Ri : Nat → Nat) : Nat → Nat → Ty
  | 0, _ => .zero
  | k + 1, c => if So (rr c) = 0 then atom (rr c) else con (So (rr c)) (vg rr So Le Ri k (Le (rr c))) (vg rr So Le Ri k (Ri (rr c)))
section GEN
variable {n u : Nat} {P So Le Ri dp : Nat → Nat} {val : Nat → Ty}
theorem vg_stab (hf : fo P n dp u) (hu : u ≤ 9999) (hg : gok n So Le Ri) {rk : Nat → Nat} (hrk : ∀ c, c < n → rt P c = c → (4 ≤ So c → rk (rt P (Le c)) < rk c) ∧ (5 ≤ So c → rk (rt P (Ri c)) < rk c)) : ∀ (k k' c : Nat), c < n → rk (rt P c) < k → rk (rt P c) < k' → vg (rt P) So Le Ri k c = vg (rt P) So Le Ri k' c := by
  intro k
  induction k with
  | zero => intro k' c _ h; omega
  | succ k ih =>
    intro k' c hc h1 h2
    obtain ⟨k', rfl⟩ : ∃ j, k' = j + 1 := ⟨k' - 1, by omega⟩
    have hr := rt_lt hf hu hc
    have hrr : rt P (rt P c) = rt P c := rt_self (rt_root hf hu hc)
    have g := hg _ hr
    have h3 := hrk _ hr hrr
    show (if So (rt P c) = 0 then _ else _) = (if So (rt P c) = 0 then _ else _)
    generalize rt P c = r at *
    by_cases q : So r = 0
    · rw [if_pos q, if_pos q]
    · rw [if_neg q, if_neg q]
      exact con_parts (fun z => ih k' (Le r) (g.2.1 z) (by have := h3.1 z; omega) (by have := h3.1 z; omega)) (fun z => ih k' (Ri r) (g.2.2 z) (by have := h3.2 z; omega) (by have := h3.2 z; omega)) (by omega)
theorem gen_ex (hf : fo P n dp u) (hu : u ≤ 9999) (hg : gok n So Le Ri) (ha : acy n (rt P) So Le Ri) : ∃ val, gen n (rt P) So Le Ri val := by
  obtain ⟨rk, hrk⟩ := ha
  refine ⟨fun c => vg (rt P) So Le Ri (rk (rt P c) + 1) c, fun c hc => ?_⟩
  have hr := rt_lt hf hu hc
  have hrr : rt P (rt P c) = rt P c := rt_self (rt_root hf hu hc)
  have g := hg _ hr
  have h3 := hrk _ hr hrr
  show (if So (rt P c) = 0 then _ else _) = (if So (rt P c) = 0 then _ else _)
  by_cases q : So (rt P c) = 0
  · rw [if_pos q, if_pos q]
  · rw [if_neg q, if_neg q]
    exact con_parts (fun z => vg_stab hf hu hg hrk _ _ _ (g.2.1 z) (h3.1 z) (by omega)) (fun z => vg_stab hf hu hg hrk _ _ _ (g.2.2 z) (h3.2 z) (by omega)) (by omega)
theorem gen_rt (h : gen n (rt P) So Le Ri val) {a b : Nat} (ha : a < n) (hb : b < n) (e : rt P a = rt P b) : val a = val b := by
  rw [h a ha, h b hb, e]
theorem gen_sol (hf : fo P n dp u) (hu : u ≤ 9999) (hg : gok n So Le Ri) (hcl : cl n P So Le Ri) (h : gen n (rt P) So Le Ri val) : Sol n P So Le Ri val := by
  intro j hj
  have hr := rt_lt hf hu hj
  refine ⟨gen_rt h hj (hf j hj).1 (rt_up hf hu hj).symm, fun hs => ?_⟩
  obtain ⟨c1, c2, c3⟩ := hcl j hj hs
  have g1 := hg j hj
  have g2 := hg _ hr
  rw [c1] at g2
  rw [h j hj, if_neg (by rw [c1]; exact hs), c1]
  exact con_parts (fun z => gen_rt h (g2.2.1 z) (g1.2.1 z) (c2 z).symm) (fun z => gen_rt h (g2.2.2 z) (g1.2.2 z) (c3 z).symm) (by omega)
theorem gen_most (hf : fo P n dp u) (hu : u ≤ 9999) (hg : gok n So Le Ri) (ha : acy n (rt P) So Le Ri) (h : gen n (rt P) So Le Ri val) {val' : Nat → Ty} (hs : Sol n P So Le Ri val') : ∀ c, c < n → val' c = sub val' (val c) := by
  obtain ⟨rk, hrk⟩ := ha
  have key : ∀ (k c : Nat), c < n → rk (rt P c) < k → val' c = sub val' (val c) := by
    intro k
    induction k with
    | zero => intro c _ h; omega
    | succ k ih =>
      intro c hc hk
      have hr := rt_lt hf hu hc
      have hrr : rt P (rt P c) = rt P c := rt_self (rt_root hf hu hc)
      have h1 : val' (rt P c) = val' c := Sol_rt hf hs 10000 c hc
      have g := hg _ hr
      have h3 := hrk _ hr hrr
      have h4 := (hs _ hr).2
      rw [h c hc, ← h1]
      generalize rt P c = r at *
      by_cases q : So r = 0
      · rw [if_pos q, sub_atom]
      · rw [if_neg q, sub_con (by omega), h4 q]
        exact con_parts (fun z => ih (Le r) (g.2.1 z) (by have := h3.1 z; omega)) (fun z => ih (Ri r) (g.2.2 z) (by have := h3.2 z; omega)) (by omega)
  exact fun c hc => key _ c hc (Nat.lt_succ_self _)
end GEN
/-- where r stands in a list -/
def ix : List Nat → Nat → Nat
  | [], _ => 0
  | a :: as, r => if a = r then 0 else ix as r + 1
theorem ix_le {r : Nat} : ∀ {as : List Nat}, ix as r ≤ as.length
  | [] => Nat.le_refl _
  | a :: as => by
    have := ix_le (r := r) (as := as)
    unfold ix
    simp only [List.length_cons]
    split <;> omega
theorem ix_mem {r : Nat} : ∀ {as : List Nat}, ix as r < as.length ↔ r ∈ as
  | [] => by simp [ix]
  | a :: as => by
    have := ix_mem (r := r) (as := as)
    unfold ix
    by_cases q : a = r
    · rw [if_pos q]; simp [q]
    · rw [if_neg q]
      simp only [List.length_cons, List.mem_cons]
      constructor
      · intro h; exact Or.inr (this.mp (by omega))
      · intro h
        rcases h with h | h
        · exact absurd h.symm q
        · have := this.mpr h; omega
/-- the letter of the i-th open type -/
def ltr (i : Nat) : List Nat := (97 + i % 26) :: (if 26 ≤ i then [48 + i / 26] else [])
def arr : Ty → Bool
  | .imax _ _ => true
  | _ => false
/-- a type's text and the open types met so far -/
def txt : Ty → List Nat → List Nat × List Nat
  | .zero, as => ([78, 117, 109], as)
  | .succ t, as => (91 :: ((txt t as).1 ++ [93]), (txt t as).2)
  | .max a b, as => (40 :: ((txt a as).1 ++ (44 :: ((txt b (txt a as).2).1 ++ [41]))), (txt b (txt a as).2).2)
  | .imax a b, as => ((if arr a then 40 :: ((txt a as).1 ++ [41]) else (txt a as).1) ++ ([32, 45, 62, 32] ++ (txt b (txt a as).2).1), (txt b (txt a as).2).2)
  | .param (.num .anonymous r), as => (ltr (ix as r), if r ∈ as then as else as ++ [r])
  | .param nm, as => (if nm = `a then [66, 111, 111, 108] else [84, 101, 120, 116], as)
  | .mvar _, as => ([63], as)
theorem txt_pos : ∀ (t : Ty) (as : List Nat), 1 ≤ (txt t as).1.length
  | .zero, _ => by simp [txt]
  | .succ t, as => by simp [txt]
  | .max a b, as => by simp [txt]
  | .imax a b, as => by simp [txt]; omega
  | .param (.num .anonymous r), as => by simp [txt, ltr]
  | .param .anonymous, as => by simp [txt]
  | .param (.str _ _), as => by simp only [txt]; split <;> simp
  | .param (.num (.str _ _) _), as => by simp only [txt]; split <;> simp
  | .param (.num (.num _ _) _), as => by simp only [txt]; split <;> simp
  | .mvar _, as => by simp [txt]
/-- open types that stand for each other -/
def zok (θ θ' : Nat → Ty) (Z : List (Nat × Nat)) : Prop := ∀ q ∈ Z, θ q.2 = atom q.1 ∧ θ' q.1 = atom q.2
theorem ix_map {θ θ' : Nat → Ty} {p q : Nat} (h1 : θ q = atom p) (h2 : θ' p = atom q) : ∀ {Z : List (Nat × Nat)}, zok θ θ' Z → ix (Z.map Prod.fst) p = ix (Z.map Prod.snd) q
  | [], _ => rfl
  | z :: Z, h => by
    have h3 := h z List.mem_cons_self
    have ih := ix_map h1 h2 (Z := Z) (fun y hy => h y (List.mem_cons_of_mem _ hy))
    show (if z.1 = p then 0 else _) = (if z.2 = q then 0 else _)
    by_cases e : z.1 = p
    · have : z.2 = q := atom_inj (by rw [← h3.2, e, h2])
      rw [if_pos e, if_pos this]
    · have : z.2 ≠ q := fun y => e (atom_inj (by rw [← h3.1, y, h1]))
      rw [if_neg e, if_neg this, ih]
theorem txt_atom {r : Nat} {as : List Nat} : txt (atom r) as = (ltr (ix as r), if r ∈ as then as else as ++ [r]) := rfl
theorem txt_sub {θ θ' : Nat → Ty} : ∀ (t1 t2 : Ty) (Z : List (Nat × Nat)), t1 = sub θ t2 → t2 = sub θ' t1 → zok θ θ' Z → ∃ Z', zok θ θ' Z' ∧ (txt t1 (Z.map Prod.fst)).1 = (txt t2 (Z.map Prod.snd)).1 ∧ (txt t1 (Z.map Prod.fst)).2 = Z'.map Prod.fst ∧ (txt t2 (Z.map Prod.snd)).2 = Z'.map Prod.snd ∧ arr t1 = arr t2 := by
  intro t1
  induction t1 with
  | zero =>
    intro t2 Z h1 h2 hz
    have e : t2 = .zero := h2
    subst e
    exact ⟨Z, hz, rfl, rfl, rfl, rfl⟩
  | succ a ih =>
    intro t2 Z h1 h2 hz
    have e : t2 = .succ (sub θ' a) := h2
    subst e
    have h1' : a = sub θ (sub θ' a) := by injection h1
    obtain ⟨Z', z1, z2, z3, z4, z5⟩ := ih _ Z h1' rfl hz
    exact ⟨Z', z1, by simp only [txt, z2], z3, z4, rfl⟩
  | max a b iha ihb =>
    intro t2 Z h1 h2 hz
    have e : t2 = .max (sub θ' a) (sub θ' b) := h2
    subst e
    have h1' : a = sub θ (sub θ' a) ∧ b = sub θ (sub θ' b) := by injection h1 with x y; exact ⟨x, y⟩
    obtain ⟨Z', z1, z2, z3, z4, z5⟩ := iha _ Z h1'.1 rfl hz
    obtain ⟨Z2, y1, y2, y3, y4, y5⟩ := ihb _ Z' h1'.2 rfl z1
    exact ⟨Z2, y1, by simp only [txt, z2, z3, z4, y2], by simp only [txt, z3, y3], by simp only [txt, z4, y4], rfl⟩
  | imax a b iha ihb =>
    intro t2 Z h1 h2 hz
    have e : t2 = .imax (sub θ' a) (sub θ' b) := h2
    subst e
    have h1' : a = sub θ (sub θ' a) ∧ b = sub θ (sub θ' b) := by injection h1 with x y; exact ⟨x, y⟩
    obtain ⟨Z', z1, z2, z3, z4, z5⟩ := iha _ Z h1'.1 rfl hz
    obtain ⟨Z2, y1, y2, y3, y4, y5⟩ := ihb _ Z' h1'.2 rfl z1
    exact ⟨Z2, y1, by simp only [txt, z2, z3, z4, y2, z5], by simp only [txt, z3, y3], by simp only [txt, z4, y4], rfl⟩
  | mvar x =>
    intro t2 Z h1 h2 hz
    have e : t2 = .mvar x := h2
    subst e
    exact ⟨Z, hz, rfl, rfl, rfl, rfl⟩
  | param nm =>
    intro t2 Z h1 h2 hz
    match nm, h1, h2 with
    | .num .anonymous p, h1, h2 =>
      have e : t2 = θ' p := h2
      -- t2 is an open type too
      match t2, h1, e with
      | .param (.num .anonymous q), h1, e =>
        have h3 : θ q = atom p := h1.symm
        have h4 : θ' p = atom q := e.symm
        have hi := ix_map h3 h4 hz
        have hm : p ∈ Z.map Prod.fst ↔ q ∈ Z.map Prod.snd := by
          rw [← ix_mem, ← ix_mem, hi]
          simp only [List.length_map]
        refine ⟨if p ∈ Z.map Prod.fst then Z else Z ++ [(p, q)], ?_, ?_, ?_, ?_, rfl⟩
        · split
          · exact hz
          · intro y hy
            rcases List.mem_append.mp hy with hy | hy
            · exact hz y hy
            · have : y = (p, q) := by simpa using hy
              subst this
              exact ⟨h3, h4⟩
        · show ltr _ = ltr _
          rw [hi]
        · show (if p ∈ Z.map Prod.fst then _ else _) = _
          split
          · rfl
          · simp
        · show (if q ∈ Z.map Prod.snd then _ else _) = _
          by_cases z : p ∈ Z.map Prod.fst
          · rw [if_pos (hm.mp z), if_pos z]
          · rw [if_neg (fun y => z (hm.mpr y)), if_neg z]; simp
      | .zero, h1, _ => exact absurd h1 (by intro z; cases z)
      | .succ _, h1, _ => exact absurd h1 (by intro z; cases z)
      | .max _ _, h1, _ => exact absurd h1 (by intro z; cases z)
      | .imax _ _, h1, _ => exact absurd h1 (by intro z; cases z)
      | .mvar _, h1, _ => exact absurd h1 (by intro z; cases z)
      | .param .anonymous, h1, _ => exact absurd h1 (by intro z; cases z)
      | .param (.str _ _), h1, _ => exact absurd h1 (by intro z; cases z)
      | .param (.num (.str _ _) _), h1, _ => exact absurd h1 (by intro z; cases z)
      | .param (.num (.num _ _) _), h1, _ => exact absurd h1 (by intro z; cases z)
    | .anonymous, h1, h2 =>
      have e : t2 = .param .anonymous := h2
      subst e
      exact ⟨Z, hz, rfl, rfl, rfl, rfl⟩
    | .str x y, h1, h2 =>
      have e : t2 = .param (.str x y) := h2
      subst e
      exact ⟨Z, hz, rfl, rfl, rfl, rfl⟩
    | .num (.str x y) k, h1, h2 =>
      have e : t2 = .param (.num (.str x y) k) := h2
      subst e
      exact ⟨Z, hz, rfl, rfl, rfl, rfl⟩
    | .num (.num x y) k, h1, h2 =>
      have e : t2 = .param (.num (.num x y) k) := h2
      subst e
      exact ⟨Z, hz, rfl, rfl, rfl, rfl⟩
/-- two types that are each other's instances have one text -/
theorem txt_eq {θ θ' : Nat → Ty} {t1 t2 : Ty} (h1 : t1 = sub θ t2) (h2 : t2 = sub θ' t1) : (txt t1 []).1 = (txt t2 []).1 := by
  obtain ⟨Z', -, z, -⟩ := txt_sub t1 t2 [] h1 h2 (fun q hq => by cases hq)
  exact z
