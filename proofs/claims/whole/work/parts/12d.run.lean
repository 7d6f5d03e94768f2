/-! ===== what a run of the grammar keeps ===== -/
def Wq (z z' : Zt) : Prop := (z 30 4 ≤ z' 30 4 ∧ z 30 0 ≤ z' 30 0 ∧ z 30 3 ≤ z' 30 3 ∧ z 30 2 ≤ z' 30 2 ∧ z' 30 1 = z 30 1) ∧ (∀ c n, c < 16 → n < z 30 0 → z' c n = z c n) ∧ (∀ c n, 16 ≤ c → c < 20 → z' c n = z c n) ∧ (∀ c n, 20 ≤ c → c < 24 → n < z 30 2 → z' c n = z c n) ∧ (∀ k, k < z 30 3 → z' 31 k = z 31 k) ∧ (∀ c t, 32 ≤ c → c ≤ 34 → t < z 30 4 → z' c t = z c t)
def WFz (nt d : Nat) (z : Zt) : Prop := z 30 4 ≤ nt ∧ z 30 3 ≤ 80 ∧ z 30 0 ≤ z 30 3 + d ∧ d ≤ 20 ∧ (z 30 2 = z 30 1 + z 30 5 ∧ z 30 5 ≤ 16 ∧ 1 ≤ z 30 1 ∧ z 30 1 ≤ 6) ∧ (z 30 6 = 1000 ∨ (11 ≤ z 30 6 ∧ z 30 6 < 11 + z 30 2))
def PSC (nt : Nat) (z z' : Zt) : Prop := z 30 4 < z' 30 4 ∧ z' 30 4 ≤ nt ∧ z' 30 0 + z 30 3 = z 30 0 + z' 30 3 ∧ z' 30 3 ≤ 80 ∧ z' 30 6 = z 30 6 ∧ z 30 5 ≤ z' 30 5 ∧ z' 30 5 ≤ 16 ∧ z' 30 2 = z 30 1 + z' 30 5
def PSI (kd pl : Nat → Nat) (nt : Nat) (z : Zt) (c d r : Nat) (z' : Zt) : Prop := Wq z z' ∧ PSC nt z z' ∧ SEG kd pl z' (z 30 0) (z' 30 0) r (z 30 4) (z' 30 4) (z 30 3) (z' 30 3) ∧ CHD kd z' (z 30 0) (z' 30 0) ∧ ADJ z' (z 30 0) (z' 30 0) ∧ (8 * d + c ≤ z' 15 r ∧ z' 9 r = 1000 ∧ z' 11 r = 1000) ∧ (c = 6 → z' 8 (z 30 0) = z 30 4 → z' 0 (z 30 0) ≠ 3) ∧ (bal kd (z 30 4) (z' 30 4) ∧ ∀ t, t ≤ z 30 4 → z' 33 t = z 33 t)
def PST (kd pl : Nat → Nat) (nt : Nat) (z : Zt) (c d : Nat) (x : Rs) : Prop := match x with
  | .inl t => t ≤ 240
  | .inr q => PSI kd pl nt z c d q.1 q.2
section RUN
variable {kd pl : Nat → Nat} {nt : Nat} {z z' z1 z2 : Zt} {lo hi r i j a b n m w k d c : Nat}
theorem Wq.rf : Wq z z := ⟨⟨Nat.le_refl _, Nat.le_refl _, Nat.le_refl _, Nat.le_refl _, rfl⟩, fun _ _ _ _ => rfl, fun _ _ _ _ => rfl, fun _ _ _ _ _ => rfl, fun _ _ => rfl, fun _ _ _ _ _ => rfl⟩
theorem Wq.tr (h : Wq z z1) (h2 : Wq z1 z2) : Wq z z2 := by
  obtain ⟨⟨a1, a2, a3, a4, a5⟩, b1, b2, b3, b4, b5⟩ := h
  obtain ⟨⟨c1, c2, c3, c4, c5⟩, d1, d2, d3, d4, d5⟩ := h2
  exact ⟨⟨by omega, by omega, by omega, by omega, by omega⟩, fun c n x y => (d1 c n x (by omega)).trans (b1 c n x y), fun c n x y => (d2 c n x y).trans (b2 c n x y), fun c n x y u => (d3 c n x y (by omega)).trans (b3 c n x y u), fun k x => (d4 k (by omega)).trans (b4 k x), fun c t x y u => (d5 c t x y (by omega)).trans (b5 c t x y u)⟩
/-- a change of columns of newer nodes -/
theorem wq_zu {v : Nat} (h : Wq z z1) (hc : c < 16) (hn : z 30 0 ≤ n) : Wq z (zu z1 c n v) := by
  obtain ⟨⟨a1, a2, a3, a4, a5⟩, b1, b2, b3, b4, b5⟩ := h
  have e : ∀ u w, zu z1 c n v u w = if u = c ∧ w = n then v else z1 u w := fun _ _ => rfl
  refine ⟨⟨?_, ?_, ?_, ?_, ?_⟩, fun u w x y => ?_, fun u w x y => ?_, fun u w x y s => ?_, fun u x => ?_, fun u t x y s => ?_⟩
  all_goals rw [e, if_neg (by omega)]
  · exact a1
  · exact a2
  · exact a3
  · exact a4
  · exact a5
  · exact b1 u w x y
  · exact b2 u w x y
  · exact b3 u w x y s
  · exact b4 u x
  · exact b5 u t x y s
theorem wq_zlk {v : Nat} (h : Wq z z1) (hc : c < 16) (hn : z 30 0 ≤ n) (hv : z 30 0 ≤ v) : Wq z (zlk z1 c n v) := wq_zu (wq_zu h hc hn) (by decide) hv
theorem wq_34 {t v : Nat} (h : Wq z z1) (ht : z 30 4 ≤ t) : Wq z (zu z1 34 t v) := by
  obtain ⟨⟨a1, a2, a3, a4, a5⟩, b1, b2, b3, b4, b5⟩ := h
  have e : ∀ u w, zu z1 34 t v u w = if u = 34 ∧ w = t then v else z1 u w := fun _ _ => rfl
  refine ⟨⟨?_, ?_, ?_, ?_, ?_⟩, fun u w x y => ?_, fun u w x y => ?_, fun u w x y s => ?_, fun u x => ?_, fun u t x y s => ?_⟩
  all_goals rw [e, if_neg (by omega)]
  · exact a1
  · exact a2
  · exact a3
  · exact a4
  · exact a5
  · exact b1 u w x y
  · exact b2 u w x y
  · exact b3 u w x y s
  · exact b4 u x
  · exact b5 u _ x y s
theorem wq_zj {t v : Nat} (h : Wq z z1) (hv : z 30 0 ≤ v) (ht : z 30 4 ≤ t) : Wq z (zj z1 v t) := wq_34 (wq_zu h (by decide) hv) ht
theorem wq_306 {v : Nat} (h : Wq z z1) : Wq z (zu z1 30 6 v) := by
  obtain ⟨⟨a1, a2, a3, a4, a5⟩, b1, b2, b3, b4, b5⟩ := h
  have e : ∀ u w, zu z1 30 6 v u w = if u = 30 ∧ w = 6 then v else z1 u w := fun _ _ => rfl
  refine ⟨⟨?_, ?_, ?_, ?_, ?_⟩, fun u w x y => ?_, fun u w x y => ?_, fun u w x y s => ?_, fun u x => ?_, fun u t x y s => ?_⟩
  all_goals rw [e, if_neg (by omega)]
  · exact a1
  · exact a2
  · exact a3
  · exact a4
  · exact a5
  · exact b1 u w x y
  · exact b2 u w x y
  · exact b3 u w x y s
  · exact b4 u x
  · exact b5 u _ x y s
theorem adv_e (u v : Nat) : adv z u v = if u = 30 ∧ v = 4 then z 30 4 + 1 else z u v := rfl
theorem adv_n {u v : Nat} (h : u ≠ 30 ∨ v ≠ 4) : adv z u v = z u v := if_neg (by omega)
theorem adv_4 : adv z 30 4 = z 30 4 + 1 := by rw [adv_e, if_pos ⟨rfl, rfl⟩]
theorem wq_adv (h : Wq z z1) : Wq z (adv z1) := by
  obtain ⟨⟨a1, a2, a3, a4, a5⟩, b1, b2, b3, b4, b5⟩ := h
  refine ⟨⟨by rw [adv_4]; omega, ?_, ?_, ?_, ?_⟩, fun u w x y => ?_, fun u w x y => ?_, fun u w x y s => ?_, fun u x => ?_, fun u t x y s => ?_⟩
  all_goals rw [adv_n (by omega)]
  · exact a2
  · exact a3
  · exact a4
  · exact a5
  · exact b1 u w x y
  · exact b2 u w x y
  · exact b3 u w x y s
  · exact b4 u x
  · exact b5 u _ x y s
theorem zk_e (u v : Nat) : zk pl z k d u v = if u < 16 ∧ v = z 30 0 then zcol pl z k d (z 30 3) u else if u = 30 ∧ v = 0 then z 30 0 + 1 else if u = 30 ∧ v = 3 then z 30 3 + 1 else if u = 31 ∧ v = z 30 3 then z 30 0 else if u = (if k = 3 then 33 else 32) ∧ v = z 30 4 then z 30 0 else z u v := rfl
theorem zk_30 {v : Nat} (h0 : v ≠ 0) (h3 : v ≠ 3) : zk pl z k d 30 v = z 30 v := by
  rw [zk_e, if_neg (by omega), if_neg (by omega), if_neg (by omega), if_neg (by omega), if_neg (by split <;> omega)]
theorem zk_0 : zk pl z k d 30 0 = z 30 0 + 1 := by rw [zk_e, if_neg (by omega), if_pos ⟨rfl, rfl⟩]
theorem zk_3 : zk pl z k d 30 3 = z 30 3 + 1 := by rw [zk_e, if_neg (by omega), if_neg (by omega), if_pos ⟨rfl, rfl⟩]
theorem zk_31 : zk pl z k d 31 (z 30 3) = z 30 0 := by rw [zk_e, if_neg (by omega), if_neg (by omega), if_neg (by omega), if_pos ⟨rfl, rfl⟩]
theorem zk_32 (h : k ≠ 3) : zk pl z k d 32 (z 30 4) = z 30 0 := by rw [zk_e, if_neg (by omega), if_neg (by omega), if_neg (by omega), if_neg (by omega), if_pos ⟨by rw [if_neg h], rfl⟩]
theorem zk_33 : zk pl z 3 d 33 (z 30 4) = z 30 0 := by rw [zk_e, if_neg (by omega), if_neg (by omega), if_neg (by omega), if_neg (by omega), if_pos ⟨by rw [if_pos rfl], rfl⟩]
theorem zk_o {u v : Nat} (h : u < 16) (hv : v ≠ z 30 0) : zk pl z k d u v = z u v := by
  rw [zk_e, if_neg (by omega), if_neg (by omega), if_neg (by omega), if_neg (by omega), if_neg (by split <;> omega)]
theorem wq_zk : Wq z (zk pl z k d) := by
  refine ⟨⟨by rw [zk_30 (by decide) (by decide)]; exact Nat.le_refl _, by rw [zk_0]; omega, by rw [zk_3]; omega, by rw [zk_30 (by decide) (by decide)]; exact Nat.le_refl _, by rw [zk_30 (by decide) (by decide)]⟩, fun u w x y => zk_o x (by omega), fun u w x y => ?_, fun u w x y s => ?_, fun u x => ?_, fun u t x y s => ?_⟩
  · rw [zk_e, if_neg (by omega), if_neg (by omega), if_neg (by omega), if_neg (by omega), if_neg (by split <;> omega)]
  · rw [zk_e, if_neg (by omega), if_neg (by omega), if_neg (by omega), if_neg (by omega), if_neg (by split <;> omega)]
  · rw [zk_e, if_neg (by omega), if_neg (by omega), if_neg (by omega), if_neg (by omega), if_neg (by split <;> omega)]
  · rw [zk_e, if_neg (by omega), if_neg (by omega), if_neg (by omega), if_neg (by omega), if_neg (by omega)]
/-- the columns of a fresh node -/
def NEW (pl : Nat → Nat) (z z1 : Zt) (k d μ n : Nat) : Prop := (z1 0 n = k ∧ z1 6 n = μ ∧ z1 7 n = pl (z 30 4) ∧ z1 8 n = z 30 4 ∧ z1 10 n = z 30 6 ∧ z1 13 n = 0 ∧ z1 14 n = z 30 1 - 1 ∧ z1 15 n = 8 * d + lvk k) ∧ z1 1 n = 1000 ∧ z1 2 n = 1000 ∧ z1 3 n = 1000 ∧ z1 5 n = 1000 ∧ z1 9 n = 1000 ∧ z1 11 n = 1000 ∧ z1 12 n = 1000
theorem NEW_zk : NEW pl z (zk pl z k d) k d (z 30 3) (z 30 0) ∧ zk pl z k d 4 (z 30 0) = 1000 := by
  have e : ∀ u, u < 16 → zk pl z k d u (z 30 0) = zcol pl z k d (z 30 3) u := fun u hu => if_pos ⟨hu, rfl⟩
  unfold NEW
  rw [e 0 (by decide), e 6 (by decide), e 7 (by decide), e 8 (by decide), e 10 (by decide), e 13 (by decide), e 14 (by decide), e 15 (by decide), e 1 (by decide), e 2 (by decide), e 3 (by decide), e 5 (by decide), e 9 (by decide), e 11 (by decide), e 12 (by decide), e 4 (by decide)]
  exact ⟨⟨⟨rfl, rfl, rfl, rfl, rfl, rfl, rfl, rfl⟩, rfl, rfl, rfl, rfl, rfl, rfl, rfl⟩, rfl⟩
theorem NEW_c {μ : Nat} (h : NEW pl z z1 k d μ n) (hk : ∀ c, c < 16 → c ≠ 4 → z2 c n = z1 c n) : NEW pl z z2 k d μ n := by
  unfold NEW at h ⊢
  rw [hk 0 (by decide) (by decide), hk 6 (by decide) (by decide), hk 7 (by decide) (by decide), hk 8 (by decide) (by decide), hk 10 (by decide) (by decide), hk 13 (by decide) (by decide), hk 14 (by decide) (by decide), hk 15 (by decide) (by decide), hk 1 (by decide) (by decide), hk 2 (by decide) (by decide), hk 3 (by decide) (by decide), hk 5 (by decide) (by decide), hk 9 (by decide) (by decide), hk 11 (by decide) (by decide), hk 12 (by decide) (by decide)]
  exact h
theorem ndp_new {μ : Nat} (h : NEW pl z z1 k d μ n) (hk : k ≤ 13) (hi : i ≤ z 30 4 ∧ z 30 4 < j) (hm : a ≤ μ ∧ μ < b ∧ z1 31 μ = n) (h3 : if k = 3 then z1 33 (z 30 4) = n ∧ bga (kd (z 30 4)) = true else z1 32 (z 30 4) = n ∧ kd (z 30 4) = k) (h4 : (k = 4 → 11 ≤ z1 4 n ∧ z1 4 n < 11 + z1 30 2) ∧ (k ≠ 4 → z1 4 n = 1000)) (hs : z 30 6 = 1000 ∨ (11 ≤ z 30 6 ∧ z 30 6 < 11 + z1 30 2)) (hd : z1 30 1 = z 30 1 ∧ 1 ≤ z 30 1) : ndp kd pl z1 i j a b n := by
  obtain ⟨⟨c0, c6, c7, c8, c10, c13, c14, c15⟩, c1, c2, c3, c5, c9, c11, c12⟩ := h
  unfold ndp
  rw [c0, c6, c7, c8, c9, c10, c14, hd.1]
  exact ⟨⟨hk, rfl, hi⟩, hm, h3, fun s => absurd s (by omega), by omega, hs, h4⟩
theorem seg_w (h : SEG kd pl z lo hi r i j a b) (w : Wq z z') (h1 : hi ≤ z 30 0) (h2 : j ≤ z 30 4) (h3 : b ≤ z 30 3) : SEG kd pl z' lo hi r i j a b := by
  obtain ⟨⟨a1, a2, a3, a4, a5⟩, b1, b2, b3, b4, b5⟩ := w
  exact seg_fr h (fun c n c1 _ n2 => b1 c n c1 (by omega)) (fun k _ k2 => b4 k (by omega)) (fun c t c1 c2 _ t2 => b5 c t c1 c2 (by omega)) ⟨a5, a4⟩
theorem rt_w (w : Wq z z') (h1 : hi ≤ z 30 0) : RT z z' lo hi r := fun c n c1 _ n2 _ => w.2.1 c n c1 (by omega)
theorem chd_w (h : CHD kd z lo hi) (w : Wq z z') (h1 : hi ≤ z 30 0) (h4 : hi ≤ 400) (hr : z 5 r = 1000) : CHD kd z' lo hi := fun n n1 n2 => chq_rt (h n n1 n2) ⟨n1, n2, h4⟩ (rt_w (r := r) w h1) hr ⟨Nat.le_refl _, Nat.le_refl _⟩
theorem tk_lt (ht : tko kd pl nt) (h : i ≤ nt) (h2 : kd i ≠ 22) : i < nt := by
  by_cases s : i = nt
  · rw [s] at h2; exact absurd ht.2.1 h2
  · omega
theorem lvo_k (h : lvo k ≠ 0) : 8 ≤ k ∧ k ≤ 13 := by
  unfold lvo at h
  repeat' split at h
  all_goals omega
theorem lvk_8 (h : 8 ≤ k) : lvk k = lvo k := by
  unfold lvk
  rw [if_neg (by omega), if_neg (by omega), if_pos h]
/-- a node between two parts -/
theorem asm_bin {l : Nat} {zL zA zR : Zt} (hw : WFz nt d z) (hL : PSI kd pl nt z l d w zL)
    (hk : (zA = zk pl zL k d ∧ k = 3 ∧ l = 5 ∧ bga (kd (zL 30 4)) = true) ∨ (zA = adv (zk pl zL k d) ∧ 8 ≤ k ∧ k ≤ 13 ∧ kd (zL 30 4) = k ∧ lvo k = l))
    (hl3 : l = 3 → 8 * d + 4 ≤ zL 15 w) {cR : Nat} (hR : PSI kd pl nt zA cR d r zR) (hcR : l < cR ∨ (l = 3 ∧ cR = 3)) (hc6 : l = 5 → cR = 6) :
    let m := zL 30 0
    let z' := zlk (zlk zR 1 m w) 2 m r
    (Wq z z' ∧ PSC nt z z' ∧ SEG kd pl z' (z 30 0) (z' 30 0) m (z 30 4) (z' 30 4) (z 30 3) (z' 30 3) ∧ ADJ z' (z 30 0) (z' 30 0) ∧ (z' 15 m = 8 * d + l ∧ z' 9 m = 1000 ∧ z' 11 m = 1000) ∧ (bal kd (z 30 4) (z' 30 4) ∧ ∀ t, t ≤ z 30 4 → z' 33 t = z 33 t)) ∧
    (∀ n, z 30 0 ≤ n → n < z' 30 0 → n ≠ m → chq kd z' (z 30 0) (z' 30 0) n) ∧ (z' 0 m = k ∧ z' 1 m = w ∧ z' 2 m = r ∧ z' 3 m = 1000 ∧ z 30 0 ≤ w ∧ w < m ∧ m < r ∧ r < z' 30 0 ∧ z' 30 0 = zR 30 0) ∧ (z' 5 r = m ∧ (∀ n, m < n → n < z' 30 0 → n ≠ r → m < z' 5 n ∧ z' 5 n < z' 30 0) ∧ (∀ n, z 30 0 ≤ n → n < m → z' 5 n ≤ m)) := by
  intro m z'
  obtain ⟨wL, ⟨p1, p2, p3, p4, p5, p6, p7, p8⟩, sL, cL, aL, ⟨lL, -, -⟩, fL, bL, gL⟩ := hL
  obtain ⟨wR, ⟨q1, q2, q3, q4, q5, q6, q7, q8⟩, sR, cR', aR, ⟨lR, -, -⟩, fR, bR, gR⟩ := hR
  obtain ⟨v1, v2, v3, v4, v5, v6⟩ := hw
  have hk13 : k ≤ 13 ∧ (k = 3 ∨ 8 ≤ k) := by omega
  have lvkk : lvk k = l := by
    rcases hk with ⟨-, rfl, rfl, -⟩ | ⟨-, g1, -, -, rfl⟩
    · rfl
    · exact lvk_8 g1
  have hl : 1 ≤ l ∧ l ≤ 5 := by
    rcases hk with ⟨-, -, rfl, -⟩ | ⟨-, g1, g2, -, rfl⟩
    · decide
    · rcases (show k = 8 ∨ k = 9 ∨ k = 10 ∨ k = 11 ∨ k = 12 ∨ k = 13 by omega) with rfl | rfl | rfl | rfl | rfl | rfl <;> decide
  -- the state with the new node
  have A : ∀ u v, (u ≠ 30 ∨ v ≠ 4) → zA u v = zk pl zL k d u v := fun u v h => by
    rcases hk with ⟨rfl, -⟩ | ⟨rfl, -⟩
    · rfl
    · exact adv_n h
  have A4 : (zA 30 4 = zL 30 4 ∧ k = 3) ∨ (zA 30 4 = zL 30 4 + 1 ∧ k ≠ 3) := by
    rcases hk with ⟨rfl, h3, -⟩ | ⟨rfl, h3, -⟩
    · exact Or.inl ⟨zk_30 (by decide) (by decide), h3⟩
    · exact Or.inr ⟨by rw [adv_4, zk_30 (by decide) (by decide)], by omega⟩
  have A0 : zA 30 0 = m + 1 := by rw [A _ _ (by decide)]; exact zk_0
  have A3 : zA 30 3 = zL 30 3 + 1 := by rw [A _ _ (by decide)]; exact zk_3
  have A1 : zA 30 1 = zL 30 1 := by rw [A _ _ (by decide)]; exact zk_30 (by decide) (by decide)
  have A2 : zA 30 2 = zL 30 2 := by rw [A _ _ (by decide)]; exact zk_30 (by decide) (by decide)
  have A5 : zA 30 5 = zL 30 5 := by rw [A _ _ (by decide)]; exact zk_30 (by decide) (by decide)
  have A6 : zA 30 6 = zL 30 6 := by rw [A _ _ (by decide)]; exact zk_30 (by decide) (by decide)
  have wLA : Wq zL zA := by
    rcases hk with ⟨rfl, -⟩ | ⟨rfl, -⟩
    · exact wq_zk
    · exact wq_adv wq_zk
  have wLR := wLA.tr wR
  have m400 : zR 30 0 ≤ 400 := sR.1.2.2
  have mz : z 30 0 ≤ m := wL.1.2.1
  have hwm := sL.1
  have hrm := sR.1
  rw [A0] at hrm
  have hz0 : z' 30 0 = zR 30 0 := rfl
  have hz4 : z' 30 4 = zR 30 4 := rfl
  have hz3 : z' 30 3 = zR 30 3 := rfl
  -- the node in the last state
  have new : NEW pl zL zR k d (zL 30 3) m := by
    refine NEW_c (NEW_c (NEW_zk (pl := pl) (z := zL) (k := k) (d := d)).1 (z2 := zA) (fun c c1 _ => A c _ (by omega))) (fun c c1 _ => ?_)
    exact wR.2.1 c _ c1 (by omega)
  have new4 : zR 4 m = 1000 := by
    rw [wR.2.1 4 m (by decide) (by omega), A _ _ (Or.inl (by decide))]
    exact (NEW_zk (pl := pl) (z := zL) (k := k) (d := d)).2
  have t31 : zR 31 (zL 30 3) = m := by
    rw [wR.2.2.2.2.1 _ (by omega), A _ _ (Or.inl (by decide))]; exact zk_31
  have hnd : ndp kd pl zR (z 30 4) (zR 30 4) (z 30 3) (zR 30 3) m := by
    refine ndp_new new hk13.1 ⟨by omega, by omega⟩ ⟨by omega, by omega, t31⟩ ?_ ⟨fun s => by omega, fun _ => new4⟩ ?_ ⟨wLR.1.2.2.2.2, by have := wL.1.2.2.2.2; omega⟩
    · rcases hk with ⟨e1, rfl, -, h4⟩ | ⟨e1, h4, -, h5, -⟩
      · rw [if_pos rfl]
        refine ⟨?_, h4⟩
        rcases A4 with ⟨A4, -⟩ | ⟨-, A4⟩
        · rw [gR _ (by omega), A _ _ (Or.inl (by decide))]; exact zk_33
        · exact absurd rfl A4
      · rw [if_neg (by omega)]
        refine ⟨?_, h5⟩
        rw [wR.2.2.2.2.2 32 _ (by decide) (by decide) (by rw [e1, adv_4, zk_30 (by decide) (by decide)]; omega), A _ _ (Or.inl (by decide))]
        exact zk_32 (by omega)
    · rw [p5]
      rcases v6 with h | h
      · exact Or.inl h
      · have := wLR.1.2.2.2.1
        have := wL.1.2.2.2.1
        exact Or.inr ⟨h.1, by omega⟩
  obtain ⟨⟨n0, n6, n7, n8, n10, n13, n14, n15⟩, n1, n2, n3, n5, n9, n11, n12⟩ := new
  rw [lvkk] at n15
  have w15 : zR 15 w = zL 15 w := wLR.2.1 15 w (by decide) (by omega)
  have lv1 : lvz zR m < lvz zR w := by
    unfold lvz
    rw [n15, w15]
    by_cases s3 : l = 3
    · have := hl3 s3
      split <;> split <;> omega
    · split <;> split <;> omega
  have lv2 : lvz zR m < lvz zR r := by
    unfold lvz
    rw [n15]
    rcases hcR with h | ⟨h, h'⟩
    · split <;> split <;> omega
    · subst h; subst h'
      rw [if_pos (by omega)]
      split <;> omega
  have sL' := seg_w sL wLR (Nat.le_refl _) (Nat.le_refl _) (Nat.le_refl _)
  have s0 := seg_one hnd n5 (fun _ => n12) (fun s => by omega) (by omega)
  have wR4 := wLR.1.1
  have wR3 := wLR.1.2.2.1
  have wL4 := wL.1.1
  have wL3 := wL.1.2.2.1
  have s1 := seg_zlk (c := 1) (i := z 30 4) (j := zR 30 4) (a := z 30 3) (b := zR 30 3) sL' s0 (Or.inr ⟨rfl, rfl⟩) ⟨Nat.le_refl _, Nat.le_refl _, wR4, Nat.le_refl _⟩ ⟨Nat.le_refl _, Nat.le_refl _, wR3, Nat.le_refl _⟩ (Or.inl rfl) lv1 (by omega) (fun _ => n12)
  have e1 : ∀ u v, zlk zR 1 m w u v = if u = 5 ∧ v = w then m else if u = 1 ∧ v = m then w else zR u v := fun _ _ => rfl
  have sR1 : SEG kd pl (zlk zR 1 m w) (m + 1) (zR 30 0) r (zA 30 4) (zR 30 4) (zA 30 3) (zR 30 3) := by
    rw [A0] at sR
    refine seg_fr sR (fun c n c1 c2 c3 => ?_) (fun k _ _ => ?_) (fun c t c1 c2 _ _ => ?_) ⟨?_, ?_⟩
    · rw [e1, if_neg (by omega), if_neg (by omega)]
    · rw [e1, if_neg (by omega), if_neg (by omega)]
    · rw [e1, if_neg (by omega), if_neg (by omega)]
    · rw [e1, if_neg (by omega), if_neg (by omega)]
    · rw [e1, if_neg (by omega), if_neg (by omega)]; exact Nat.le_refl _
  have el : ∀ n, lvz (zlk zR 1 m w) n = lvz zR n := fun n => by unfold lvz; rw [e1, if_neg (by omega), if_neg (by omega)]
  have s2 := seg_zlk (c := 2) (i := z 30 4) (j := zR 30 4) (a := z 30 3) (b := zR 30 3) s1 sR1 (Or.inl ⟨rfl, rfl⟩) ⟨Nat.le_refl _, by omega, Nat.le_refl _, Nat.le_refl _⟩ ⟨Nat.le_refl _, by omega, Nat.le_refl _, Nat.le_refl _⟩ (Or.inr (Or.inl rfl)) (by rw [el, el]; exact lv2) (by rw [e1, if_neg (by omega), if_neg (by omega)]; omega) (fun _ => by rw [e1, if_neg (by omega), if_neg (by omega)]; exact n12)
  have e2 : ∀ u v, z' u v = if u = 5 ∧ v = r then m else if u = 2 ∧ v = m then r else if u = 5 ∧ v = w then m else if u = 1 ∧ v = m then w else zR u v := fun _ _ => rfl
  have rtL : RT zL z' (z 30 0) m w := fun c n c1 h1 h2 h3 => by
    rw [e2, if_neg (by omega), if_neg (by omega), if_neg (by omega), if_neg (by omega)]
    exact wLR.2.1 c n c1 h2
  have rtR : RT zR z' (m + 1) (zR 30 0) r := fun c n c1 h1 h2 h3 => by
    rw [e2, if_neg (by omega), if_neg (by omega), if_neg (by omega), if_neg (by omega)]
  rw [A0] at cR' aR sR
  have em : ∀ c, c ≠ 1 → c ≠ 2 → c ≠ 5 → z' c m = zR c m := fun c c1 c2 c3 => by rw [e2, if_neg (by omega), if_neg (by omega), if_neg (by omega), if_neg (by omega)]
  refine ⟨⟨?_, ?_, s2, ?_, ?_, ?_, ?_⟩, ?_, ?_, ?_, ?_, ?_⟩
  · exact wq_zlk (wq_zlk (wL.tr wLR) (by decide) mz hwm.1) (by decide) mz (by omega)
  · exact ⟨by show z 30 4 < zR 30 4; omega, q2, by show zR 30 0 + z 30 3 = z 30 0 + zR 30 3; omega, q4, by show zR 30 6 = z 30 6; omega, by show z 30 5 ≤ zR 30 5; omega, q7, by show zR 30 2 = z 30 1 + zR 30 5; have := wL.1.2.2.2.2; omega⟩
  · refine adj_app (mid := m) (adj_rt aL rtL) (adj_app (mid := m + 1) adj_one (adj_rt aR rtR) (fun _ hb => ?_)) (fun ha _ => ?_)
    · rw [Nat.add_sub_cancel]
      have hn1 := (sR.2.2.1 (m + 1) (Nat.le_refl _) hb).1
      have e8 : z' 8 (m + 1) = zR 8 (m + 1) := rtR 8 (m + 1) (by decide) (Nat.le_refl _) hb (Or.inr ⟨by decide, by decide, by decide, by decide⟩)
      have e0 : z' 0 (m + 1) = zR 0 (m + 1) := rtR 0 (m + 1) (by decide) (Nat.le_refl _) hb (Or.inr ⟨by decide, by decide, by decide, by decide⟩)
      unfold adj
      rw [em 8 (by decide) (by decide) (by decide), em 0 (by decide) (by decide) (by decide), n8, n0, e8, e0]
      rcases A4 with ⟨A4, k3⟩ | ⟨A4, k3⟩
      · by_cases s : zL 30 4 = zR 8 (m + 1)
        · refine Or.inr ⟨s, k3, ?_⟩
          have l5 : l = 5 := by rw [← lvkk, k3]; rfl
          have := fR (hc6 l5)
          rw [A0] at this
          exact this (by omega)
        · exact Or.inl (by omega)
      · exact Or.inl (by omega)
    · have e8 : z' 8 (m - 1) = zL 8 (m - 1) := rtL 8 (m - 1) (by decide) (by omega) (by omega) (Or.inr ⟨by decide, by decide, by decide, by decide⟩)
      have hn1 := (sL.2.2.1 (m - 1) (by omega) (by show m - 1 < m; omega)).1
      unfold adj
      rw [show m - 1 + 1 = m by omega, em 8 (by decide) (by decide) (by decide), n8, e8]
      exact Or.inl hn1.2.2.2
  · exact ⟨by rw [em 15 (by decide) (by decide) (by decide)]; exact n15, by rw [em 9 (by decide) (by decide) (by decide)]; exact n9, by rw [em 11 (by decide) (by decide) (by decide)]; exact n11⟩
  · show bal kd (z 30 4) (zR 30 4)
    rcases hk with ⟨-, h3, -, -⟩ | ⟨-, h8, h13, h5, -⟩
    · rcases A4 with ⟨A4, -⟩ | ⟨-, A4⟩
      · rw [A4] at bR; exact bal_tr bL bR
      · exact absurd h3 A4
    · rcases A4 with ⟨-, A4⟩ | ⟨A4, -⟩
      · omega
      · rw [A4] at bR
        exact bal_tr bL (bal_tr (bal_t (by omega) (by omega) (by omega) (by omega) (by omega)) bR)
  · intro t ht
    show zR 33 t = z 33 t
    rw [gR t (by omega), A _ _ (Or.inl (by decide)), ← gL t ht]
    rw [zk_e, if_neg (by omega), if_neg (by omega), if_neg (by omega), if_neg (by omega), if_neg (by omega)]
  · intro n h1 h2 h3
    by_cases s : n < m
    · exact chq_rt (cL n h1 s) ⟨h1, s, by omega⟩ rtL sL.2.1 ⟨Nat.le_refl _, by show m ≤ zR 30 0; omega⟩
    · exact chq_rt (cR' n (by omega) h2) ⟨by omega, h2, m400⟩ rtR sR.2.1 ⟨by omega, Nat.le_refl _⟩
  · refine ⟨by rw [em 0 (by decide) (by decide) (by decide)]; exact n0, ?_, ?_, by rw [em 3 (by decide) (by decide) (by decide)]; exact n3, hwm.1, hwm.2.1, by omega, hrm.2.1, rfl⟩
    · rw [e2, if_neg (by omega), if_neg (by omega), if_neg (by omega), if_pos ⟨rfl, rfl⟩]
    · rw [e2, if_neg (by omega), if_pos ⟨rfl, rfl⟩]
  · rw [e2, if_pos ⟨rfl, rfl⟩]
  · intro n h1 h2 h3
    rw [e2, if_neg (by omega), if_neg (by omega), if_neg (by omega), if_neg (by omega)]
    have := sR.2.2.2.1 n (by omega) h2 h3
    exact ⟨by omega, this.2.1⟩
  · intro n h1 h2
    by_cases s : n = w
    · rw [e2, if_neg (by omega), if_neg (by omega), if_pos ⟨rfl, s⟩]; exact Nat.le_refl _
    · rw [e2, if_neg (by omega), if_neg (by omega), if_neg (by omega), if_neg (by omega)]
      rw [wLR.2.1 5 n (by decide) h2]
      have := sL.2.2.2.1 n h1 h2 s
      have h4 : zL 5 n < m := this.2.1
      omega
end RUN
