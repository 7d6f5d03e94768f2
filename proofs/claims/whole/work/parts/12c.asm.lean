/-! ===== parts put together ===== -/
def adj (z : Zt) (n : Nat) : Prop := z 8 n < z 8 (n + 1) ∨ (z 8 n = z 8 (n + 1) ∧ z 0 n = 3 ∧ z 0 (n + 1) ≠ 3)
def ADJ (z : Zt) (lo hi : Nat) : Prop := ∀ n, lo ≤ n → n + 1 < hi → adj z n
def chq (kd : Nat → Nat) (z : Zt) (lo hi n : Nat) : Prop := (if 3 ≤ z 0 n ∧ z 0 n ≠ 7 then lo ≤ z 1 n ∧ z 1 n < hi else (z 0 n ≠ 7 → z 1 n = 1000)) ∧ (if 3 ≤ z 0 n ∧ z 0 n ≠ 7 ∧ z 0 n ≠ 4 then lo ≤ z 2 n ∧ z 2 n < hi else z 2 n = 1000) ∧ (if z 0 n = 5 then (lo ≤ z 3 n ∧ z 3 n < hi) ∧ (z 5 (z 2 n) = n ∧ z 9 (z 2 n) < 1000 ∧ kd (z 9 (z 2 n)) = 20) ∧ (z 5 (z 3 n) = n ∧ z 9 (z 3 n) < 1000 ∧ kd (z 9 (z 3 n)) = 21) else z 3 n = 1000) ∧ (z 0 n = 3 → z 12 n < 1000)
def CHD (kd : Nat → Nat) (z : Zt) (lo hi : Nat) : Prop := ∀ n, lo ≤ n → n < hi → chq kd z lo hi n
/-- only the root's own ties change -/
def RT (z z' : Zt) (lo hi r : Nat) : Prop := ∀ c n, c < 16 → lo ≤ n → n < hi → (n ≠ r ∨ (c ≠ 5 ∧ c ≠ 9 ∧ c ≠ 11 ∧ c ≠ 13)) → z' c n = z c n
section ASM
variable {kd pl : Nat → Nat} {z z' : Zt} {lo mid hi x y p q r i j i1 j1 i2 j2 a b a1 b1 a2 b2 m w n lo' hi' : Nat}
theorem chq_rt (h : chq kd z lo' hi' n) (hn : lo' ≤ n ∧ n < hi' ∧ hi' ≤ 400) (rt : RT z z' lo' hi' r) (h5 : z 5 r = 1000) (hlo : lo ≤ lo' ∧ hi' ≤ hi) : chq kd z' lo hi n := by
  obtain ⟨h1, h2, h3, h4⟩ := h
  have g : ∀ c, c < 16 → c ≠ 5 → c ≠ 9 → c ≠ 11 → c ≠ 13 → z' c n = z c n := fun c c1 c2 c3 c4 c5 => rt c n c1 hn.1 hn.2.1 (Or.inr ⟨c2, c3, c4, c5⟩)
  have g0 := g 0 (by decide) (by decide) (by decide) (by decide) (by decide)
  have g1 := g 1 (by decide) (by decide) (by decide) (by decide) (by decide)
  have g2 := g 2 (by decide) (by decide) (by decide) (by decide) (by decide)
  have g3 := g 3 (by decide) (by decide) (by decide) (by decide) (by decide)
  have g12 := g 12 (by decide) (by decide) (by decide) (by decide) (by decide)
  unfold chq
  rw [g0, g1, g2, g3, g12]
  refine ⟨?_, ?_, ?_, h4⟩
  · split at h1
    · rename_i s; rw [if_pos s]; omega
    · rename_i s; rw [if_neg s]; exact h1
  · split at h2
    · rename_i s; rw [if_pos s]; omega
    · rename_i s; rw [if_neg s]; exact h2
  · split at h3
    · rename_i s
      rw [if_pos (by omega)] at h2
      rw [if_pos s]
      obtain ⟨t1, t2, t3⟩ := h3
      have r2 : z 2 n ≠ r := fun u => by rw [u, h5] at t2; omega
      have r3 : z 3 n ≠ r := fun u => by rw [u, h5] at t3; omega
      rw [rt 5 (z 2 n) (by decide) (by omega) (by omega) (Or.inl r2), rt 9 (z 2 n) (by decide) (by omega) (by omega) (Or.inl r2), rt 5 (z 3 n) (by decide) (by omega) (by omega) (Or.inl r3), rt 9 (z 3 n) (by decide) (by omega) (by omega) (Or.inl r3)]
      exact ⟨by omega, t2, t3⟩
    · rename_i s; rw [if_neg s]; exact h3
theorem adj_rt (h : ADJ z lo' hi') (rt : RT z z' lo' hi' r) : ADJ z' lo' hi' := fun n n1 n2 => by
  have e0 := rt 0 n (by decide) n1 (by omega) (Or.inr ⟨by decide, by decide, by decide, by decide⟩)
  have e1 := rt 0 (n + 1) (by decide) (by omega) n2 (Or.inr ⟨by decide, by decide, by decide, by decide⟩)
  have e2 := rt 8 n (by decide) n1 (by omega) (Or.inr ⟨by decide, by decide, by decide, by decide⟩)
  have e3 := rt 8 (n + 1) (by decide) (by omega) n2 (Or.inr ⟨by decide, by decide, by decide, by decide⟩)
  have := h n n1 n2
  unfold adj at this ⊢
  rw [e0, e1, e2, e3]
  exact this
theorem adj_app (h : ADJ z lo mid) (h2 : ADJ z mid hi) (hb : lo < mid → mid < hi → adj z (mid - 1)) : ADJ z lo hi := fun n n1 n2 => by
  by_cases s : n + 1 < mid
  · exact h n n1 s
  · by_cases s2 : n + 1 = mid
    · have := hb (by omega) (by omega)
      rw [← s2, Nat.add_sub_cancel] at this
      exact this
    · exact h2 n (by omega) n2
theorem adj_one : ADJ z n (n + 1) := fun k k1 k2 => by omega
theorem seg_one (h : ndp kd pl z i j a b n) (h5 : z 5 n = 1000) (h12 : z 0 n = 3 → z 12 n = 1000) (h7 : z 0 n = 7 → z 1 n = 1000) (hn : n < 400) : SEG kd pl z n (n + 1) n i j a b := by
  refine ⟨⟨Nat.le_refl _, by omega, by omega⟩, h5, fun k k1 k2 => ?_, fun k k1 k2 k3 => by omega, fun k k1 k2 k3 k4 => ?_, fun k k1 k2 k3 => ?_⟩
  · have e : k = n := by omega
    rw [e]; exact h
  · have e : k = n := by omega
    rw [e] at k3 k4
    have := h12 k3; omega
  · have e : k = n := by omega
    subst e
    refine ⟨[], h7 k3, List.Pairwise.nil, fun u hu => (by cases hu), fun u u1 u2 => ?_⟩
    have e : u = k := by omega
    subst e
    exact ⟨fun s => by omega, fun s => by cases s⟩
/-- q becomes part c of p -/
theorem seg_zlk {c : Nat} (h1 : SEG kd pl z lo mid x i1 j1 a1 b1) (h2 : SEG kd pl z mid hi y i2 j2 a2 b2) (hpq : (p = x ∧ q = y) ∨ (p = y ∧ q = x)) (hi1 : i ≤ i1 ∧ i ≤ i2 ∧ j1 ≤ j ∧ j2 ≤ j) (ha1 : a ≤ a1 ∧ a ≤ a2 ∧ b1 ≤ b ∧ b2 ≤ b) (hc : c = 1 ∨ c = 2 ∨ c = 3) (kl : lvz z p < lvz z q) (k7 : z 0 p ≠ 7) (k3 : z 0 p = 3 → z 12 p = 1000) : SEG kd pl (zlk z c p q) lo hi p i j a b := by
  have e : ∀ u v, zlk z c p q u v = if u = 5 ∧ v = q then p else if u = c ∧ v = p then q else z u v := fun u v => rfl
  have hq9 : z 9 q < 1000 → i ≤ z 9 q ∧ z 9 q < j ∧ z 34 (z 9 q) = q := fun s => by
    obtain ⟨⟨x1, x2, -⟩, -, xn, -⟩ := h1
    obtain ⟨⟨y1, y2, -⟩, -, yn, -⟩ := h2
    rcases hpq with ⟨-, rfl⟩ | ⟨-, rfl⟩
    · have := (yn q y1 y2).2.2.2.1 s; exact ⟨by omega, by omega, this.2.2⟩
    · have := (xn q x1 x2).2.2.2.1 s; exact ⟨by omega, by omega, this.2.2⟩
  refine seg_lnk h1 h2 hpq hi1 ha1 (fun u v s1 s2 s3 s4 s5 s6 s7 _ _ => ?_) (fun v _ _ s => ?_) ?_ (fun v _ _ s => ?_) ?_ (fun v _ => ?_) (fun v _ => ?_) (fun v _ _ _ _ => ?_) ?_ kl (fun v _ _ s s2 => ?_) (fun v _ _ s s2 => ?_) (fun v _ _ s s2 => ?_) (fun s => absurd s k7) k3
  · rw [e, if_neg (by omega), if_neg (by omega)]
  · rw [e, if_neg (by omega), if_neg (by omega)]
  · rw [e, if_pos ⟨rfl, rfl⟩]
  · rw [e, if_neg (by omega), if_neg (by omega)]
  · rw [e, if_neg (by omega), if_neg (by omega), e, if_neg (by omega), if_neg (by omega)]; exact hq9
  · rw [e, if_neg (by omega), if_neg (by omega)]
  · rw [e, if_neg (by omega), if_neg (by omega), e, if_neg (by omega), if_neg (by omega)]; exact ⟨rfl, rfl⟩
  · rw [e, if_neg (by omega), if_neg (by omega)]
  · rw [e, if_neg (by omega), if_neg (by omega), e, if_neg (by omega), if_neg (by omega)]; exact ⟨rfl, rfl⟩
  · rw [e, if_neg (by omega), if_neg (by omega)]
  · rw [e, if_neg (by omega), if_neg (by omega)]
  · rw [e, if_neg (by omega)]
    by_cases s3 : v = p
    · rw [s3] at s s2
      have := k3 s; omega
    · rw [if_neg (by omega)]
/-- the root's token ahead -/
theorem seg_zj {t : Nat} (h : SEG kd pl z lo hi r i1 j1 a b) (hi1 : i ≤ i1 ∧ j1 ≤ j) (ht : i ≤ t ∧ t < j) (ht2 : t < i1 ∨ j1 ≤ t) : SEG kd pl (zj z r t) lo hi r i j a b := by
  have e : ∀ u v, zj z r t u v = if u = 34 ∧ v = t then r else if u = 9 ∧ v = r then t else z u v := fun u v => rfl
  obtain ⟨⟨x1, x2, x3⟩, xr, xn, xp, xc, xl⟩ := h
  have e0 : ∀ c n, c < 16 → c ≠ 9 → zj z r t c n = z c n := fun c n c1 c2 => by rw [e, if_neg (by omega), if_neg (by omega)]
  have e15 : ∀ n, lvz (zj z r t) n = lvz z n := fun n => by unfold lvz; rw [e0 15 n (by decide) (by decide)]
  have e9 : ∀ n, n ≠ r → zj z r t 9 n = z 9 n := fun n hn => by rw [e, if_neg (by omega), if_neg (by omega)]
  refine ⟨⟨x1, x2, x3⟩, by rw [e0 5 r (by decide) (by decide)]; exact xr, fun n n1 n2 => ?_, fun n n1 n2 n3 => ?_, fun m m1 m2 m3 m4 => ?_, fun m m1 m2 m3 => ?_⟩
  · obtain ⟨⟨t1, t2, t3, t4⟩, ⟨t5, t6, t7⟩, t8, t9, t10⟩ := xn n n1 n2
    refine ⟨?_, ?_, ?_, ?_, ?_⟩
    · rw [e0 0 n (by decide) (by decide), e0 7 n (by decide) (by decide), e0 8 n (by decide) (by decide)]; exact ⟨t1, t2, by omega, by omega⟩
    · rw [e0 6 n (by decide) (by decide), e, if_neg (by omega), if_neg (by omega)]; exact ⟨t5, t6, t7⟩
    · have e33 : zj z r t 33 (z 8 n) = z 33 (z 8 n) := by rw [e, if_neg (by omega), if_neg (by omega)]
      have e32 : zj z r t 32 (z 8 n) = z 32 (z 8 n) := by rw [e, if_neg (by omega), if_neg (by omega)]
      rw [e0 0 n (by decide) (by decide), e0 8 n (by decide) (by decide), e33, e32]; exact t8
    · by_cases s : n = r
      · subst s
        have e1 : zj z n t 9 n = t := by rw [e, if_neg (by omega), if_pos ⟨rfl, rfl⟩]
        rw [e1]
        exact fun _ => ⟨ht.1, ht.2, by rw [e, if_pos ⟨rfl, rfl⟩]⟩
      · rw [e9 n s]
        intro s9
        have := t9 s9
        rw [e, if_neg (by omega), if_neg (by omega)]
        exact ⟨by omega, by omega, this.2.2⟩
    · rw [e0 0 n (by decide) (by decide), e0 4 n (by decide) (by decide), e0 10 n (by decide) (by decide), e0 14 n (by decide) (by decide), e, if_neg (by omega), if_neg (by omega), e, if_neg (by omega), if_neg (by omega)]; exact t10
  · rw [e0 5 n (by decide) (by decide), e15, e15]; exact xp n n1 n2 n3
  · rw [e0 0 m (by decide) (by decide)] at m3
    rw [e0 12 m (by decide) (by decide)] at m4
    obtain ⟨w1, w2, w3, w4, w5⟩ := xc m m1 m2 m3 m4
    refine ⟨by rw [e0 12 m (by decide) (by decide)]; exact w1, by rw [e0 2 m (by decide) (by decide)]; exact w2, by rw [e0 2 m (by decide) (by decide), e0 12 m (by decide) (by decide)]; exact w3, by rw [e0 2 m (by decide) (by decide), e0 5 _ (by decide) (by decide)]; exact w4, fun k k1 k2 => ?_⟩
    rw [e0 12 m (by decide) (by decide), e0 2 m (by decide) (by decide), e0 5 k (by decide) (by decide)]; exact w5 k k1 k2
  · rw [e0 0 m (by decide) (by decide)] at m3
    obtain ⟨es, f1, f2, f3, f4⟩ := xl m m1 m2 m3
    refine ⟨es, ?_, f2, fun k hk => ?_, fun k k1 k2 => ?_⟩
    · rw [e0 1 m (by decide) (by decide)]
      exact chn_congr (fun k _ => e0 11 k (by decide) (by decide)) f1
    · have := f3 k hk
      have kr : k ≠ r := fun u => by
        have h5 := (f4 k this.1 this.2.1).mpr hk
        rw [u, xr] at h5; omega
      rw [e9 k kr]; exact this
    · rw [e0 5 k (by decide) (by decide)]; exact f4 k k1 k2
/-- where a call's argument ends -/
theorem seg_end (h : SEG kd pl z lo hi m i j a b) (h3 : z 0 m = 3) (hr : m < z 2 m ∧ z 2 m < hi ∧ z 5 (z 2 m) = m) (hR : ∀ k, m < k → k < hi → k ≠ z 2 m → m < z 5 k ∧ z 5 k < hi) (hL : ∀ k, lo ≤ k → k < m → z 5 k ≤ m) : SEG kd pl (zu z 12 m (hi - 1)) lo hi m i j a b := by
  have e : ∀ u v, zu z 12 m (hi - 1) u v = if u = 12 ∧ v = m then hi - 1 else z u v := fun u v => rfl
  obtain ⟨⟨x1, x2, x3⟩, xr, xn, xp, xc, xl⟩ := h
  have e0 : ∀ c n, c ≠ 12 → zu z 12 m (hi - 1) c n = z c n := fun c n c1 => by rw [e, if_neg (by omega)]
  have e15 : ∀ n, lvz (zu z 12 m (hi - 1)) n = lvz z n := fun n => by unfold lvz; rw [e0 15 n (by decide)]
  refine ⟨⟨x1, x2, x3⟩, by rw [e0 5 m (by decide)]; exact xr, fun n n1 n2 => ?_, fun n n1 n2 n3 => ?_, fun k k1 k2 k3 k4 => ?_, fun k k1 k2 k3 => ?_⟩
  · have := xn n n1 n2
    unfold ndp at this ⊢
    simp only [e0 0 _ (by decide), e0 7 _ (by decide), e0 8 _ (by decide), e0 6 _ (by decide), e0 31 _ (by decide), e0 33 _ (by decide), e0 32 _ (by decide), e0 9 _ (by decide), e0 34 _ (by decide), e0 14 _ (by decide), e0 10 _ (by decide), e0 4 _ (by decide), e0 30 _ (by decide)]
    exact this
  · rw [e0 5 n (by decide), e15, e15]; exact xp n n1 n2 n3
  · by_cases s : k = m
    · subst s
      have e12 : zu z 12 k (hi - 1) 12 k = hi - 1 := by rw [e, if_pos ⟨rfl, rfl⟩]
      unfold crm
      rw [e12, e0 2 k (by decide), e0 5 _ (by decide)]
      refine ⟨by omega, hr.1, by omega, hr.2.2, fun v v1 v2 => ?_⟩
      rw [e0 5 v (by decide)]
      refine ⟨fun u1 u2 u3 => by have := hR v u1 v2 u3; omega, fun u1 u2 => ?_⟩
      by_cases t : v < k
      · have := hL v v1 t; omega
      · by_cases t2 : v = k
        · rw [t2, xr] at u2; omega
        · omega
    · rw [e0 0 k (by decide)] at k3
      rw [e, if_neg (by omega)] at k4
      have := xc k k1 k2 k3 k4
      unfold crm at this ⊢
      have e12 : zu z 12 m (hi - 1) 12 k = z 12 k := by rw [e, if_neg (by omega)]
      simp only [e12, e0 2 _ (by decide), e0 5 _ (by decide)]
      exact this
  · rw [e0 0 k (by decide)] at k3
    obtain ⟨es, f1, f2, f3, f4⟩ := xl k k1 k2 k3
    refine ⟨es, ?_, f2, fun v hv => ?_, fun v v1 v2 => ?_⟩
    · rw [e0 1 k (by decide)]
      exact chn_congr (fun v _ => e0 11 v (by decide)) f1
    · rw [e0 9 v (by decide)]; exact f3 v hv
    · rw [e0 5 v (by decide)]; exact f4 v v1 v2
/-- in brackets -/
theorem seg_13 {v : Nat} (h : SEG kd pl z lo hi r i j a b) : SEG kd pl (zu z 13 r v) lo hi r i j a b := by
  have e0 : ∀ c n, c ≠ 13 → zu z 13 r v c n = z c n := fun c n c1 => if_neg (by omega)
  obtain ⟨⟨x1, x2, x3⟩, xr, xn, xp, xc, xl⟩ := h
  have e15 : ∀ n, lvz (zu z 13 r v) n = lvz z n := fun n => by unfold lvz; rw [e0 15 n (by decide)]
  refine ⟨⟨x1, x2, x3⟩, by rw [e0 5 r (by decide)]; exact xr, fun n n1 n2 => ?_, fun n n1 n2 n3 => ?_, fun k k1 k2 k3 k4 => ?_, fun k k1 k2 k3 => ?_⟩
  · have := xn n n1 n2
    unfold ndp at this ⊢
    simp only [e0 0 _ (by decide), e0 7 _ (by decide), e0 8 _ (by decide), e0 6 _ (by decide), e0 31 _ (by decide), e0 33 _ (by decide), e0 32 _ (by decide), e0 9 _ (by decide), e0 34 _ (by decide), e0 14 _ (by decide), e0 10 _ (by decide), e0 4 _ (by decide), e0 30 _ (by decide)]
    exact this
  · rw [e0 5 n (by decide), e15, e15]; exact xp n n1 n2 n3
  · rw [e0 0 k (by decide)] at k3
    rw [e0 12 k (by decide)] at k4
    have := xc k k1 k2 k3 k4
    unfold crm at this ⊢
    simp only [e0 12 _ (by decide), e0 2 _ (by decide), e0 5 _ (by decide)]
    exact this
  · rw [e0 0 k (by decide)] at k3
    obtain ⟨es, f1, f2, f3, f4⟩ := xl k k1 k2 k3
    refine ⟨es, ?_, f2, fun v hv => ?_, fun v v1 v2 => ?_⟩
    · rw [e0 1 k (by decide)]
      exact chn_congr (fun v _ => e0 11 v (by decide)) f1
    · rw [e0 9 v (by decide)]; exact f3 v hv
    · rw [e0 5 v (by decide)]; exact f4 v v1 v2
theorem chn_app {r la : Nat} : ∀ {es : List Nat} {x : Nat}, es.Pairwise (fun x y => x < y) → chn z x es → es.getLast? = some la → (∀ e, e ∈ es → e ≠ la → z' 11 e = z 11 e) → z' 11 la = r → z' 11 r = 1000 → chn z' x (es ++ [r])
  | [], _, _, _, h, _, _, _ => by cases h
  | [e], x, _, h, hl, _, h1, h2 => by
    have e1 : e = la := by simpa using hl
    subst e1
    exact ⟨h.1, h1, h2⟩
  | e :: e2 :: es, x, hp, h, hl, hk, h1, h2 => by
    have hl2 : (e2 :: es).getLast? = some la := by rw [List.getLast?_cons_cons] at hl; exact hl
    have hmem : la ∈ e2 :: es := List.mem_of_getLast? hl2
    have hlt := (List.pairwise_cons.mp hp).1 la hmem
    refine ⟨h.1, ?_⟩
    rw [hk e List.mem_cons_self (by omega)]
    exact chn_app (List.pairwise_cons.mp hp).2 h.2 hl2 (fun q hq => hk q (List.mem_cons_of_mem _ hq)) h1 h2
end ASM
