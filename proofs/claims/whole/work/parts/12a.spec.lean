/-! ===== the grammar as a pure program =====
columns of z: nodes 0 kind, 1 2 3 parts, 4 meaning, 5 parent, 6 number in the reference's draft, 7 place, 8 token, 9 token ahead of it, 10 scope, 11 next element, 12 last node of the argument, 13 in brackets, 14 declaration, 15 level; declarations 16 binder, 17 inners, 18 body; binders 20 token, 21 outer, 22 sort, 23 declaration; 30: 0 nodes, 1 declarations, 2 binders, 3 counted nodes, 4 token, 5 inners, 6 scope; 31 draft number to node; 32 33 34 token to node, call, what stands behind it -/
abbrev Zt : Type := Nat → Nat → Nat
abbrev Rs : Type := Nat ⊕ (Nat × Zt)
def zu (z : Zt) (c n v : Nat) : Zt := fun a b => if a = c ∧ b = n then v else z a b
def rb (x : Rs) (g : Nat → Zt → Rs) : Rs := match x with
  | .inl t => .inl t
  | .inr q => g q.1 q.2
/-- the level of an operator -/
def lvo (k : Nat) : Nat := if k = 8 then 1 else if k = 9 ∨ k = 10 then 2 else if k = 11 then 3 else if k = 12 ∨ k = 13 then 4 else 0
def lvk (k : Nat) : Nat := if k = 4 ∨ k = 5 then 0 else if k = 3 then 5 else if 8 ≤ k then lvo k else 6
def bga (k : Nat) : Bool := decide (k = 0 ∨ k = 1 ∨ k = 2 ∨ k = 6 ∨ k = 7)
def zcol (pl : Nat → Nat) (z : Zt) (k d μ c : Nat) : Nat := if c = 0 then k else if c = 6 then μ else if c = 7 then pl (z 30 4) else if c = 8 then z 30 4 else if c = 10 then z 30 6 else if c = 13 then 0 else if c = 14 then z 30 1 - 1 else if c = 15 then 8 * d + lvk k else 1000
/-- a counted node -/
def zk (pl : Nat → Nat) (z : Zt) (k d : Nat) : Zt := fun c n => if c < 16 ∧ n = z 30 0 then zcol pl z k d (z 30 3) c else if c = 30 ∧ n = 0 then z 30 0 + 1 else if c = 30 ∧ n = 3 then z 30 3 + 1 else if c = 31 ∧ n = z 30 3 then z 30 0 else if c = (if k = 3 then 33 else 32) ∧ n = z 30 4 then z 30 0 else z c n
/-- a pair's node, counted later -/
def zp (pl : Nat → Nat) (z : Zt) (d : Nat) : Zt := fun c n => if c < 16 ∧ n = z 30 0 then zcol pl z 6 d 1000 c else if c = 30 ∧ n = 0 then z 30 0 + 1 else if c = 32 ∧ n = z 30 4 then z 30 0 else z c n
def zc (z : Zt) (m : Nat) : Zt := fun c n => if c = 6 ∧ n = m then z 30 3 else if c = 30 ∧ n = 3 then z 30 3 + 1 else if c = 31 ∧ n = z 30 3 then m else z c n
def adv (z : Zt) : Zt := zu z 30 4 (z 30 4 + 1)
/-- a binder behind a declaration's name or a lambda, and the next token -/
def zbn (z : Zt) (s : Nat) : Zt := fun c n => if c = 20 ∧ n = z 30 2 then z 30 4 else if c = 21 ∧ n = z 30 2 then z 30 6 else if c = 22 ∧ n = z 30 2 then s else if c = 23 ∧ n = z 30 2 then z 30 1 - 1 else if c = 30 ∧ n = 2 then z 30 2 + 1 else if c = 30 ∧ n = 5 then z 30 5 + 1 else if c = 30 ∧ n = 6 then 11 + z 30 2 else if c = 30 ∧ n = 4 then z 30 4 + 1 else z c n
/-- a declaration's name, and the next token -/
def zd (z : Zt) : Zt := fun c n => if c = 16 ∧ n = z 30 1 then z 30 2 else if c = 17 ∧ n = z 30 1 then 0 else if c = 18 ∧ n = z 30 1 then 1000 else if c = 20 ∧ n = z 30 2 then z 30 4 else if c = 21 ∧ n = z 30 2 then 1000 else if c = 22 ∧ n = z 30 2 then 0 else if c = 23 ∧ n = z 30 2 then z 30 1 else if c = 30 ∧ n = 1 then z 30 1 + 1 else if c = 30 ∧ n = 2 then z 30 2 + 1 else if c = 30 ∧ n = 4 then z 30 4 + 1 else if c = 30 ∧ n = 6 then 1000 else if c = 32 ∧ n = z 30 4 then 2000 + z 30 1 else z c n
/-- v becomes a part of n -/
def zlk (z : Zt) (c n v : Nat) : Zt := zu (zu z c n v) 5 v n
/-- the token t stands ahead of v -/
def zj (z : Zt) (v t : Nat) : Zt := zu (zu z 9 v t) 34 t v
section SPEC
variable (kd pl : Nat → Nat) (pr : Nat → Bool)
def flt (z : Zt) : Rs := .inl (pl (z 30 4))
def zla (z : Zt) (d : Nat) : Zt := adv (zu (zbn (adv (zk pl z 4 d)) 2) 4 (z 30 0) (11 + z 30 2))
def sLam (rec : Nat → Nat → Zt → Rs) (d : Nat) (z : Zt) : Rs :=
  if 20 ≤ d ∨ 80 ≤ z 30 3 then flt pl z
  else if kd (z 30 4 + 1) ≠ 0 ∨ 16 ≤ z 30 5 then .inl (pl (z 30 4 + 1))
  else if kd (z 30 4 + 2) ≠ 16 then .inl (pl (z 30 4 + 2))
  else rb (rec 0 (d + 1) (zla pl z d)) fun r z1 => .inr (z 30 0, zu (zlk z1 1 (z 30 0) r) 30 6 (z 30 6))
def zif (z1 z2 z3 : Zt) (n r1 r2 r3 : Nat) : Zt := zlk (zlk (zlk (zj (zj z3 r2 (z1 30 4)) r3 (z2 30 4)) 1 n r1) 2 n r2) 3 n r3
def sIf (rec : Nat → Nat → Zt → Rs) (d : Nat) (z : Zt) : Rs :=
  if 20 ≤ d ∨ 80 ≤ z 30 3 then flt pl z
  else rb (rec 0 (d + 1) (adv (zk pl z 5 d))) fun r1 z1 => if kd (z1 30 4) ≠ 20 then flt pl z1
    else rb (rec 0 (d + 1) (adv z1)) fun r2 z2 => if kd (z2 30 4) ≠ 21 then flt pl z2
      else rb (rec 0 (d + 1) (adv z2)) fun r3 z3 => .inr (z 30 0, zif z1 z2 z3 (z 30 0) r1 r2 r3)
def sE (rec : Nat → Nat → Zt → Rs) (d : Nat) (z : Zt) : Rs := if kd (z 30 4) = 4 then sLam kd pl rec d z else if kd (z 30 4) = 5 then sIf kd pl rec d z else rec 1 d z
def lpL (rec : Nat → Nat → Zt → Rs) (l d : Nat) : Nat → Nat → Zt → Rs
  | 0, w, z => .inr (w, z)
  | m + 1, w, z => if lvo (kd (z 30 4)) ≠ l then .inr (w, z) else if 80 ≤ z 30 3 then flt pl z
    else rb (rec (l + 1) d (adv (zk pl z (kd (z 30 4)) d))) fun r z1 => lpL rec l d m (z 30 0) (zlk (zlk z1 1 (z 30 0) w) 2 (z 30 0) r)
def sTst (rec : Nat → Nat → Zt → Rs) (d : Nat) (z0 : Zt) : Rs :=
  rb (rec 3 d z0) fun w z => if lvo (kd (z 30 4)) ≠ 2 then .inr (w, z) else if 80 ≤ z 30 3 then flt pl z
    else rb (rec 3 d (adv (zk pl z (kd (z 30 4)) d))) fun r z1 => .inr (z 30 0, zlk (zlk z1 1 (z 30 0) w) 2 (z 30 0) r)
def rwL (rec : Nat → Nat → Zt → Rs) (d : Nat) : Nat → Zt → Rs
  | 0, z => .inl 0
  | m + 1, z0 => rb (rec 4 d z0) fun w z => if kd (z 30 4) ≠ 11 then .inr (w, z) else if 80 ≤ z 30 3 then flt pl z
    else rb (rwL rec d m (adv (zk pl z 11 d))) fun r z1 => .inr (z 30 0, zlk (zlk z1 1 (z 30 0) w) 2 (z 30 0) r)
def lpC (rec : Nat → Nat → Zt → Rs) (d : Nat) : Nat → Nat → Zt → Rs
  | 0, w, z => .inr (w, z)
  | m + 1, w, z => if bga (kd (z 30 4)) = false then .inr (w, z) else if 80 ≤ z 30 3 then flt pl z
    else rb (rec 6 d (zk pl z 3 d)) fun r z1 => lpC rec d m (z 30 0) (zu (zlk (zlk z1 1 (z 30 0) w) 2 (z 30 0) r) 12 (z 30 0) (z1 30 0 - 1))
def zpr (z2 : Zt) (n r r2 : Nat) : Zt := adv (zlk (zlk z2 1 n r) 2 n r2)
def sGrp (rec : Nat → Nat → Zt → Rs) (d : Nat) (z : Zt) : Rs :=
  if 20 ≤ d then flt pl z
  else if pr (z 30 4) = true then rb (rec 0 (d + 1) (adv (zp pl z d))) fun r z1 => if kd (z1 30 4) ≠ 19 ∨ 80 ≤ z1 30 3 then flt pl z1
    else rb (rec 0 (d + 1) (adv (zc z1 (z 30 0)))) fun r2 z2 => if kd (z2 30 4) ≠ 17 then flt pl z2 else .inr (z 30 0, zpr z2 (z 30 0) r r2)
  else rb (rec 0 (d + 1) (adv z)) fun r z1 => if kd (z1 30 4) ≠ 17 then flt pl z1 else .inr (r, adv (zu z1 13 r 1))
/-- an element behind the last one of a list -/
def zel (z1 : Zt) (n la jo r : Nat) : Zt := zu (zj (if la = 1000 then zu z1 1 n r else zu z1 11 la r) r jo) 5 r n
def lpE (rec : Nat → Nat → Zt → Rs) (n d : Nat) : Nat → Nat → Nat → Zt → Rs
  | 0, _, _, _ => .inl 0
  | m + 1, la, jo, z => rb (rec 0 (d + 1) z) fun r z1 => if kd (z1 30 4) = 19 then lpE rec n d m r (z1 30 4) (adv (zel z1 n la jo r))
    else if kd (z1 30 4) ≠ 18 then flt pl z1 else .inr (n, adv (zel z1 n la jo r))
def sLst (rec : Nat → Nat → Zt → Rs) (d : Nat) (z : Zt) : Rs :=
  if 20 ≤ d ∨ 80 ≤ z 30 3 then flt pl z
  else if kd (z 30 4 + 1) = 18 then .inr (z 30 0, adv (adv (zk pl z 7 d)))
  else lpE kd pl rec (z 30 0) d 242 1000 (z 30 4) (adv (zk pl z 7 d))
def sA (rec : Nat → Nat → Zt → Rs) (d : Nat) (z : Zt) : Rs :=
  if kd (z 30 4) ≤ 2 then (if 80 ≤ z 30 3 then flt pl z else .inr (z 30 0, adv (zk pl z (kd (z 30 4)) d)))
  else if kd (z 30 4) = 6 then sGrp kd pl pr rec d z else if kd (z 30 4) = 7 then sLst kd pl rec d z else flt pl z
def ps : Nat → Nat → Nat → Zt → Rs
  | 0, _, _, _ => .inl 0
  | f + 1, c, d, z => if c = 0 then sE kd pl (ps f) d z else if c = 1 then rb (ps f 2 d z) (lpL kd pl (ps f) 1 d 242) else if c = 2 then sTst kd pl (ps f) d z else if c = 3 then rwL kd pl (ps f) d 243 z else if c = 4 then rb (ps f 5 d z) (lpL kd pl (ps f) 4 d 242) else if c = 5 then rb (ps f 6 d z) (lpC kd pl (ps f) d 242) else sA kd pl pr (ps f) d z
def lpP : Nat → Zt → Rs
  | 0, z => .inl 0
  | m + 1, z => if kd (z 30 4) ≠ 0 then .inr (0, z) else if 16 ≤ z 30 5 then flt pl z else lpP m (zbn z 1)
def sD (f : Nat) (z : Zt) : Rs :=
  if kd (z 30 4) ≠ 0 ∨ 6 ≤ z 30 1 then flt pl z
  else rb (lpP kd pl 18 (zd z)) fun _ z1 => if kd (z1 30 4) ≠ 15 then flt pl z1
    else rb (ps kd pl pr f 0 0 (adv (zu z1 17 (z 30 1) (z1 30 2 - 1 - z1 16 (z 30 1))))) fun r z2 => .inr (r, zu z2 18 (z 30 1) r)
def sT (f : Nat) : Nat → Zt → Rs
  | 0, z => .inl 0
  | m + 1, z => rb (sD kd pl pr f z) fun _ z1 => if kd (z1 30 4) = 14 then sT f m (adv z1) else if kd (z1 30 4) = 22 then .inr (0, z1) else flt pl z1
end SPEC
