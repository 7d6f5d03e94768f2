/-! ===== A LIGHT MACHINE: resolved code over a typed memory. Memory: (number of cells, slots used, shape of each cell), ints, longs, references; a reference is the cell's number ===== -/
abbrev lm_S : Type := Nat × Nat × (Nat → Nat × Nat)
abbrev lm_I : Type := Nat → Nat → Int32
abbrev lm_L : Type := Nat → Nat → Int64
abbrev lm_R : Type := Nat → Nat → Value
abbrev lm_M : Type := lm_S × lm_I × lm_L × lm_R
abbrev lm_C : Type := List (Nat × Instr)
abbrev lm_O : Type := Option ((lm_C × List Value × List Value × lm_M) ⊕ ((Option Value × lm_M) ⊕ (Nat × List Value × lm_C × List Value × List Value × lm_M)))
def lm_nx (c : lm_C) (ls st : List Value) (M : lm_M) : lm_O := some (.inl (c, ls, st, M))
def lm_up {α : Type} (f : Nat → Nat → α) (o k : Nat) (x : α) : Nat → Nat → α := fun a b => if a = o then (if b = k then x else f a b) else f a b
def lm_z {α : Type} (f : Nat → Nat → α) (o : Nat) (x : α) : Nat → Nat → α := fun a b => if a = o then x else f a b
def lm_us (f : Nat → Nat × Nat) (o : Nat) (x : Nat × Nat) : Nat → Nat × Nat := fun a => if a = o then x else f a
/-- the special cells (constants of the class files) are numbered from here on -/
abbrev lm_B : Nat := 1000000
def lm_ldI (k : Nat) (c : lm_C) (ls st : List Value) (M : lm_M) : lm_O := match ls[k]? with
  | some (.int x) => lm_nx c ls (.int x :: st) M
  | _ => none
def lm_ldL (k : Nat) (c : lm_C) (ls st : List Value) (M : lm_M) : lm_O := match ls[k]? with
  | some (.long x) => lm_nx c ls (.long x :: st) M
  | _ => none
def lm_ldA (k : Nat) (c : lm_C) (ls st : List Value) (M : lm_M) : lm_O := match ls[k]? with
  | some (.ref x) => lm_nx c ls (.ref x :: st) M
  | _ => none
/-- the entry ahead of place i, if it holds a long, is gone when i is written -/
def lm_cut (ls : List Value) (i : Nat) : List Value := match i with
  | 0 => ls
  | j + 1 => match ls[j]? with
    | some (.long _) => ls.set j .null
    | _ => ls
def lm_set1 (ls : List Value) (i : Nat) (v : Value) : List Value := (lm_cut ls i).set i v
def lm_set2 (ls : List Value) (i : Nat) (v : Value) : List Value := ((lm_cut ls i).set i v).set (i + 1) .null
def lm_stI (k : Nat) (c : lm_C) (ls st : List Value) (M : lm_M) : lm_O := match st with
  | .int x :: st => if k < ls.length then lm_nx c (lm_set1 ls k (.int x)) st M else none
  | _ => none
def lm_stA (k : Nat) (c : lm_C) (ls st : List Value) (M : lm_M) : lm_O := match st with
  | .ref x :: st => if k < ls.length then lm_nx c (lm_set1 ls k (.ref x)) st M else none
  | _ => none
def lm_stL (k : Nat) (c : lm_C) (ls st : List Value) (M : lm_M) : lm_O := match st with
  | .long x :: st => if k + 1 < ls.length then lm_nx c (lm_set2 ls k (.long x)) st M else none
  | _ => none
def lm_iinc (k : Nat) (n : Int) (c : lm_C) (ls st : List Value) (M : lm_M) : lm_O := match ls[k]? with
  | some (.int x) => lm_nx c (lm_set1 ls k (.int (x + Int32.ofInt n))) st M
  | _ => none
def lm_bin (f : Int32 → Int32 → Int32) (c : lm_C) (ls st : List Value) (M : lm_M) : lm_O := match st with
  | .int y :: .int x :: st => lm_nx c ls (.int (f x y) :: st) M
  | _ => none
def lm_div (f : Int32 → Int32 → Int32) (c : lm_C) (ls st : List Value) (M : lm_M) : lm_O := match st with
  | .int y :: .int x :: st => if y = 0 then none else lm_nx c ls (.int (f x y) :: st) M
  | _ => none
def lm_binL (f : Int64 → Int64 → Int64) (c : lm_C) (ls st : List Value) (M : lm_M) : lm_O := match st with
  | .long y :: .long x :: st => lm_nx c ls (.long (f x y) :: st) M
  | _ => none
def lm_shL (f : Int64 → Int32 → Int64) (c : lm_C) (ls st : List Value) (M : lm_M) : lm_O := match st with
  | .int y :: .long x :: st => lm_nx c ls (.long (f x y) :: st) M
  | _ => none
def lm_cmpL (c : lm_C) (ls st : List Value) (M : lm_M) : lm_O := match st with
  | .long y :: .long x :: st => lm_nx c ls (.int (lg_cmp x y) :: st) M
  | _ => none
def lm_un (f : Int32 → Value) (c : lm_C) (ls st : List Value) (M : lm_M) : lm_O := match st with
  | .int x :: st => lm_nx c ls (f x :: st) M
  | _ => none
def lm_unL (f : Int64 → Value) (c : lm_C) (ls st : List Value) (M : lm_M) : lm_O := match st with
  | .long x :: st => lm_nx c ls (f x :: st) M
  | _ => none
def lm_br1 (f : Int32 → Bool) (J : Nat → lm_C) (t : Int) (c : lm_C) (ls st : List Value) (M : lm_M) : lm_O := match st with
  | .int x :: st => if f x = true then lm_nx (J t.toNat) ls st M else lm_nx c ls st M
  | _ => none
def lm_br2 (f : Int32 → Int32 → Bool) (J : Nat → lm_C) (t : Int) (c : lm_C) (ls st : List Value) (M : lm_M) : lm_O := match st with
  | .int y :: .int x :: st => if f x y = true then lm_nx (J t.toNat) ls st M else lm_nx c ls st M
  | _ => none
def lm_tab (J : Nat → lm_C) (d lo hi : Int) (os : Array Int) (ls st : List Value) (M : lm_M) : lm_O := match st with
  | .int x :: st => if x.toInt < lo ∨ hi < x.toInt then lm_nx (J d.toNat) ls st M else
    match os.toList[(x.toInt - lo).toNat]? with
    | some t => lm_nx (J t.toNat) ls st M
    | none => none
  | _ => none
def lm_lku (d : Int) (x : Int) : List (Int × Int) → Int
  | [] => d
  | p :: ps => if p.1 = x then p.2 else lm_lku d x ps
def lm_lk (J : Nat → lm_C) (d : Int) (ps : Array (Int × Int)) (ls st : List Value) (M : lm_M) : lm_O := match st with
  | .int x :: st => lm_nx (J (lm_lku d x.toInt ps.toList).toNat) ls st M
  | _ => none
def lm_dup (c : lm_C) (ls st : List Value) (M : lm_M) : lm_O := match st with
  | v :: st => if v.category = 1 then lm_nx c ls (v :: v :: st) M else none
  | _ => none
def lm_pop1 (c : lm_C) (ls st : List Value) (M : lm_M) : lm_O := match st with
  | v :: st => if v.category = 1 then lm_nx c ls st M else none
  | _ => none
def lm_dup2 (c : lm_C) (ls st : List Value) (M : lm_M) : lm_O := match st with
  | v :: w :: st => if v.category = 1 ∧ w.category = 1 then lm_nx c ls (v :: w :: v :: w :: st) M else none
  | _ => none
/-- a field's number: ((class * 128 + place) * 8 + kind); kinds: 0 int, 1 long, 2 reference, 3 boolean -/
def lm_getf (r : Nat) (c : lm_C) (ls st : List Value) (M : lm_M) : lm_O := match st with
  | .ref o :: st => if (M.1.2.2 o).1 = r / 1024 then
      (match r % 8 with
      | 0 => lm_nx c ls (.int (M.2.1 o (r / 8 % 128)) :: st) M
      | 1 => lm_nx c ls (.long (M.2.2.1 o (r / 8 % 128)) :: st) M
      | 2 => lm_nx c ls (M.2.2.2 o (r / 8 % 128) :: st) M
      | 3 => lm_nx c ls (.int (M.2.1 o (r / 8 % 128)) :: st) M
      | _ => none) else none
  | _ => none
def lm_putf (r : Nat) (c : lm_C) (ls st : List Value) (M : lm_M) : lm_O := match st with
  | v :: .ref o :: st => if (M.1.2.2 o).1 = r / 1024 then
      (match r % 8, v with
      | 0, .int x => lm_nx c ls st (M.1, lm_up M.2.1 o (r / 8 % 128) x, M.2.2)
      | 1, .long x => lm_nx c ls st (M.1, M.2.1, lm_up M.2.2.1 o (r / 8 % 128) x, M.2.2.2)
      | 2, .ref x => lm_nx c ls st (M.1, M.2.1, M.2.2.1, lm_up M.2.2.2 o (r / 8 % 128) (.ref x))
      | 3, .int x => if x = 0 ∨ x = 1 then lm_nx c ls st (M.1, lm_up M.2.1 o (r / 8 % 128) x, M.2.2) else none
      | _, _ => none) else none
  | _ => none
/-- tags of arrays: 21 int, 22 long, 23 boolean, 24 byte; 30 a constant int array of the class files, 31 a String constant -/
def lm_ald (c : lm_C) (ls st : List Value) (M : lm_M) : lm_O := match st with
  | .int i :: .ref a :: st => if ((M.1.2.2 a).1 = 21 ∨ (M.1.2.2 a).1 = 30) ∧ ¬ (i < 0 ∨ (M.1.2.2 a).2 ≤ i.toNatClampNeg) then lm_nx c ls (.int (M.2.1 a i.toNatClampNeg) :: st) M else none
  | _ => none
def lm_bld (c : lm_C) (ls st : List Value) (M : lm_M) : lm_O := match st with
  | .int i :: .ref a :: st => if ((M.1.2.2 a).1 = 23 ∨ (M.1.2.2 a).1 = 24) ∧ ¬ (i < 0 ∨ (M.1.2.2 a).2 ≤ i.toNatClampNeg) then lm_nx c ls (.int (M.2.1 a i.toNatClampNeg) :: st) M else none
  | _ => none
def lm_lld (c : lm_C) (ls st : List Value) (M : lm_M) : lm_O := match st with
  | .int i :: .ref a :: st => if (M.1.2.2 a).1 = 22 ∧ ¬ (i < 0 ∨ (M.1.2.2 a).2 ≤ i.toNatClampNeg) then lm_nx c ls (.long (M.2.2.1 a i.toNatClampNeg) :: st) M else none
  | _ => none
def lm_ast (c : lm_C) (ls st : List Value) (M : lm_M) : lm_O := match st with
  | .int x :: .int i :: .ref a :: st => if (M.1.2.2 a).1 = 21 ∧ ¬ (i < 0 ∨ (M.1.2.2 a).2 ≤ i.toNatClampNeg) then lm_nx c ls st (M.1, lm_up M.2.1 a i.toNatClampNeg x, M.2.2) else none
  | _ => none
/-- what a boolean or byte array keeps of an int -/
def lm_nar (t : Nat) (x : Int32) : Int32 := if t = 23 then vp_nar .boolean x else vp_nar .byte x
def lm_bst (c : lm_C) (ls st : List Value) (M : lm_M) : lm_O := match st with
  | .int x :: .int i :: .ref a :: st => if ((M.1.2.2 a).1 = 23 ∨ (M.1.2.2 a).1 = 24) ∧ ¬ (i < 0 ∨ (M.1.2.2 a).2 ≤ i.toNatClampNeg) then lm_nx c ls st (M.1, lm_up M.2.1 a i.toNatClampNeg (lm_nar (M.1.2.2 a).1 x), M.2.2) else none
  | _ => none
def lm_lst (c : lm_C) (ls st : List Value) (M : lm_M) : lm_O := match st with
  | .long x :: .int i :: .ref a :: st => if (M.1.2.2 a).1 = 22 ∧ ¬ (i < 0 ∨ (M.1.2.2 a).2 ≤ i.toNatClampNeg) then lm_nx c ls st (M.1, M.2.1, lm_up M.2.2.1 a i.toNatClampNeg x, M.2.2.2) else none
  | _ => none
def lm_len (c : lm_C) (ls st : List Value) (M : lm_M) : lm_O := match st with
  | .ref a :: st => if 21 ≤ (M.1.2.2 a).1 ∧ (M.1.2.2 a).1 ≤ 30 then lm_nx c ls (.int (Int32.ofNat (M.1.2.2 a).2) :: st) M else none
  | _ => none
def lm_ty (t : ArrayType) : Nat := match t with
  | .int => 21
  | .long => 22
  | .boolean => 23
  | .byte => 24
  | _ => 99
def lm_newa (t : ArrayType) (c : lm_C) (ls st : List Value) (M : lm_M) : lm_O := match st with
  | .int n :: st => if ¬ n < 0 ∧ lm_ty t ≠ 99 ∧ n.toNatClampNeg ≤ 65536 then
      lm_nx c ls (.ref M.1.1 :: st) ((M.1.1 + 1, M.1.2.1 + n.toNatClampNeg, lm_us M.1.2.2 M.1.1 (lm_ty t, n.toNatClampNeg)), lm_z M.2.1 M.1.1 0, lm_z M.2.2.1 M.1.1 0, lm_z M.2.2.2 M.1.1 .null) else none
  | _ => none
def lm_new (ci : Nat) (c : lm_C) (ls st : List Value) (M : lm_M) : lm_O :=
  if ci < 11 then lm_nx c ls (.ref M.1.1 :: st) ((M.1.1 + 1, M.1.2.1 + lm_cN ci, lm_us M.1.2.2 M.1.1 (ci, 0)), lm_z M.2.1 M.1.1 0, lm_z M.2.2.1 M.1.1 0, lm_z M.2.2.2 M.1.1 .null) else none
/-- System.arraycopy of ints -/
def lm_cpy (f : Nat → Nat → Int32) (a b sp dp n : Nat) : lm_I := fun o k => if o = b then va_cpy (f a) (f b) sp dp n k else f o k
def lm_copy (c : lm_C) (ls st : List Value) (M : lm_M) : lm_O := match st with
  | .int n :: .int dp :: .ref b :: .int sp :: .ref a :: st =>
    if (M.1.2.2 a).1 = 21 ∧ (M.1.2.2 b).1 = 21 ∧ ¬ sp < 0 ∧ ¬ dp < 0 ∧ ¬ n < 0 ∧ sp.toNatClampNeg + n.toNatClampNeg ≤ (M.1.2.2 a).2 ∧ dp.toNatClampNeg + n.toNatClampNeg ≤ (M.1.2.2 b).2 ∧ (st.map fun v => v.category).sum ≤ 8
    then lm_nx c ls st (M.1, lm_cpy M.2.1 a b sp.toNatClampNeg dp.toNatClampNeg n.toNatClampNeg, M.2.2) else none
  | _ => none
/-- Object.<init> -/
def lm_obj (c : lm_C) (ls st : List Value) (M : lm_M) : lm_O := match st with
  | .ref _ :: st => if (st.map fun v => v.category).sum ≤ 8 then lm_nx c ls st M else none
  | _ => none
/-- the String constants' texts; String.length and String.charAt of them -/
def lm_str : List (List Nat) := [[116, 114, 117, 101, 32, 102, 97, 108, 115, 101, 32, 110, 111, 116, 32, 104, 101, 97, 100, 32, 116, 97, 105, 108, 32, 110, 117, 108, 108, 32, 108, 101, 110, 103, 116, 104, 32, 102, 115, 116, 32, 115, 110, 100, 32, 105, 100, 32, 115, 104, 111, 119, 32], [78, 117, 109], [66, 111, 111, 108], [84, 101, 120, 116]]
def lm_slen (c : lm_C) (ls st : List Value) (M : lm_M) : lm_O := match st with
  | .ref a :: st => if lm_B ≤ a ∧ (st.map fun v => v.category).sum ≤ 8 then (match lm_str[a - lm_B]? with
      | some t => lm_nx c ls (.int (Int32.ofNat t.length) :: st) M
      | none => none) else none
  | _ => none
def lm_sat (c : lm_C) (ls st : List Value) (M : lm_M) : lm_O := match st with
  | .int i :: .ref a :: st => if lm_B ≤ a ∧ ¬ i < 0 ∧ (st.map fun v => v.category).sum ≤ 8 then (match lm_str[a - lm_B]? with
      | some t => (match t[i.toNatClampNeg]? with
        | some x => lm_nx c ls (.int (Int32.ofNat x) :: st) M
        | none => none)
      | none => none) else none
  | _ => none
def lm_pop : Nat → List Value → List Value → Option (List Value × List Value)
  | 0, acc, st => some (acc, st)
  | n + 1, acc, v :: st => lm_pop n (v :: acc) st
  | _ + 1, _, [] => none
/-- the receiver is of the class that the call names (99: a static method) -/
def lm_rc (r : Nat) (as : List Value) (M : lm_M) : Bool := r % 128 == 99 || (match as with
  | .ref o :: _ => (M.1.2.2 o).1 == r % 128
  | _ => false)
/-- a call's number: ((method * 16 + what it takes off the stack) * 128 + its class) -/
def lm_inv (r : Nat) (c : lm_C) (ls st : List Value) (M : lm_M) : lm_O := match lm_pop (r / 128 % 16) [] st with
  | some (as, st) => if (st.map fun v => v.category).sum ≤ 8 ∧ lm_rc r as M = true then some (.inr (.inr (r / 2048, as, c, ls, st, M))) else none
  | none => none
def lm_ret (b : Bool) (c : lm_C) (ls st : List Value) (M : lm_M) : lm_O := match b, st with
  | true, [.int x] => some (.inr (.inl (some (.int x), M)))
  | false, [] => some (.inr (.inl (none, M)))
  | _, _ => none
def lm_step (J : Nat → lm_C) (i : Instr) (c : lm_C) (ls st : List Value) (M : lm_M) : lm_O := match i with
  | .iconst n => lm_nx c ls (.int (Int32.ofInt n) :: st) M
  | .bipush n => lm_nx c ls (.int (Int8.ofInt n).toInt32 :: st) M
  | .sipush n => lm_nx c ls (.int (Int16.ofInt n).toInt32 :: st) M
  | .lconst n => lm_nx c ls (.long (Int64.ofNat (n : Nat)) :: st) M
  | .ldc2_w v => lm_nx c ls (.long (Int64.ofNat v) :: st) M
  | .ldc k => lm_nx c ls (.ref (lm_B + k) :: st) M
  | .getstatic k => lm_nx c ls (.ref (lm_B + k) :: st) M
  | .iload k => lm_ldI k c ls st M
  | .iload_n k => lm_ldI k c ls st M
  | .lload k => lm_ldL k c ls st M
  | .lload_n k => lm_ldL k c ls st M
  | .aload k => lm_ldA k c ls st M
  | .aload_n k => lm_ldA k c ls st M
  | .istore k => lm_stI k c ls st M
  | .istore_n k => lm_stI k c ls st M
  | .lstore k => lm_stL k c ls st M
  | .lstore_n k => lm_stL k c ls st M
  | .astore k => lm_stA k c ls st M
  | .astore_n k => lm_stA k c ls st M
  | .iinc k n => lm_iinc k n c ls st M
  | .iadd => lm_bin (fun x y => x + y) c ls st M
  | .isub => lm_bin (fun x y => x - y) c ls st M
  | .imul => lm_bin (fun x y => x * y) c ls st M
  | .iand => lm_bin (fun x y => x &&& y) c ls st M
  | .ior => lm_bin (fun x y => x ||| y) c ls st M
  | .ishl => lm_bin (fun x y => x <<< (y &&& 31)) c ls st M
  | .ishr => lm_bin (fun x y => x >>> (y &&& 31)) c ls st M
  | .idiv => lm_div (fun x y => x / y) c ls st M
  | .irem => lm_div (fun x y => x - x / y * y) c ls st M
  | .land => lm_binL (fun x y => x &&& y) c ls st M
  | .lor => lm_binL (fun x y => x ||| y) c ls st M
  | .lshl => lm_shL (fun x y => x <<< (y.toInt64 &&& 63)) c ls st M
  | .lshr => lm_shL (fun x y => x >>> (y.toInt64 &&& 63)) c ls st M
  | .lushr => lm_shL (fun x y => (x.toUInt64 >>> (y.toInt64.toUInt64 &&& Int64.toUInt64 63)).toInt64) c ls st M
  | .lcmp => lm_cmpL c ls st M
  | .i2l => lm_un (fun x => .long x.toInt64) c ls st M
  | .i2b => lm_un (fun x => .int x.toInt8.toInt32) c ls st M
  | .l2i => lm_unL (fun x => .int x.toInt32) c ls st M
  | .ifCond .eq t => lm_br1 (fun x => decide (x = 0)) J t c ls st M
  | .ifCond .ne t => lm_br1 (fun x => decide (¬ x = 0)) J t c ls st M
  | .ifCond .lt t => lm_br1 (fun x => decide (x < 0)) J t c ls st M
  | .ifCond .ge t => lm_br1 (fun x => decide (0 ≤ x)) J t c ls st M
  | .ifCond .gt t => lm_br1 (fun x => decide (0 < x)) J t c ls st M
  | .ifCond .le t => lm_br1 (fun x => decide (x ≤ 0)) J t c ls st M
  | .if_icmp .eq t => lm_br2 (fun x y => decide (x = y)) J t c ls st M
  | .if_icmp .ne t => lm_br2 (fun x y => decide (¬ x = y)) J t c ls st M
  | .if_icmp .lt t => lm_br2 (fun x y => decide (x < y)) J t c ls st M
  | .if_icmp .ge t => lm_br2 (fun x y => decide (y ≤ x)) J t c ls st M
  | .if_icmp .gt t => lm_br2 (fun x y => decide (y < x)) J t c ls st M
  | .if_icmp .le t => lm_br2 (fun x y => decide (x ≤ y)) J t c ls st M
  | .goto t => lm_nx (J t.toNat) ls st M
  | .tableswitch d lo hi os => lm_tab J d lo hi os ls st M
  | .lookupswitch d ps => lm_lk J d ps ls st M
  | .dup => lm_dup c ls st M
  | .pop => lm_pop1 c ls st M
  | .dup2 => lm_dup2 c ls st M
  | .getfield r => lm_getf r c ls st M
  | .putfield r => lm_putf r c ls st M
  | .iaload => lm_ald c ls st M
  | .baload => lm_bld c ls st M
  | .laload => lm_lld c ls st M
  | .iastore => lm_ast c ls st M
  | .bastore => lm_bst c ls st M
  | .lastore => lm_lst c ls st M
  | .arraylength => lm_len c ls st M
  | .newarray t => lm_newa t c ls st M
  | .new ci => lm_new ci c ls st M
  | .monitorenter => lm_copy c ls st M
  | .monitorexit => lm_obj c ls st M
  | .swap => lm_slen c ls st M
  | .athrow => lm_sat c ls st M
  | .invokevirtual r => lm_inv r c ls st M
  | .invokespecial r => lm_inv r c ls st M
  | .invokestatic r => lm_inv r c ls st M
  | .ireturn => lm_ret true c ls st M
  | .return_ => lm_ret false c ls st M
  | _ => none
def lm_args : List Value → List Value
  | [] => []
  | v :: vs => if v.category = 2 then v :: .null :: lm_args vs else v :: lm_args vs
def lm_ent (n : Nat) (as : List Value) : List Value := lm_args as ++ List.replicate (n - (lm_args as).length) .null
def lm_run (K : Nat → List Value → lm_M → Option (Option Value × lm_M)) (J : Nat → lm_C) : Nat → lm_C → List Value → List Value → lm_M → Option (Option Value × lm_M)
  | 0, _, _, _, _ => none
  | _ + 1, [], _, _, _ => none
  | f + 1, (_, i) :: c, ls, st, M => match lm_step J i c ls st M with
    | none => none
    | some (.inl (c, ls, st, M)) => lm_run K J f c ls st M
    | some (.inr (.inl r)) => some r
    | some (.inr (.inr (m, as, c, ls, st, M))) => match K m as M with
      | none => none
      | some (v, M) => lm_run K J f c ls (v.toList ++ st) M
