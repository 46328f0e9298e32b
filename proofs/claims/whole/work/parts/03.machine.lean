/-! THE SMALL MACHINE: what the bytecode does, over whole numbers. A value: int, long, or a reference (0 is null; below 32: what was there before the law; from 32 on: what the law made, in order).
K: the structure, a row a made cell (kind, length, final references); H: the numbers in the cells; S: the int rows that were there before. -/
abbrev sm_V : Type := Int ⊕ (Int ⊕ Nat)
abbrev sm_L : Type := List (Option sm_V)
abbrev sm_H : Type := Nat → Int → Int
abbrev sm_C : Type := Nat × (Nat × List Nat)
abbrev sm_K : Type := List sm_C
abbrev sm_E : Type := Nat → Option (Nat × (Int → Int))
abbrev sm_O : Type := sm_K × (sm_H × Option sm_V)
abbrev sm_S : Type := Nat × (sm_L × (List sm_V × (sm_K × sm_H)))
abbrev sm_I (x : Int) : sm_V := .inl x
abbrev sm_J (x : Int) : sm_V := .inr (.inl x)
abbrev sm_A (a : Nat) : sm_V := .inr (.inr a)
def sm_w (x : Int) : Int := x.bmod 4294967296
def sm_q (x : Int) : Int := x.bmod 18446744073709551616
def sm_u (H : sm_H) (a : Nat) (i v : Int) : sm_H := fun a' i' => if a' = a ∧ i' = i then v else H a' i'
def sm_z (H : sm_H) (a : Nat) : sm_H := fun a' i' => if a' = a then 0 else H a' i'
def sm_cat (v : sm_V) : Nat := match v with
  | .inr (.inl _) => 2
  | _ => 1
def sm_and (x y : Int) : Int := (Int32.ofInt x &&& Int32.ofInt y).toInt
def sm_or (x y : Int) : Int := (Int32.ofInt x ||| Int32.ofInt y).toInt
def sm_xor (x y : Int) : Int := (Int32.ofInt x ^^^ Int32.ofInt y).toInt
def sm_shl (x y : Int) : Int := (Int32.ofInt x <<< (Int32.ofInt y &&& 31)).toInt
def sm_shr (x y : Int) : Int := (Int32.ofInt x >>> (Int32.ofInt y &&& 31)).toInt
def sm_ushr (x y : Int) : Int := ((Int32.ofInt x).toUInt32 >>> ((Int32.ofInt y).toUInt32 &&& Int32.toUInt32 31)).toInt32.toInt
def sm_i2c (x : Int) : Int := ((Int32.ofInt x).toUInt32 % 65536).toInt32.toInt
def sm_cmp (x y : Int) : Int := if x < y then -1 else if x = y then 0 else 1
def sm_is (op : ClassFile.Cond) (x y : Int) : Bool := match op with
  | .eq => decide (x = y)
  | .ne => decide (x ≠ y)
  | .lt => decide (x < y)
  | .ge => decide (y ≤ x)
  | .gt => decide (y < x)
  | .le => decide (x ≤ y)
def sm_lg (L : sm_L) (i : Nat) : Option sm_V := (L[i]?).getD none
def sm_pl (L : sm_L) (i : Nat) : Bool := match i with
  | 0 => false
  | i + 1 => match sm_lg L i with
    | some (.inr (.inl _)) => true
    | _ => false
def sm_s1 (L : sm_L) (i : Nat) (v : sm_V) : Option sm_L := if i < L.length ∧ sm_pl L i = false then some (L.set i (some v)) else none
def sm_s2 (L : sm_L) (i : Nat) (v : sm_V) : Option sm_L := if i + 1 < L.length ∧ sm_pl L i = false then some ((L.set i (some v)).set (i + 1) none) else none
def sm_kd (K : sm_K) (a : Nat) : Option sm_C := if a < 32 then none else K[a - 32]?
/-- an array of the kind k: its length and numbers -/
def sm_ar (K : sm_K) (H : sm_H) (k a : Nat) : Option (Nat × (Int → Int)) := match sm_kd K a with
  | some (k', (n, _)) => if k' = k then some (n, H a) else none
  | none => none
def sm_ai (S : sm_E) (K : sm_K) (H : sm_H) (a : Nat) : Option (Nat × (Int → Int)) := if a < 5 then S a else sm_ar K H 20 a
/-- the String constants that the class names, and their bytes -/
def sm_str : List (List Int) := [[115, 116, 101, 112, 115, 32, 114, 97, 110, 107, 32, 108, 111, 117, 100, 32, 98, 97, 108, 107, 115, 32, 102, 111, 108, 108, 111, 119, 115, 32], [99, 111, 119, 32, 110, 111, 116, 101, 32, 112, 97, 99, 101, 32, 102, 101, 97, 114, 32, 97, 103, 101, 32, 108, 101, 102, 116, 32, 99, 97, 108, 108, 101, 100, 32, 119, 105, 110, 100, 32, 104, 111, 109, 101, 32, 104, 101, 97, 114, 100, 32], [105, 102, 32], [110, 111, 116, 32], [97, 110, 100, 32], [111, 114, 32]]
def sm_cpS (c idx : Nat) : Option Nat := if c = 8 then List.lookup idx [(68, 8), (120, 9), (77, 10), (102, 11), (100, 12), (89, 13)] else none
def sm_len (S : sm_E) (K : sm_K) (a : Nat) : Option Nat := if a < 5 then (S a).map (fun q => q.1) else if a < 16 then none else if a < 22 then (sm_str[a - 16]?).map List.length else match sm_kd K a with
  | some (k, (n, _)) => if 20 ≤ k then some n else none
  | none => none
def sm_sz (K : sm_K) : Nat := (K.map (fun c => c.2.1)).sum
def sm_nx (pc : Nat) (L : sm_L) (st : List sm_V) (K : sm_K) (H : sm_H) : Option (sm_S ⊕ sm_O) := some (.inl (pc, (L, (st, (K, H)))))
def sm_jp (pc : Nat) (off : Int) (L : sm_L) (st : List sm_V) (K : sm_K) (H : sm_H) : Option (sm_S ⊕ sm_O) := if 0 ≤ (pc : Int) + off then some (.inl (((pc : Int) + off).toNat, (L, (st, (K, H))))) else none
def sm_b (f : Int → Int → Int) (pc : Nat) (L : sm_L) (st : List sm_V) (K : sm_K) (H : sm_H) : Option (sm_S ⊕ sm_O) := match st with
  | .inl y :: .inl x :: r => sm_nx (pc + 1) L (.inl (f x y) :: r) K H
  | _ => none
def sm_bj (f : Int → Int → Int) (pc : Nat) (L : sm_L) (st : List sm_V) (K : sm_K) (H : sm_H) : Option (sm_S ⊕ sm_O) := match st with
  | .inr (.inl y) :: .inr (.inl x) :: r => sm_nx (pc + 1) L (.inr (.inl (f x y)) :: r) K H
  | _ => none
def sm_un (f : Int → Int) (pc : Nat) (L : sm_L) (st : List sm_V) (K : sm_K) (H : sm_H) : Option (sm_S ⊕ sm_O) := match st with
  | .inl x :: r => sm_nx (pc + 1) L (.inl (f x) :: r) K H
  | _ => none
def sm_ldI (i n : Nat) (pc : Nat) (L : sm_L) (st : List sm_V) (K : sm_K) (H : sm_H) : Option (sm_S ⊕ sm_O) := match sm_lg L i with
  | some (.inl x) => sm_nx (pc + n) L (.inl x :: st) K H
  | _ => none
def sm_ldJ (i n : Nat) (pc : Nat) (L : sm_L) (st : List sm_V) (K : sm_K) (H : sm_H) : Option (sm_S ⊕ sm_O) := match sm_lg L i with
  | some (.inr (.inl x)) => sm_nx (pc + n) L (.inr (.inl x) :: st) K H
  | _ => none
def sm_ldA (i n : Nat) (pc : Nat) (L : sm_L) (st : List sm_V) (K : sm_K) (H : sm_H) : Option (sm_S ⊕ sm_O) := match sm_lg L i with
  | some (.inr (.inr x)) => sm_nx (pc + n) L (.inr (.inr x) :: st) K H
  | _ => none
def sm_stI (i n : Nat) (pc : Nat) (L : sm_L) (st : List sm_V) (K : sm_K) (H : sm_H) : Option (sm_S ⊕ sm_O) := match st with
  | .inl x :: r => match sm_s1 L i (.inl x) with
    | some L' => sm_nx (pc + n) L' r K H
    | none => none
  | _ => none
def sm_stJ (i n : Nat) (pc : Nat) (L : sm_L) (st : List sm_V) (K : sm_K) (H : sm_H) : Option (sm_S ⊕ sm_O) := match st with
  | .inr (.inl x) :: r => match sm_s2 L i (.inr (.inl x)) with
    | some L' => sm_nx (pc + n) L' r K H
    | none => none
  | _ => none
def sm_stA (i n : Nat) (pc : Nat) (L : sm_L) (st : List sm_V) (K : sm_K) (H : sm_H) : Option (sm_S ⊕ sm_O) := match st with
  | .inr (.inr x) :: r => match sm_s1 L i (.inr (.inr x)) with
    | some L' => sm_nx (pc + n) L' r K H
    | none => none
  | _ => none
def sm_if (op : ClassFile.Cond) (off : Int) (pc : Nat) (L : sm_L) (st : List sm_V) (K : sm_K) (H : sm_H) : Option (sm_S ⊕ sm_O) := match st with
  | .inl x :: r => if 0 ≤ (pc : Int) + off then (if sm_is op x 0 = true then sm_nx ((pc : Int) + off).toNat L r K H else sm_nx (pc + 3) L r K H) else none
  | _ => none
def sm_if2 (op : ClassFile.Cond) (off : Int) (pc : Nat) (L : sm_L) (st : List sm_V) (K : sm_K) (H : sm_H) : Option (sm_S ⊕ sm_O) := match st with
  | .inl y :: .inl x :: r => if 0 ≤ (pc : Int) + off then (if sm_is op x y = true then sm_nx ((pc : Int) + off).toNat L r K H else sm_nx (pc + 3) L r K H) else none
  | _ => none
def sm_ifn (yes : Bool) (off : Int) (pc : Nat) (L : sm_L) (st : List sm_V) (K : sm_K) (H : sm_H) : Option (sm_S ⊕ sm_O) := match st with
  | .inr (.inr x) :: r => if 0 ≤ (pc : Int) + off then (if decide (x = 0) = yes then sm_nx ((pc : Int) + off).toNat L r K H else sm_nx (pc + 3) L r K H) else none
  | _ => none
/-- an array's load: f says where, mk makes the value -/
def sm_ald (w : Nat → Option (Nat × (Int → Int))) (mk : Int → sm_V) (pc : Nat) (L : sm_L) (st : List sm_V) (K : sm_K) (H : sm_H) : Option (sm_S ⊕ sm_O) := match st with
  | .inl i :: .inr (.inr a) :: r => match w a with
    | some (n, f) => if 0 ≤ i ∧ i < n then sm_nx (pc + 1) L (mk (f i) :: r) K H else none
    | none => none
  | _ => none
def sm_iast (pc : Nat) (L : sm_L) (st : List sm_V) (K : sm_K) (H : sm_H) : Option (sm_S ⊕ sm_O) := match st with
  | .inl x :: .inl i :: .inr (.inr a) :: r => match sm_ar K H 20 a with
    | some (n, _) => if 0 ≤ i ∧ i < n then sm_nx (pc + 1) L r K (sm_u H a i x) else none
    | none => none
  | _ => none
def sm_bast (pc : Nat) (L : sm_L) (st : List sm_V) (K : sm_K) (H : sm_H) : Option (sm_S ⊕ sm_O) := match st with
  | .inl x :: .inl i :: .inr (.inr a) :: r => match sm_ar K H 22 a with
    | some (n, _) => if (0 ≤ i ∧ i < n) ∧ (x = 0 ∨ x = 1) then sm_nx (pc + 1) L r K (sm_u H a i x) else none
    | none => none
  | _ => none
def sm_last (pc : Nat) (L : sm_L) (st : List sm_V) (K : sm_K) (H : sm_H) : Option (sm_S ⊕ sm_O) := match st with
  | .inr (.inl x) :: .inl i :: .inr (.inr a) :: r => match sm_ar K H 21 a with
    | some (n, _) => if 0 ≤ i ∧ i < n then sm_nx (pc + 1) L r K (sm_u H a i x) else none
    | none => none
  | _ => none
/-- references: arrays of Law (kind 34) and of Herd (kind 32): the kind of what is in them is theirs less 30 -/
def sm_aald (pc : Nat) (L : sm_L) (st : List sm_V) (K : sm_K) (H : sm_H) : Option (sm_S ⊕ sm_O) := match st with
  | .inl i :: .inr (.inr a) :: r => match sm_kd K a with
    | some (k, (n, _)) => if (k = 34 ∨ k = 32) ∧ 0 ≤ i ∧ i < n then sm_nx (pc + 1) L (.inr (.inr (H a i).toNat) :: r) K H else none
    | none => none
  | _ => none
def sm_aast (pc : Nat) (L : sm_L) (st : List sm_V) (K : sm_K) (H : sm_H) : Option (sm_S ⊕ sm_O) := match st with
  | .inr (.inr x) :: .inl i :: .inr (.inr a) :: r => match sm_kd K a with
    | some (k, (n, _)) => match sm_kd K x with
      | some (k', _) => if (k = 34 ∨ k = 32) ∧ k' + 30 = k ∧ 0 ≤ i ∧ i < n then sm_nx (pc + 1) L r K (sm_u H a i (x : Int)) else none
      | none => none
    | none => none
  | _ => none
def sm_rd (c k : Nat) (fins : List Nat) (f : Int → Int) : Option sm_V := match sm_ft c k with
  | 0 => some (.inl (f k))
  | 4 => some (.inl (f k))
  | 1 => some (.inr (.inl (f k)))
  | 2 => some (.inr (.inr (f k).toNat))
  | 3 => some (.inr (.inr (fins.getD k 0)))
  | _ => none
def sm_getf (c idx : Nat) (pc : Nat) (L : sm_L) (st : List sm_V) (K : sm_K) (H : sm_H) : Option (sm_S ⊕ sm_O) := match st with
  | .inr (.inr a) :: r => if a < 32 then (if 8 ≤ a ∧ a < 14 ∧ c = 15 then (if idx = 9 then sm_nx (pc + 3) L (.inr (.inr (a + 8)) :: r) K H else if idx = 15 then sm_nx (pc + 3) L (.inl 0 :: r) K H else none) else none)
    else match List.lookup idx (sm_cpF c) with
      | some (ci, k) => match sm_kd K a with
        | some (kd, (_, fins)) => if kd = ci then (match sm_rd ci k fins (H a) with
            | some v => sm_nx (pc + 3) L (v :: r) K H
            | none => none) else none
        | none => none
      | none => none
  | _ => none
/-- a store into a field: the new structure and numbers -/
def sm_wr (K : sm_K) (H : sm_H) (a c k : Nat) (ce : sm_C) (v : sm_V) : Option (sm_K × sm_H) := match sm_ft c k, v with
  | 0, .inl x => some (K, sm_u H a k x)
  | 4, .inl x => if x = 0 ∨ x = 1 then some (K, sm_u H a k x) else none
  | 1, .inr (.inl x) => some (K, sm_u H a k x)
  | 2, .inr (.inr x) => some (K, sm_u H a k (x : Int))
  | 3, .inr (.inr x) => some (K.set (a - 32) (ce.1, (ce.2.1, ce.2.2.set k x)), H)
  | _, _ => none
def sm_putf (c ini idx : Nat) (pc : Nat) (L : sm_L) (st : List sm_V) (K : sm_K) (H : sm_H) : Option (sm_S ⊕ sm_O) := match st with
  | v :: .inr (.inr a) :: r => match List.lookup idx (sm_cpF c) with
      | some (ci, k) => match sm_kd K a with
        | some ce => if ce.1 = ci ∧ (sm_fin ci k = true → ini = 2 ∧ c = ci) then (match sm_wr K H a ci k ce v with
            | some (K', H') => sm_nx (pc + 3) L r K' H'
            | none => none) else none
        | none => none
      | none => none
  | _ => none
/-- what is static: the rows of the class, String.COMPACT_STRINGS, the formatter that nobody asks -/
def sm_gets (S : sm_E) (c idx : Nat) (pc : Nat) (L : sm_L) (st : List sm_V) (K : sm_K) (H : sm_H) : Option (sm_S ⊕ sm_O) :=
  if c = 9 ∧ idx = 314 then sm_nx (pc + 3) L (.inr (.inr 1) :: st) K H
  else if c = 9 ∧ idx = 317 then sm_nx (pc + 3) L (.inr (.inr 2) :: st) K H
  else if c = 0 ∧ idx = 132 then sm_nx (pc + 3) L (.inr (.inr 3) :: st) K H
  else if c = 15 ∧ idx = 38 then sm_nx (pc + 3) L (.inl 1 :: st) K H
  else if c = 15 ∧ idx = 1053 then sm_nx (pc + 3) L (.inr (.inr (if (S 5).isSome then 5 else 0)) :: st) K H
  else none
def sm_new (c idx : Nat) (pc : Nat) (L : sm_L) (st : List sm_V) (K : sm_K) (H : sm_H) : Option (sm_S ⊕ sm_O) := match List.lookup idx (sm_cpC c) with
  | some ci => sm_nx (pc + 3) L (.inr (.inr (K.length + 32)) :: st) (K ++ [(ci, (sm_fn ci, List.replicate (sm_fn ci) 0))]) (sm_z H (K.length + 32))
  | none => none
def sm_newa (k : Nat) (d : Nat) (pc : Nat) (L : sm_L) (st : List sm_V) (K : sm_K) (H : sm_H) : Option (sm_S ⊕ sm_O) := match st with
  | .inl n :: r => if 0 ≤ n ∧ n ≤ 10000000 then sm_nx (pc + d) L (.inr (.inr (K.length + 32)) :: r) (K ++ [(k, (n.toNat, []))]) (sm_z H (K.length + 32)) else none
  | _ => none
def sm_anew (c idx : Nat) (pc : Nat) (L : sm_L) (st : List sm_V) (K : sm_K) (H : sm_H) : Option (sm_S ⊕ sm_O) := match List.lookup idx (sm_cpC c) with
  | some ci => if ci = 4 ∨ ci = 2 then sm_newa (ci + 30) 3 pc L st K H else none
  | none => none
/-- the call of a method of ours -/
def sm_call (call : Nat → List sm_V → sm_K → sm_H → Option sm_O) (mid n : Nat) (pc : Nat) (L : sm_L) (st : List sm_V) (K : sm_K) (H : sm_H) : Option (sm_S ⊕ sm_O) :=
  if n ≤ st.length ∧ ((st.drop n).map sm_cat).sum ≤ 8 then (match call mid (st.take n).reverse K H with
    | some (K', (H', v)) => sm_nx (pc + 3) L (v.toList ++ st.drop n) K' H'
    | none => none) else none
/-- the receiver is an object of the class ci -/
def sm_rcv (K : sm_K) (ci : Nat) (v : Option sm_V) : Bool := match v with
  | some (.inr (.inr a)) => match sm_kd K a with
    | some (k, _) => decide (k = ci)
    | none => false
  | _ => false
def sm_rcs (v : Option sm_V) : Bool := match v with
  | some (.inr (.inr a)) => decide (8 ≤ a ∧ a < 14)
  | _ => false
def sm_rcn (v : Option sm_V) : Bool := match v with
  | some (.inr (.inr a)) => decide (a ≠ 0)
  | _ => false
def sm_mc (mid : Nat) : Nat := ((sm_ms[mid]?).map (fun r => r.2.2.2.2.1)).getD 99
/-- a copy of n numbers within the heap -/
def sm_cp (H : sm_H) (a : Nat) (i : Int) (b : Nat) (j n : Int) : sm_H := fun a' k => if a' = b ∧ j ≤ k ∧ k < j + n then H a (i + (k - j)) else H a' k
/-- null, or a Law -/
def sm_lawq (K : sm_K) (x : Nat) : Bool := if x = 0 then true else match sm_kd K x with
  | some (k, _) => decide (k = 4)
  | none => false
def sm_acopy (pc : Nat) (L : sm_L) (st : List sm_V) (K : sm_K) (H : sm_H) : Option (sm_S ⊕ sm_O) := match st with
  | .inl n :: .inl j :: .inr (.inr b) :: .inl i :: .inr (.inr a) :: r => match sm_kd K a, sm_kd K b with
    | some (k, (na, _)), some (k', (nb, _)) => if k = k' ∧ (k = 20 ∨ k = 21 ∨ k = 34) ∧ 0 ≤ i ∧ 0 ≤ j ∧ 0 ≤ n ∧ i + n ≤ na ∧ j + n ≤ nb ∧ (r.map sm_cat).sum ≤ 8 ∧ (k = 34 → (List.range n.toNat).all (fun t => sm_lawq K (H a (i + t)).toNat) = true) then sm_nx (pc + 3) L r K (sm_cp H a i b j n) else none
    | _, _ => none
  | _ => none
def sm_clone (pc : Nat) (L : sm_L) (st : List sm_V) (K : sm_K) (H : sm_H) : Option (sm_S ⊕ sm_O) := match st with
  | .inr (.inr a) :: r => match sm_kd K a with
    | some (k, (n, _)) => if k = 20 ∧ (r.map sm_cat).sum ≤ 8 then sm_nx (pc + 3) L (.inr (.inr (K.length + 32)) :: r) (K ++ [(20, (n, []))]) (fun a' i => if a' = K.length + 32 then H a i else H a' i) else none
    | none => none
  | _ => none
def sm_sw (dflt lo hi : Int) (offs : Array Int) (pc : Nat) (L : sm_L) (st : List sm_V) (K : sm_K) (H : sm_H) : Option (sm_S ⊕ sm_O) := match st with
  | .inl x :: r => if x < lo ∨ hi < x then sm_jp pc dflt L r K H else (match offs[(x - lo).toNat]? with
    | some off => sm_jp pc off L r K H
    | none => none)
  | _ => none
/-- what a return of this type lets through -/
def sm_ret (rt : Option FieldType) (st : List sm_V) (K : sm_K) (H : sm_H) : Option (sm_S ⊕ sm_O) := match rt, st with
  | some .int, [.inl x] => some (.inr (K, (H, some (.inl x))))
  | some .boolean, [.inl x] => if x = 0 ∨ x = 1 then some (.inr (K, (H, some (.inl x)))) else none
  | some .byte, [.inl x] => if x = 0 ∨ x = 1 then some (.inr (K, (H, some (.inl x)))) else none
  | some .char, [.inl x] => if 0 ≤ x ∧ x < 65536 then some (.inr (K, (H, some (.inl x)))) else none
  | _, _ => none
def sm_ma (f : Int → Int → Int) (pc : Nat) (L : sm_L) (st : List sm_V) (K : sm_K) (H : sm_H) : Option (sm_S ⊕ sm_O) := match st with
  | .inl y :: .inl x :: r => if (r.map sm_cat).sum ≤ 8 then sm_nx (pc + 3) L (.inl (f x y) :: r) K H else none
  | _ => none
def sm_maj (f : Int → Int → Int) (pc : Nat) (L : sm_L) (st : List sm_V) (K : sm_K) (H : sm_H) : Option (sm_S ⊕ sm_O) := match st with
  | .inr (.inl y) :: .inr (.inl x) :: r => if (r.map sm_cat).sum ≤ 8 then sm_nx (pc + 3) L (.inr (.inl (f x y)) :: r) K H else none
  | _ => none
def sm_invS (call : Nat → List sm_V → sm_K → sm_H → Option sm_O) (c idx : Nat) (pc : Nat) (L : sm_L) (st : List sm_V) (K : sm_K) (H : sm_H) : Option (sm_S ⊕ sm_O) := match List.lookup idx (sm_cpM c) with
  | some (0, (mid, n)) => sm_call call mid n pc L st K H
  | some (7, _) => sm_acopy pc L st K H
  | some (10, _) => sm_ma (fun x y => if x < y then y else x) pc L st K H
  | some (11, _) => sm_ma (fun x y => if y < x then y else x) pc L st K H
  | some (12, _) => sm_maj (fun x y => if y < x then x else y) pc L st K H
  | some (13, _) => sm_maj (fun x y => if y < x then y else x) pc L st K H
  | some (14, _) => match st with
    | .inr (.inl x) :: r => if (r.map sm_cat).sum ≤ 8 then sm_nx (pc + 3) L (.inr (.inl (if 0 < x then x else sm_q (-x))) :: r) K H else none
    | _ => none
  | _ => none
def sm_invV (call : Nat → List sm_V → sm_K → sm_H → Option sm_O) (c idx : Nat) (pc : Nat) (L : sm_L) (st : List sm_V) (K : sm_K) (H : sm_H) : Option (sm_S ⊕ sm_O) := match List.lookup idx (sm_cpM c) with
  | some (1, (mid, n)) => if sm_rcv K (sm_mc mid) st[n]? = true then sm_call call mid (n + 1) pc L st K H else none
  | some (4, (mid, n)) => if sm_rcs st[n]? = true then sm_call call mid (n + 1) pc L st K H else none
  | some (8, _) => sm_clone pc L st K H
  | _ => none
def sm_invI (call : Nat → List sm_V → sm_K → sm_H → Option sm_O) (c idx : Nat) (pc : Nat) (L : sm_L) (st : List sm_V) (K : sm_K) (H : sm_H) : Option (sm_S ⊕ sm_O) := match List.lookup idx (sm_cpM c) with
  | some (2, (mid, n)) => if sm_rcn st[n]? = true then sm_call call mid (n + 1) pc L st K H else none
  | some (3, (mid, n)) => if sm_rcn st[n]? = true then sm_call call mid (n + 1) pc L st K H else none
  | some (9, _) => match st with
    | .inr (.inr a) :: r => if a ≠ 0 ∧ (r.map sm_cat).sum ≤ 8 then sm_nx (pc + 3) L r K H else none
    | _ => none
  | _ => none
/-- ONE INSTRUCTION of a method of the class c that returns rt (ini: 2 in a constructor) -/
def sm_step (S : sm_E) (call : Nat → List sm_V → sm_K → sm_H → Option sm_O) (rt : Option FieldType) (c ini : Nat) (i : Instr) (pc : Nat) (L : sm_L) (st : List sm_V) (K : sm_K) (H : sm_H) : Option (sm_S ⊕ sm_O) := match i with
  | .iconst n => sm_nx (pc + 1) L (.inl n :: st) K H
  | .bipush n => sm_nx (pc + 2) L (.inl n :: st) K H
  | .sipush n => sm_nx (pc + 3) L (.inl n :: st) K H
  | .lconst n => sm_nx (pc + 1) L (.inr (.inl (n.val : Int)) :: st) K H
  | .aconst_null => sm_nx (pc + 1) L (.inr (.inr 0) :: st) K H
  | .ldc k => match List.lookup k (sm_cpI c) with
    | some v => sm_nx (pc + 2) L (.inl v :: st) K H
    | none => match sm_cpS c k with
      | some a => sm_nx (pc + 2) L (.inr (.inr a) :: st) K H
      | none => none
  | .ldc_w k => match List.lookup k (sm_cpI c) with
    | some v => sm_nx (pc + 3) L (.inl v :: st) K H
    | none => none
  | .ldc2_w k => match List.lookup k (sm_cpJ c) with
    | some v => sm_nx (pc + 3) L (.inr (.inl v) :: st) K H
    | none => none
  | .iload k => sm_ldI k 2 pc L st K H
  | .iload_n k => sm_ldI k.val 1 pc L st K H
  | .lload k => sm_ldJ k 2 pc L st K H
  | .lload_n k => sm_ldJ k.val 1 pc L st K H
  | .aload k => sm_ldA k 2 pc L st K H
  | .aload_n k => sm_ldA k.val 1 pc L st K H
  | .istore k => sm_stI k 2 pc L st K H
  | .istore_n k => sm_stI k.val 1 pc L st K H
  | .lstore k => sm_stJ k 2 pc L st K H
  | .lstore_n k => sm_stJ k.val 1 pc L st K H
  | .astore k => sm_stA k 2 pc L st K H
  | .astore_n k => sm_stA k.val 1 pc L st K H
  | .iinc k n => match sm_lg L k with
    | some (.inl x) => match sm_s1 L k (.inl (sm_w (x + n))) with
      | some L' => sm_nx (pc + 3) L' st K H
      | none => none
    | _ => none
  | .iadd => sm_b (fun x y => sm_w (x + y)) pc L st K H
  | .isub => sm_b (fun x y => sm_w (x - y)) pc L st K H
  | .imul => sm_b (fun x y => sm_w (x * y)) pc L st K H
  | .iand => sm_b sm_and pc L st K H
  | .ior => sm_b sm_or pc L st K H
  | .ixor => sm_b sm_xor pc L st K H
  | .ishl => sm_b sm_shl pc L st K H
  | .ishr => sm_b sm_shr pc L st K H
  | .iushr => sm_b sm_ushr pc L st K H
  | .idiv => match st with
    | .inl y :: .inl x :: r => if y = 0 then none else sm_nx (pc + 1) L (.inl (sm_w (x.tdiv y)) :: r) K H
    | _ => none
  | .irem => match st with
    | .inl y :: .inl x :: r => if y = 0 then none else sm_nx (pc + 1) L (.inl (x.tmod y) :: r) K H
    | _ => none
  | .ineg => sm_un (fun x => sm_w (-x)) pc L st K H
  | .i2c => sm_un sm_i2c pc L st K H
  | .ladd => sm_bj (fun x y => sm_q (x + y)) pc L st K H
  | .lsub => sm_bj (fun x y => sm_q (x - y)) pc L st K H
  | .lmul => sm_bj (fun x y => sm_q (x * y)) pc L st K H
  | .ldiv => match st with
    | .inr (.inl y) :: .inr (.inl x) :: r => if y = 0 then none else sm_nx (pc + 1) L (.inr (.inl (sm_q (x.tdiv y))) :: r) K H
    | _ => none
  | .lrem => match st with
    | .inr (.inl y) :: .inr (.inl x) :: r => if y = 0 then none else sm_nx (pc + 1) L (.inr (.inl (x.tmod y)) :: r) K H
    | _ => none
  | .lneg => match st with
    | .inr (.inl x) :: r => sm_nx (pc + 1) L (.inr (.inl (sm_q (-x))) :: r) K H
    | _ => none
  | .lcmp => match st with
    | .inr (.inl y) :: .inr (.inl x) :: r => sm_nx (pc + 1) L (.inl (sm_cmp x y) :: r) K H
    | _ => none
  | .i2l => match st with
    | .inl x :: r => sm_nx (pc + 1) L (.inr (.inl x) :: r) K H
    | _ => none
  | .l2i => match st with
    | .inr (.inl x) :: r => sm_nx (pc + 1) L (.inl (sm_w x) :: r) K H
    | _ => none
  | .dup => match st with
    | v :: r => if sm_cat v = 1 then sm_nx (pc + 1) L (v :: v :: r) K H else none
    | _ => none
  | .pop => match st with
    | v :: r => if sm_cat v = 1 then sm_nx (pc + 1) L r K H else none
    | _ => none
  | .dup2 => match st with
    | v :: w :: r => if sm_cat v = 1 ∧ sm_cat w = 1 then sm_nx (pc + 1) L (v :: w :: v :: w :: r) K H else none
    | _ => none
  | .ifCond op off => sm_if op off pc L st K H
  | .if_icmp op off => sm_if2 op off pc L st K H
  | .ifnull off => sm_ifn true off pc L st K H
  | .ifnonnull off => sm_ifn false off pc L st K H
  | .goto off => sm_jp pc off L st K H
  | .tableswitch d lo hi offs => sm_sw d lo hi offs pc L st K H
  | .arraylength => match st with
    | .inr (.inr a) :: r => match sm_len S K a with
      | some n => if n < 2147483648 then sm_nx (pc + 1) L (.inl (n : Int) :: r) K H else none
      | none => none
    | _ => none
  | .iaload => sm_ald (sm_ai S K H) sm_I pc L st K H
  | .laload => sm_ald (sm_ar K H 21) sm_J pc L st K H
  | .baload => match st with
    | .inl i :: .inr (.inr a) :: r => if a < 32 then (match sm_str[a - 16]? with
        | some l => if 16 ≤ a ∧ 0 ≤ i ∧ i < l.length then sm_nx (pc + 1) L (.inl (l.getD i.toNat 0) :: r) K H else none
        | none => none) else sm_ald (sm_ar K H 22) sm_I pc L st K H
    | _ => none
  | .aaload => sm_aald pc L st K H
  | .iastore => sm_iast pc L st K H
  | .bastore => sm_bast pc L st K H
  | .lastore => sm_last pc L st K H
  | .aastore => sm_aast pc L st K H
  | .getfield k => sm_getf c k pc L st K H
  | .putfield k => sm_putf c ini k pc L st K H
  | .getstatic k => sm_gets S c k pc L st K H
  | .new k => sm_new c k pc L st K H
  | .newarray .int => sm_newa 20 2 pc L st K H
  | .newarray .long => sm_newa 21 2 pc L st K H
  | .newarray .boolean => sm_newa 22 2 pc L st K H
  | .anewarray k => sm_anew c k pc L st K H
  | .checkcast k => match st with
    | .inr (.inr a) :: r => match sm_ar K H 20 a with
      | some _ => if c = 14 ∧ k = 317 then sm_nx (pc + 3) L st K H else none
      | none => none
    | _ => none
  | .invokestatic k => sm_invS call c k pc L st K H
  | .invokevirtual k => sm_invV call c k pc L st K H
  | .invokespecial k => sm_invI call c k pc L st K H
  | .ireturn => sm_ret rt st K H
  | .lreturn => match rt, st with
    | some .long, [.inr (.inl x)] => some (.inr (K, (H, some (.inr (.inl x)))))
    | _, _ => none
  | .areturn => match rt, st with
    | some (.object _), [.inr (.inr x)] => some (.inr (K, (H, some (.inr (.inr x)))))
    | some (.array _), [.inr (.inr x)] => some (.inr (K, (H, some (.inr (.inr x)))))
    | _, _ => none
  | .return_ => match rt, st with
    | none, [] => some (.inr (K, (H, none)))
    | _, _ => none
  | _ => none
/-- the instruction of a method at a place -/
def sm_at (mid pc : Nat) : Option Instr := match sm_ms[mid]? with
  | some r => (List.lookup pc r.2.2.2.2.2.2).map (fun q => q.1)
  | none => none
def sm_mrt (mid : Nat) : Option FieldType := ((sm_ms[mid]?).map (fun r => r.2.2.2.1)).getD none
def sm_mi (mid : Nat) : Nat := ((sm_ms[mid]?).map (fun r => r.2.2.2.2.2.1)).getD 0
def sm_ml (mid : Nat) : Nat := ((sm_ms[mid]?).map (fun r => r.2.2.1)).getD 0
/-- a method's body, n steps at the most -/
def sm_ex (S : sm_E) (call : Nat → List sm_V → sm_K → sm_H → Option sm_O) (mid : Nat) : Nat → sm_S → Option sm_O
  | 0, _ => none
  | n + 1, (pc, (L, (st, (K, H)))) => match sm_at mid pc with
    | none => none
    | some i => match sm_step S call (sm_mrt mid) (sm_mc mid) (sm_mi mid) i pc L st K H with
      | none => none
      | some (.inl s) => sm_ex S call mid n s
      | some (.inr o) => some o
def sm_sl : List sm_V → sm_L
  | [] => []
  | .inr (.inl x) :: r => some (.inr (.inl x)) :: none :: sm_sl r
  | v :: r => some v :: sm_sl r
/-- the locals at the entry -/
def sm_en (vs : List sm_V) (n : Nat) : sm_L := sm_sl vs ++ List.replicate (n - (sm_sl vs).length) none
/-- A METHOD: N steps at the most in each body, d calls deep at the most -/
def sm_run (S : sm_E) (N : Nat) : Nat → Nat → List sm_V → sm_K → sm_H → Option sm_O
  | 0, _, _, _, _ => none
  | d + 1, mid, vs, K, H => if (sm_sl vs).length ≤ sm_ml mid then sm_ex S (sm_run S N d) mid N (0, (sm_en vs (sm_ml mid), ([], (K, H)))) else none
