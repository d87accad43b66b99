/-! THE PLAIN MACHINE: values are whole numbers (an int or a long stands for its class modulo 2^32 or 2^64), references are places in a plain heap -/
abbrev PV : Type := Int ⊕ (Int ⊕ Option Nat)
abbrev PE : Type := (Nat × Nat × (Nat → Int)) ⊕ ((Nat × Nat × (Nat → Option Nat)) ⊕ (Nat × List PV))
abbrev PH : Type := Nat × Nat × (Nat → Option PE)
abbrev PF : Type := Nat × Nat × List (Option PV) × List PV
abbrev PS : Type := (PF × PH) ⊕ (Option PV ⊕ (Nat × List PV × PF))
abbrev PX : Type := Nat × (Nat → Int) × Option Nat
def w32 (a : Int) : Int := (a + 2147483648) % 4294967296 - 2147483648
def w64 (a : Int) : Int := (a + 9223372036854775808) % 18446744073709551616 - 9223372036854775808
def w16 (a : Int) : Int := (a + 32768) % 65536 - 32768
def w8 (a : Int) : Int := (a + 128) % 256 - 128
def pm_and (a b : Int) : Int := (Int32.ofInt a &&& Int32.ofInt b).toInt
def pm_or (a b : Int) : Int := (Int32.ofInt a ||| Int32.ofInt b).toInt
def pm_xor (a b : Int) : Int := (Int32.ofInt a ^^^ Int32.ofInt b).toInt
def pm_shl (a b : Int) : Int := (Int32.ofInt a <<< (Int32.ofInt b &&& 31)).toInt
def pm_shr (a b : Int) : Int := (Int32.ofInt a >>> (Int32.ofInt b &&& 31)).toInt
def pm_ushr (a b : Int) : Int := ((Int32.ofInt a).toUInt32 >>> ((Int32.ofInt b).toUInt32 &&& Int32.toUInt32 31)).toInt32.toInt
def pm_div (a b : Int) : Int := (Int32.ofInt a / Int32.ofInt b).toInt
def pm_rem (a b : Int) : Int := (Int32.ofInt a - Int32.ofInt a / Int32.ofInt b * Int32.ofInt b).toInt
def pm_land (a b : Int) : Int := (Int64.ofInt a &&& Int64.ofInt b).toInt
def pm_lor (a b : Int) : Int := (Int64.ofInt a ||| Int64.ofInt b).toInt
def pm_lshl (a b : Int) : Int := (Int64.ofInt a <<< ((Int32.ofInt b).toInt64 &&& 63)).toInt
def pm_ldiv (a b : Int) : Int := (Int64.ofInt a / Int64.ofInt b).toInt
def pm_lrem (a b : Int) : Int := (Int64.ofInt a - Int64.ofInt a / Int64.ofInt b * Int64.ofInt b).toInt
def pcat : PV → Nat
  | .inr (.inl _) => 2
  | _ => 1
def pcats (st : List PV) : Nat := (st.map pcat).sum
def fset {α : Type} (f : Nat → α) (k : Nat) (v : α) : Nat → α := fun j => if j = k then v else f j
/-- a local's place: a long whose second half is overwritten goes, a long takes the place behind it too -/
def pset (lo : List (Option PV)) (i : Nat) (v : PV) : List (Option PV) :=
  let l1 := match i with
    | 0 => lo
    | j + 1 => match lo[j]? with
      | some (some (.inr (.inl _))) => lo.set j none
      | _ => lo
  let l2 := l1.set i (some v)
  match v with
  | .inr (.inl _) => l2.set (i + 1) none
  | _ => l2
def pm_lay : List PV → List (Option PV)
  | [] => []
  | .inr (.inl x) :: r => some (.inr (.inl x)) :: none :: pm_lay r
  | v :: r => some v :: pm_lay r
def pm_cond : Jvm.ClassFile.Cond → Int → Int → Bool
  | .eq, a, b => decide (a = b)
  | .ne, a, b => !decide (a = b)
  | .lt, a, b => decide (a < b)
  | .ge, a, b => !decide (a < b)
  | .gt, a, b => decide (b < a)
  | .le, a, b => !decide (b < a)

/-- what a field of a kind may hold: 0 int, 1 boolean, 2 long, 3 a reference -/
def pm_okv : Nat → PV → Bool
  | 0, .inl _ => true
  | 1, .inl v => decide (v = 0) || decide (v = 1)
  | 2, .inr (.inl _) => true
  | 3, .inr (.inr _) => true
  | _, _ => false
def pm_dflt : Nat → PV
  | 2 => .inr (.inl 0)
  | 3 => .inr (.inr none)
  | _ => .inl 0
/-- what a method's answer may be: 0 int, 1 boolean, 4 byte, 5 char -/
def pm_okr : Nat → Int → Bool
  | 0, _ => true
  | 1, v => decide (v = 0) || decide (v = 1)
  | 4, v => decide (-128 ≤ v) && decide (v ≤ 127)
  | 5, v => decide (0 ≤ v) && decide (v ≤ 65535)
  | _, _ => false
def pm_aty : ArrayType → Option Nat
  | .int => some 0
  | .byte => some 1
  | .boolean => some 2
  | .long => some 3
  | _ => none
/-- the bytes of the texts that the program holds as constants -/
def pm_strs : List (List Int) := [[98, 97, 121], [99, 104, 117, 114, 99, 104, 101, 115], [115, 101, 99, 111, 110, 100, 115], [99, 104, 117, 114, 99, 104], [108, 97, 116, 101], [112, 114, 111, 117, 100], [101, 97, 103, 101, 114], [114, 101, 115, 116, 115], [101, 97, 114], [111, 102], [116, 97, 107, 101, 115], [97, 108, 111, 110, 103], [97, 103, 97, 105, 110, 115, 116], [97, 99, 114, 111, 115, 115], [119, 105, 110, 100], [97, 116], [102, 111, 103], [111, 110], [102, 114, 111, 109], [116, 111], [100, 101, 97, 102], [102, 117, 110, 101, 114, 97, 108], [115, 116, 97, 114, 116, 115], [104, 111, 117, 114]]
/-- rows outside the heap: the script at 100000, the texts' bytes at 100002, 100004 .. -/
def pm_ext (X : PX) (k : Nat) : Option (Nat × Nat × (Nat → Int)) :=
  if k = 100000 then some (0, X.1, X.2.1)
  else if k < 100000 then none
  else if (k - 100000) % 2 = 0 then (pm_strs[(k - 100002) / 2]?).map (fun l => (1, l.length, fun j => l.getD j 0))
  else none
def pm_arr (X : PX) (h : PH) (k : Nat) : Option (Nat × Nat × (Nat → Int)) := match h.2.2 k with
  | some (.inl a) => some a
  | some (.inr _) => none
  | none => pm_ext X k
def pm_isStr (k : Nat) : Bool := decide (100000 < k) && (decide ((k - 100000) % 2 = 1) && decide ((k - 100001) / 2 < 24))
def pm_ftys : List (List Nat) := [[3, 3, 3, 3], [0, 0, 0, 0, 0, 0, 3, 3, 3, 3, 3, 3, 3, 3, 3], [3, 3, 3, 3, 3, 0, 0], [0, 3, 3, 3, 3], [3, 0, 0, 3, 0, 0, 0, 0, 0], [3, 3, 3, 3, 0, 3, 3, 3, 3, 3, 3, 3, 3, 3, 3, 3, 0, 1, 1], [3, 3, 3, 3, 0, 0, 0, 0], [1, 0, 0, 3], [0, 3, 3, 3], [0, 3, 3, 3], [0, 0, 3, 3, 0, 0, 0, 0, 0, 0], [3, 0, 3, 3, 3, 3, 3, 3, 3, 3, 1, 3, 3, 0], [0, 3, 3, 3, 3, 3, 0, 0, 0, 0, 0, 2, 0, 0, 0, 0, 3, 3, 3, 3, 3, 3, 3, 3, 3, 3, 3, 0, 0, 2, 0, 0, 0, 0, 0, 0, 3, 0, 3, 3, 3, 3, 3, 0, 3, 3, 3, 3, 3, 3, 3, 0, 0, 0, 0]]
def pm_fty (enc : Nat) : Nat := (pm_ftys.getD (enc / 100) []).getD (enc % 100) 9
/-- methods: how many arguments (the object itself counts), places of locals, number of its group of methods (99: texts, 98: none), kind of its answer (9: none, 2: long, 3: reference) -/
def pm_mi : List (Nat × Nat × Nat × Nat) := [(1, 3, 11, 9), (1, 1, 99, 9), (1, 1, 4, 9), (1, 1, 1, 9), (1, 1, 3, 9), (1, 1, 9, 9), (1, 1, 8, 9), (1, 1, 0, 9), (1, 1, 10, 9), (1, 1, 2, 9), (5, 5, 5, 9), (4, 4, 6, 9), (1, 1, 7, 9), (6, 6, 11, 0), (2, 3, 11, 9), (2, 2, 11, 0), (1, 2, 11, 0), (3, 4, 4, 1), (2, 2, 98, 0), (1, 1, 1, 9), (2, 4, 98, 9), (1, 1, 4, 9), (2, 2, 4, 1), (2, 2, 4, 1), (1, 1, 4, 9), (1, 3, 4, 9), (2, 2, 4, 9), (2, 3, 4, 1), (1, 1, 99, 0), (1, 1, 99, 4), (2, 2, 99, 5), (1, 1, 99, 1), (2, 2, 98, 5), (2, 2, 98, 9), (3, 3, 98, 0), (2, 2, 98, 5), (2, 2, 98, 9), (1, 1, 98, 0), (2, 2, 98, 5), (2, 2, 4, 9), (3, 4, 4, 0), (1, 1, 4, 9), (1, 4, 4, 9), (3, 3, 4, 9), (4, 4, 1, 9), (1, 5, 4, 9), (1, 1, 4, 0), (5, 5, 3, 9), (1, 4, 4, 9), (4, 4, 8, 9), (3, 6, 4, 9), (1, 4, 4, 9), (4, 4, 9, 9), (2, 2, 1, 9), (2, 2, 3, 9), (2, 2, 9, 9), (2, 2, 8, 9), (1, 1, 11, 9), (2, 5, 0, 9), (2, 4, 98, 9), (2, 2, 11, 0), (3, 3, 11, 0), (2, 2, 11, 1), (2, 2, 98, 0), (3, 3, 11, 0), (2, 2, 11, 1), (3, 3, 11, 0), (2, 2, 11, 1), (3, 3, 3, 0), (2, 2, 98, 0), (1, 1, 11, 0), (1, 1, 11, 1), (1, 1, 11, 3), (2, 2, 10, 9), (1, 3, 5, 9), (1, 2, 5, 9), (1, 2, 2, 9), (6, 7, 2, 9), (3, 5, 5, 1), (2, 2, 5, 1), (3, 4, 5, 9), (2, 3, 5, 9), (3, 5, 5, 9), (2, 3, 5, 0), (5, 7, 5, 9), (1, 5, 11, 9), (3, 4, 11, 0), (2, 2, 5, 1), (2, 2, 11, 0), (3, 3, 11, 0), (3, 3, 11, 0), (2, 5, 11, 0), (3, 6, 11, 0), (3, 4, 5, 0), (3, 6, 11, 0), (2, 3, 11, 0), (2, 4, 11, 1), (3, 5, 11, 0), (1, 1, 98, 1), (2, 4, 5, 0), (2, 3, 5, 0), (2, 3, 5, 0), (4, 4, 11, 0), (3, 3, 11, 1), (1, 1, 11, 0), (1, 1, 5, 0), (3, 4, 11, 0), (3, 3, 98, 0), (3, 4, 11, 0), (3, 3, 11, 0), (1, 4, 6, 0), (2, 2, 6, 9), (4, 5, 98, 9), (3, 3, 98, 9), (3, 3, 6, 1), (1, 1, 98, 0), (3, 4, 6, 9), (2, 2, 98, 0), (3, 3, 11, 0), (1, 4, 6, 0), (1, 3, 5, 0), (2, 2, 11, 0), (2, 4, 11, 0), (3, 3, 11, 1), (2, 3, 11, 0), (4, 4, 11, 0), (4, 4, 11, 0), (3, 7, 11, 0), (2, 2, 11, 0), (2, 5, 5, 0), (3, 4, 11, 0), (1, 6, 11, 0), (3, 3, 11, 0), (2, 5, 11, 0), (3, 5, 5, 1), (2, 3, 11, 0), (2, 4, 5, 0), (2, 3, 11, 0), (2, 4, 5, 0), (2, 5, 11, 0), (2, 6, 11, 0), (3, 5, 11, 0), (2, 7, 11, 0), (2, 2, 11, 0), (2, 7, 11, 0), (3, 5, 11, 0), (2, 3, 11, 0), (1, 3, 11, 0), (2, 5, 11, 1), (2, 8, 11, 0), (2, 5, 11, 0), (2, 3, 11, 0), (2, 2, 11, 0), (2, 2, 11, 0), (1, 6, 11, 0), (4, 10, 11, 0), (3, 4, 5, 0), (3, 4, 11, 0), (3, 4, 11, 0), (2, 2, 11, 1), (2, 5, 11, 0), (2, 6, 11, 0), (2, 3, 11, 0), (1, 1, 98, 1), (3, 4, 7, 1), (3, 3, 7, 1), (4, 5, 11, 0), (4, 4, 11, 0), (4, 7, 6, 9), (2, 5, 7, 0), (2, 4, 98, 2), (1, 4, 7, 0), (2, 4, 98, 2), (2, 3, 5, 0), (4, 8, 5, 1), (3, 3, 6, 9), (5, 6, 11, 0), (4, 5, 11, 0), (2, 3, 11, 0), (4, 4, 11, 0), (2, 2, 98, 1), (3, 4, 11, 9), (4, 8, 10, 9), (6, 8, 11, 0), (2, 3, 11, 0), (2, 3, 7, 1), (2, 8, 11, 0), (1, 1, 98, 0), (2, 2, 11, 0), (1, 3, 11, 0), (2, 2, 11, 0), (2, 2, 11, 0), (4, 4, 11, 0), (3, 3, 7, 9), (2, 5, 98, 9), (4, 6, 11, 0), (2, 3, 7, 2), (6, 8, 11, 0), (3, 3, 7, 1), (1, 2, 12, 9), (4, 5, 12, 0), (1, 1, 98, 1), (3, 6, 98, 1), (4, 5, 12, 0), (2, 3, 98, 2), (6, 7, 12, 0), (6, 6, 12, 0), (2, 3, 12, 9), (2, 2, 12, 0), (2, 2, 12, 0), (1, 1, 12, 0), (1, 2, 12, 9), (1, 1, 12, 9), (1, 2, 12, 9), (4, 4, 12, 1), (1, 1, 12, 1), (2, 3, 12, 9), (2, 3, 12, 1), (2, 3, 12, 1), (2, 2, 12, 9), (4, 5, 12, 0), (3, 4, 12, 0), (1, 2, 12, 9), (2, 2, 12, 0), (2, 2, 12, 0), (1, 3, 12, 9), (1, 3, 12, 9), (1, 1, 12, 0), (1, 2, 12, 9), (1, 4, 12, 9), (4, 5, 12, 9), (1, 1, 12, 9), (1, 1, 12, 9), (3, 3, 12, 9), (4, 5, 98, 9), (3, 3, 12, 0), (2, 3, 12, 1), (3, 3, 12, 0), (2, 2, 12, 1), (3, 3, 12, 0), (2, 3, 12, 1), (1, 1, 12, 9), (1, 4, 12, 9), (3, 5, 12, 0), (1, 1, 12, 0), (1, 1, 12, 1), (1, 1, 12, 9), (1, 3, 12, 9), (6, 7, 12, 9), (3, 5, 12, 9), (4, 6, 12, 9), (5, 10, 12, 9), (4, 5, 98, 1), (3, 3, 12, 0), (3, 3, 12, 0), (2, 2, 12, 0), (3, 3, 12, 0), (3, 5, 12, 0), (2, 2, 12, 0), (3, 4, 12, 0), (2, 2, 12, 0), (3, 5, 12, 0), (2, 5, 12, 0), (3, 7, 12, 0), (1, 2, 98, 1), (4, 4, 12, 0), (1, 1, 12, 0), (3, 3, 12, 0), (4, 5, 12, 0), (3, 3, 12, 0), (3, 5, 12, 0), (1, 3, 98, 0), (3, 3, 12, 0), (2, 2, 12, 1), (3, 5, 12, 0), (2, 4, 12, 0), (2, 3, 12, 0), (4, 4, 12, 0), (4, 6, 12, 0), (3, 7, 12, 0), (2, 2, 12, 0), (2, 4, 12, 0), (1, 3, 12, 0), (3, 3, 12, 0), (2, 4, 12, 0), (3, 4, 12, 1), (2, 4, 12, 0), (2, 3, 12, 0), (2, 4, 12, 0), (2, 5, 12, 0), (3, 4, 12, 0), (2, 4, 12, 0), (2, 2, 12, 0), (2, 7, 12, 0), (2, 5, 12, 0), (1, 7, 12, 0), (2, 6, 12, 0), (2, 3, 12, 1), (2, 5, 12, 0), (2, 3, 12, 0), (2, 2, 12, 0), (2, 3, 12, 0), (1, 6, 12, 0), (1, 5, 12, 0), (4, 9, 12, 0), (3, 4, 12, 0), (2, 6, 12, 0), (2, 3, 12, 0), (3, 4, 12, 0), (3, 4, 12, 0), (2, 2, 12, 1), (2, 7, 12, 0), (2, 4, 12, 0), (4, 5, 12, 0), (4, 4, 12, 0), (4, 7, 12, 9), (2, 4, 12, 0), (4, 8, 12, 1), (5, 6, 12, 0), (4, 5, 12, 0), (2, 3, 12, 0), (4, 6, 12, 0), (3, 3, 12, 1), (3, 4, 12, 9), (6, 10, 12, 0), (2, 6, 12, 0), (2, 4, 12, 0), (2, 2, 12, 0), (2, 2, 12, 0), (1, 4, 98, 1)]
def pm_m (n : Nat) : Nat × Nat × Nat × Nat := pm_mi.getD n (0, 0, 97, 9)
def pm_entry (n : Nat) (args : List PV) : PF := (n, 0, pm_lay args ++ List.replicate ((pm_m n).2.1 - (pm_lay args).length) none, [])
def pm_recv (c : Nat) (h : PH) : List PV → Bool
  | .inr (.inr (some k)) :: _ => if c = 99 then pm_isStr k && (h.2.2 k).isNone else match h.2.2 k with
    | some (.inr (.inr (c', _))) => decide (c' = c)
    | _ => false
  | _ => false
def pm_nx (n pc : Nat) (lo : List (Option PV)) (st : List PV) (h : PH) : Option PS := some (.inl ((n, pc, lo, st), h))
/-- a call: kind 0 on an object, 1 static, 2 a constructor -/
def pm_call (kind len n pc : Nat) (lo : List (Option PV)) (st : List PV) (h : PH) (m : Nat) : Option PS :=
  let na := (pm_m m).1
  let args := (st.take na).reverse
  let rest := st.drop na
  if args.length = na ∧ (pm_lay args).length ≤ (pm_m m).2.1 ∧ pcats rest ≤ 8 ∧ (kind = 1 ∨ pm_recv (pm_m m).2.2.1 h args = true) then some (.inr (.inr (m, args, (n, pc + len, lo, rest)))) else none
def pm_idx (i : Int) (n : Nat) : Bool := decide (0 ≤ w32 i) && decide (w32 i < n)
def pm_step (X : PX) (I : Instr) (len n pc : Nat) (lo : List (Option PV)) (st : List PV) (h : PH) : Option PS := match I with
  | .iconst v => pm_nx n (pc + len) lo (.inl v :: st) h
  | .jsr_w v => pm_nx n (pc + len) lo (.inr (.inl v) :: st) h
  | .ldc j => if j < 24 then pm_nx n (pc + len) lo (.inr (.inr (some (100001 + 2 * j))) :: st) h else none
  | .iload i => match lo[i]? with
    | some (some (.inl x)) => pm_nx n (pc + len) lo (.inl x :: st) h
    | _ => none
  | .lload i => match lo[i]? with
    | some (some (.inr (.inl x))) => pm_nx n (pc + len) lo (.inr (.inl x) :: st) h
    | _ => none
  | .aload i => match lo[i]? with
    | some (some (.inr (.inr (some x)))) => pm_nx n (pc + len) lo (.inr (.inr (some x)) :: st) h
    | _ => none
  | .istore i => match st with
    | .inl x :: r => if i < lo.length then pm_nx n (pc + len) (pset lo i (.inl x)) r h else none
    | _ => none
  | .lstore i => match st with
    | .inr (.inl x) :: r => if i + 1 < lo.length then pm_nx n (pc + len) (pset lo i (.inr (.inl x))) r h else none
    | _ => none
  | .astore i => match st with
    | .inr (.inr (some x)) :: r => if i < lo.length then pm_nx n (pc + len) (pset lo i (.inr (.inr (some x)))) r h else none
    | _ => none
  | .iinc i k => match lo[i]? with
    | some (some (.inl x)) => pm_nx n (pc + len) (pset lo i (.inl (x + k))) st h
    | _ => none
  | .iadd => match st with
    | .inl y :: .inl x :: r => pm_nx n (pc + len) lo (.inl (x + y) :: r) h
    | _ => none
  | .isub => match st with
    | .inl y :: .inl x :: r => pm_nx n (pc + len) lo (.inl (x - y) :: r) h
    | _ => none
  | .imul => match st with
    | .inl y :: .inl x :: r => pm_nx n (pc + len) lo (.inl (x * y) :: r) h
    | _ => none
  | .ineg => match st with
    | .inl x :: r => pm_nx n (pc + len) lo (.inl (-x) :: r) h
    | _ => none
  | .idiv => match st with
    | .inl y :: .inl x :: r => if w32 y = 0 then none else pm_nx n (pc + len) lo (.inl (pm_div x y) :: r) h
    | _ => none
  | .irem => match st with
    | .inl y :: .inl x :: r => if w32 y = 0 then none else pm_nx n (pc + len) lo (.inl (pm_rem x y) :: r) h
    | _ => none
  | .iand => match st with
    | .inl y :: .inl x :: r => pm_nx n (pc + len) lo (.inl (pm_and x y) :: r) h
    | _ => none
  | .ior => match st with
    | .inl y :: .inl x :: r => pm_nx n (pc + len) lo (.inl (pm_or x y) :: r) h
    | _ => none
  | .ixor => match st with
    | .inl y :: .inl x :: r => pm_nx n (pc + len) lo (.inl (pm_xor x y) :: r) h
    | _ => none
  | .ishl => match st with
    | .inl y :: .inl x :: r => pm_nx n (pc + len) lo (.inl (pm_shl x y) :: r) h
    | _ => none
  | .ishr => match st with
    | .inl y :: .inl x :: r => pm_nx n (pc + len) lo (.inl (pm_shr x y) :: r) h
    | _ => none
  | .iushr => match st with
    | .inl y :: .inl x :: r => pm_nx n (pc + len) lo (.inl (pm_ushr x y) :: r) h
    | _ => none
  | .ladd => match st with
    | .inr (.inl y) :: .inr (.inl x) :: r => pm_nx n (pc + len) lo (.inr (.inl (x + y)) :: r) h
    | _ => none
  | .lsub => match st with
    | .inr (.inl y) :: .inr (.inl x) :: r => pm_nx n (pc + len) lo (.inr (.inl (x - y)) :: r) h
    | _ => none
  | .lmul => match st with
    | .inr (.inl y) :: .inr (.inl x) :: r => pm_nx n (pc + len) lo (.inr (.inl (x * y)) :: r) h
    | _ => none
  | .land => match st with
    | .inr (.inl y) :: .inr (.inl x) :: r => pm_nx n (pc + len) lo (.inr (.inl (pm_land x y)) :: r) h
    | _ => none
  | .lor => match st with
    | .inr (.inl y) :: .inr (.inl x) :: r => pm_nx n (pc + len) lo (.inr (.inl (pm_lor x y)) :: r) h
    | _ => none
  | .ldiv => match st with
    | .inr (.inl y) :: .inr (.inl x) :: r => if w64 y = 0 then none else pm_nx n (pc + len) lo (.inr (.inl (pm_ldiv x y)) :: r) h
    | _ => none
  | .lrem => match st with
    | .inr (.inl y) :: .inr (.inl x) :: r => if w64 y = 0 then none else pm_nx n (pc + len) lo (.inr (.inl (pm_lrem x y)) :: r) h
    | _ => none
  | .lshl => match st with
    | .inl y :: .inr (.inl x) :: r => pm_nx n (pc + len) lo (.inr (.inl (pm_lshl x y)) :: r) h
    | _ => none
  | .lcmp => match st with
    | .inr (.inl y) :: .inr (.inl x) :: r => pm_nx n (pc + len) lo (.inl (if w64 x < w64 y then -1 else if w64 x = w64 y then 0 else 1) :: r) h
    | _ => none
  | .i2l => match st with
    | .inl x :: r => pm_nx n (pc + len) lo (.inr (.inl (w32 x)) :: r) h
    | _ => none
  | .l2i => match st with
    | .inr (.inl x) :: r => pm_nx n (pc + len) lo (.inl x :: r) h
    | _ => none
  | .i2b => match st with
    | .inl x :: r => pm_nx n (pc + len) lo (.inl (w8 x) :: r) h
    | _ => none
  | .i2s => match st with
    | .inl x :: r => pm_nx n (pc + len) lo (.inl (w16 x) :: r) h
    | _ => none
  | .i2c => match st with
    | .inl x :: r => pm_nx n (pc + len) lo (.inl (x % 65536) :: r) h
    | _ => none
  | .dup => match st with
    | v :: r => if pcat v = 1 then pm_nx n (pc + len) lo (v :: v :: r) h else none
    | _ => none
  | .pop => match st with
    | v :: r => if pcat v = 1 then pm_nx n (pc + len) lo r h else none
    | _ => none
  | .dup2 => match st with
    | v :: w :: r => if pcat v = 1 ∧ pcat w = 1 then pm_nx n (pc + len) lo (v :: w :: v :: w :: r) h else none
    | _ => none
  | .goto t => pm_nx n t.toNat lo st h
  | .ifCond c t => match st with
    | .inl x :: r => if pm_cond c (w32 x) 0 = true then pm_nx n t.toNat lo r h else pm_nx n (pc + len) lo r h
    | _ => none
  | .if_icmp c t => match st with
    | .inl y :: .inl x :: r => if pm_cond c (w32 x) (w32 y) = true then pm_nx n t.toNat lo r h else pm_nx n (pc + len) lo r h
    | _ => none
  | .tableswitch d lw hg ts => match st with
    | .inl x :: r => if w32 x < lw ∨ hg < w32 x then pm_nx n d.toNat lo r h else match ts[(w32 x - lw).toNat]? with
      | some t => pm_nx n t.toNat lo r h
      | none => none
    | _ => none
  | .lookupswitch d ps => match st with
    | .inl x :: r => match ps.toList.find? (fun q => decide (q.1 = w32 x)) with
      | some q => pm_nx n q.2.toNat lo r h
      | none => pm_nx n d.toNat lo r h
    | _ => none
  | .getfield e => match st with
    | .inr (.inr (some k)) :: r => match h.2.2 k with
      | some (.inr (.inr (c, fs))) => if c = e / 100 then match fs[e % 100]? with
          | some v => pm_nx n (pc + len) lo (v :: r) h
          | none => none
        else none
      | _ => none
    | _ => none
  | .putfield e => match st with
    | v :: .inr (.inr (some k)) :: r => match h.2.2 k with
      | some (.inr (.inr (c, fs))) => if c = e / 100 ∧ e % 100 < fs.length ∧ pm_okv (pm_fty e) v = true then pm_nx n (pc + len) lo r (h.1, h.2.1, fset h.2.2 k (some (.inr (.inr (c, fs.set (e % 100) v))))) else none
      | _ => none
    | _ => none
  | .getstatic j => match j, st with
    | 0, _ => pm_nx n (pc + len) lo (.inl 1 :: st) h
    | 3, _ => pm_nx n (pc + len) lo (.inr (.inr X.2.2) :: st) h
    | 1, .inr (.inr (some k)) :: r => if pm_isStr k = true ∧ (h.2.2 k).isNone = true then pm_nx n (pc + len) lo (.inr (.inr (some (k + 1))) :: r) h else none
    | 2, .inr (.inr (some k)) :: r => if pm_isStr k = true ∧ (h.2.2 k).isNone = true then pm_nx n (pc + len) lo (.inl 0 :: r) h else none
    | _, _ => none
  | .arraylength => match st with
    | .inr (.inr (some k)) :: r => match pm_arr X h k with
      | some a => pm_nx n (pc + len) lo (.inl a.2.1 :: r) h
      | none => none
    | _ => none
  | .iaload => match st with
    | .inl i :: .inr (.inr (some k)) :: r => match pm_arr X h k with
      | some a => if a.1 = 0 ∧ pm_idx i a.2.1 = true then pm_nx n (pc + len) lo (.inl (a.2.2 (w32 i).toNat) :: r) h else none
      | none => none
    | _ => none
  | .baload => match st with
    | .inl i :: .inr (.inr (some k)) :: r => match pm_arr X h k with
      | some a => if (a.1 = 1 ∨ a.1 = 2) ∧ pm_idx i a.2.1 = true then pm_nx n (pc + len) lo (.inl (a.2.2 (w32 i).toNat) :: r) h else none
      | none => none
    | _ => none
  | .laload => match st with
    | .inl i :: .inr (.inr (some k)) :: r => match pm_arr X h k with
      | some a => if a.1 = 3 ∧ pm_idx i a.2.1 = true then pm_nx n (pc + len) lo (.inr (.inl (a.2.2 (w32 i).toNat)) :: r) h else none
      | none => none
    | _ => none
  | .aaload => match st with
    | .inl i :: .inr (.inr (some k)) :: r => match h.2.2 k with
      | some (.inr (.inl a)) => if (a.1 = 4 ∨ a.1 = 5) ∧ pm_idx i a.2.1 = true then pm_nx n (pc + len) lo (.inr (.inr (a.2.2 (w32 i).toNat)) :: r) h else none
      | _ => none
    | _ => none
  | .iastore => match st with
    | .inl v :: .inl i :: .inr (.inr (some k)) :: r => match h.2.2 k with
      | some (.inl a) => if a.1 = 0 ∧ pm_idx i a.2.1 = true then pm_nx n (pc + len) lo r (h.1, h.2.1, fset h.2.2 k (some (.inl (a.1, a.2.1, fset a.2.2 (w32 i).toNat v)))) else none
      | _ => none
    | _ => none
  | .lastore => match st with
    | .inr (.inl v) :: .inl i :: .inr (.inr (some k)) :: r => match h.2.2 k with
      | some (.inl a) => if a.1 = 3 ∧ pm_idx i a.2.1 = true then pm_nx n (pc + len) lo r (h.1, h.2.1, fset h.2.2 k (some (.inl (a.1, a.2.1, fset a.2.2 (w32 i).toNat v)))) else none
      | _ => none
    | _ => none
  | .bastore => match st with
    | .inl v :: .inl i :: .inr (.inr (some k)) :: r => match h.2.2 k with
      | some (.inl a) => if a.1 = 1 ∧ pm_idx i a.2.1 = true then pm_nx n (pc + len) lo r (h.1, h.2.1, fset h.2.2 k (some (.inl (a.1, a.2.1, fset a.2.2 (w32 i).toNat (w8 v)))))
          else if a.1 = 2 ∧ pm_idx i a.2.1 = true ∧ pm_okv 1 (.inl v) = true then pm_nx n (pc + len) lo r (h.1, h.2.1, fset h.2.2 k (some (.inl (a.1, a.2.1, fset a.2.2 (w32 i).toNat v)))) else none
      | _ => none
    | _ => none
  | .aastore => match st with
    | .inr (.inr (some v)) :: .inl i :: .inr (.inr (some k)) :: r => match h.2.2 k, h.2.2 v with
      | some (.inr (.inl a)), some (.inr (.inr (c, _))) => if ((a.1 = 4 ∧ c = 7) ∨ (a.1 = 5 ∧ c = 1)) ∧ pm_idx i a.2.1 = true then pm_nx n (pc + len) lo r (h.1, h.2.1, fset h.2.2 k (some (.inr (.inl (a.1, a.2.1, fset a.2.2 (w32 i).toNat (some v)))))) else none
      | _, _ => none
    | _ => none
  | .new c => if h.1 < 1000 ∧ h.2.1 < 1000000 ∧ c < 13 then pm_nx n (pc + len) lo (.inr (.inr (some h.1)) :: st) (h.1 + 1, h.2.1 + (pm_ftys.getD c []).length, fset h.2.2 h.1 (some (.inr (.inr (c, (pm_ftys.getD c []).map pm_dflt))))) else none
  | .newarray t => match st, pm_aty t with
    | .inl v :: r, some ty => if h.1 < 1000 ∧ h.2.1 < 1000000 ∧ pm_idx v 1000000 = true then pm_nx n (pc + len) lo (.inr (.inr (some h.1)) :: r) (h.1 + 1, h.2.1 + (w32 v).toNat, fset h.2.2 h.1 (some (.inl (ty, (w32 v).toNat, fun _ => 0)))) else none
    | _, _ => none
  | .anewarray ty => match st with
    | .inl v :: r => if h.1 < 1000 ∧ h.2.1 < 1000000 ∧ (ty = 4 ∨ ty = 5) ∧ pm_idx v 1000000 = true then pm_nx n (pc + len) lo (.inr (.inr (some h.1)) :: r) (h.1 + 1, h.2.1 + (w32 v).toNat, fset h.2.2 h.1 (some (.inr (.inl (ty, (w32 v).toNat, fun _ => none))))) else none
    | _ => none
  | .ireturn => match st with
    | [.inl v] => if pm_okr (pm_m n).2.2.2 v = true then some (.inr (.inl (some (.inl v)))) else none
    | _ => none
  | .lreturn => match st with
    | [.inr (.inl v)] => if (pm_m n).2.2.2 = 2 then some (.inr (.inl (some (.inr (.inl v))))) else none
    | _ => none
  | .areturn => match st with
    | [.inr (.inr (some v))] => if (pm_m n).2.2.2 = 3 then some (.inr (.inl (some (.inr (.inr (some v)))))) else none
    | _ => none
  | .return_ => match st with
    | [] => if (pm_m n).2.2.2 = 9 then some (.inr (.inl none)) else none
    | _ => none
  | .invokevirtual m => pm_call 0 len n pc lo st h m
  | .invokestatic m => pm_call 1 len n pc lo st h m
  | .invokespecial m => pm_call 2 len n pc lo st h m
  | .invokedynamic j => match j, st with
    | 0, .inl c :: .inl dp :: .inr (.inr (some k1)) :: .inl sp :: .inr (.inr (some k0)) :: r => match h.2.2 k0, h.2.2 k1 with
      | some (.inl a0), some (.inl a1) => if a0.1 = a1.1 ∧ (a0.1 = 0 ∨ a0.1 = 3) ∧ 0 ≤ w32 c ∧ 0 ≤ w32 dp ∧ 0 ≤ w32 sp ∧ w32 sp + w32 c ≤ a0.2.1 ∧ w32 dp + w32 c ≤ a1.2.1 ∧ pcats r ≤ 8
          then pm_nx n (pc + len) lo r (h.1, h.2.1, fset h.2.2 k1 (some (.inl (a1.1, a1.2.1, va_cpy a0.2.2 a1.2.2 (w32 sp).toNat (w32 dp).toNat (w32 c).toNat)))) else none
      | _, _ => none
    | 3, .inr (.inr (some _)) :: r => if pcats r ≤ 8 then pm_nx n (pc + len) lo r h else none
    | _, _ => none
  | _ => none

/-- how linked instructions read: fields, methods (1000: arraycopy, 1001: an object's birth; behind it 1: among nest mates), whole numbers, texts, makings -/
def pm_tF : List (Nat × Nat × Nat) := [(3, 24, 300), (1, 76, 300), (6, 69, 300), (5, 176, 300), (4, 130, 300), (11, 276, 300), (3, 9, 301), (5, 188, 301), (11, 148, 301), (3, 15, 302), (5, 179, 302), (11, 153, 302), (3, 18, 303), (11, 156, 303), (3, 21, 304), (11, 159, 304), (9, 21, 900), (1, 79, 900), (5, 128, 900), (6, 121, 900), (4, 212, 900), (11, 428, 900), (9, 9, 901), (5, 132, 901), (9, 15, 902), (5, 131, 902), (11, 363, 902), (9, 18, 903), (5, 133, 903), (8, 21, 800), (0, 47, 800), (1, 80, 800), (4, 111, 800), (8, 9, 801), (0, 55, 801), (8, 15, 802), (0, 52, 802), (8, 18, 803), (0, 64, 803), (1, 51, 100), (6, 33, 100), (5, 82, 100), (4, 142, 100), (11, 221, 100), (1, 55, 101), (0, 40, 101), (10, 50, 101), (5, 198, 101), (4, 168, 101), (11, 215, 101), (1, 58, 102), (4, 53, 102), (11, 109, 102), (1, 61, 103), (4, 170, 103), (10, 22, 104), (1, 64, 104), (11, 134, 104), (10, 29, 105), (1, 67, 105), (11, 162, 105), (1, 9, 106), (5, 155, 106), (11, 125, 106), (1, 15, 107), (11, 128, 107), (5, 227, 107), (1, 18, 108), (5, 147, 108), (11, 131, 108), (1, 24, 109), (6, 65, 109), (5, 172, 109), (11, 144, 109), (4, 126, 109), (1, 31, 110), (10, 33, 110), (4, 209, 110), (11, 362, 110), (1, 38, 111), (0, 44, 111), (4, 202, 111), (1, 42, 112), (0, 24, 112), (4, 107, 112), (1, 45, 113), (0, 34, 113), (4, 139, 113), (1, 48, 114), (0, 37, 114), (4, 147, 114), (4, 12, 400), (11, 99, 400), (4, 18, 401), (11, 115, 401), (4, 22, 402), (11, 118, 402), (4, 25, 403), (4, 35, 404), (4, 47, 405), (4, 56, 406), (4, 41, 407), (4, 66, 408), (0, 9, 0), (5, 221, 0), (11, 168, 0), (0, 15, 1), (5, 201, 1), (0, 18, 2), (5, 206, 2), (0, 21, 3), (5, 224, 3), (6, 27, 1000), (10, 28, 1000), (5, 141, 1000), (10, 32, 1001), (6, 62, 1001), (5, 182, 1001), (11, 280, 1001), (10, 12, 1002), (5, 124, 1002), (6, 117, 1002), (11, 290, 1002), (10, 18, 1003), (5, 218, 1003), (11, 306, 1003), (10, 44, 1004), (5, 144, 1004), (11, 347, 1004), (10, 47, 1005), (5, 169, 1005), (11, 353, 1005), (5, 73, 1006), (10, 53, 1006), (6, 114, 1006), (10, 56, 1007), (5, 160, 1007), (11, 262, 1007), (10, 59, 1008), (5, 163, 1008), (11, 253, 1008), (10, 62, 1009), (5, 166, 1009), (11, 268, 1009), (2, 9, 200), (5, 87, 200), (2, 15, 201), (5, 154, 201), (2, 18, 202), (5, 158, 202), (2, 21, 203), (5, 159, 203), (2, 24, 204), (5, 138, 204), (2, 27, 205), (5, 64, 205), (2, 31, 206), (5, 70, 206), (5, 45, 500), (5, 49, 501), (5, 53, 502), (5, 57, 503), (5, 102, 504), (11, 182, 504), (5, 9, 505), (11, 188, 505), (5, 15, 506), (11, 191, 506), (5, 18, 507), (11, 194, 507), (5, 21, 508), (11, 197, 508), (5, 24, 509), (11, 200, 509), (5, 27, 510), (11, 203, 510), (5, 30, 511), (11, 315, 511), (5, 33, 512), (11, 318, 512), (5, 36, 513), (11, 321, 513), (5, 39, 514), (11, 212, 514), (5, 42, 515), (6, 55, 516), (5, 109, 516), (11, 412, 516), (5, 78, 517), (6, 51, 518), (5, 112, 518), (11, 284, 518), (6, 15, 600), (6, 19, 601), (6, 23, 602), (6, 9, 603), (6, 94, 604), (11, 381, 604), (6, 97, 605), (11, 384, 605), (6, 100, 606), (11, 387, 606), (6, 103, 607), (11, 390, 607), (7, 15, 700), (11, 400, 700), (7, 19, 701), (11, 440, 701), (7, 29, 702), (5, 236, 702), (11, 367, 702), (7, 9, 703), (5, 241, 703), (11, 370, 703), (11, 9, 1100), (11, 13, 1101), (11, 20, 1102), (11, 27, 1103), (11, 34, 1104), (11, 53, 1105), (11, 57, 1106), (11, 41, 1107), (11, 65, 1108), (11, 69, 1109), (11, 73, 1110), (11, 79, 1111), (11, 84, 1112), (11, 88, 1113), (12, 104, 1200), (12, 7, 1201), (12, 13, 1202), (12, 16, 1203), (12, 20, 1204), (12, 23, 1205), (12, 121, 1206), (12, 128, 1207), (12, 145, 1208), (12, 135, 1209), (12, 138, 1210), (12, 141, 1211), (12, 156, 1212), (12, 159, 1213), (12, 183, 1214), (12, 27, 1215), (12, 31, 1216), (12, 34, 1217), (12, 37, 1218), (12, 40, 1219), (12, 43, 1220), (12, 46, 1221), (12, 49, 1222), (12, 52, 1223), (12, 55, 1224), (12, 58, 1225), (12, 62, 1226), (12, 301, 1227), (12, 307, 1228), (12, 312, 1229), (12, 321, 1230), (12, 324, 1231), (12, 330, 1232), (12, 333, 1233), (12, 304, 1234), (12, 327, 1235), (12, 65, 1236), (12, 359, 1237), (12, 68, 1238), (12, 71, 1239), (12, 74, 1240), (12, 77, 1241), (12, 80, 1242), (12, 348, 1243), (12, 83, 1244), (12, 86, 1245), (12, 89, 1246), (12, 92, 1247), (12, 95, 1248), (12, 98, 1249), (12, 101, 1250), (12, 455, 1251), (12, 464, 1252), (12, 467, 1253), (12, 458, 1254)]
def pm_tM : List (Nat × Nat × Nat × Nat) := [(13, 9, (0, 0)), (11, 3, (1001, 0)), (11, 19, (2, 1)), (4, 3, (1001, 0)), (4, 11, (3, 1)), (1, 3, (1001, 0)), (1, 23, (4, 1)), (3, 3, (1001, 0)), (1, 30, (5, 1)), (9, 3, (1001, 0)), (1, 37, (6, 1)), (8, 3, (1001, 0)), (11, 26, (3, 1)), (11, 33, (7, 1)), (0, 3, (1001, 0)), (11, 40, (8, 1)), (10, 3, (1001, 0)), (10, 11, (5, 1)), (11, 47, (9, 1)), (2, 3, (1001, 0)), (11, 50, (10, 0)), (5, 3, (1001, 0)), (11, 62, (11, 0)), (6, 3, (1001, 0)), (11, 83, (12, 1)), (7, 3, (1001, 0)), (13, 13, (13, 0)), (11, 91, (14, 0)), (13, 18, (15, 0)), (13, 23, (16, 0)), (11, 95, (17, 0)), (4, 29, (18, 0)), (4, 38, (19, 0)), (1, 70, (20, 0)), (4, 44, (21, 0)), (4, 59, (22, 0)), (4, 63, (23, 0)), (4, 50, (24, 0)), (4, 87, (25, 0)), (4, 122, (26, 0)), (4, 79, (27, 0)), (4, 70, (28, 0)), (17, 335, (29, 0)), (4, 75, (30, 0)), (17, 492, (31, 0)), (17, 495, (32, 0)), (18, 9, (33, 0)), (17, 1059, (34, 0)), (17, 498, (35, 0)), (4, 83, (39, 0)), (4, 160, (40, 0)), (4, 165, (41, 0)), (4, 92, (42, 0)), (4, 116, (43, 0)), (4, 181, (44, 0)), (4, 97, (45, 0)), (4, 189, (46, 0)), (4, 192, (47, 0)), (4, 102, (48, 0)), (4, 205, (49, 0)), (4, 133, (50, 0)), (4, 154, (51, 0)), (4, 217, (52, 0)), (11, 102, (53, 0)), (1, 81, (1000, 0)), (1, 87, (54, 0)), (3, 28, (1000, 0)), (1, 91, (55, 0)), (9, 25, (1000, 0)), (1, 94, (56, 0)), (8, 25, (1000, 0)), (11, 106, (57, 0)), (11, 112, (58, 0)), (0, 30, (59, 0)), (0, 58, (20, 0)), (13, 28, (60, 0)), (13, 32, (61, 0)), (11, 121, (62, 0)), (11, 137, (63, 0)), (13, 37, (64, 0)), (11, 141, (65, 0)), (13, 41, (66, 0)), (11, 165, (67, 0)), (11, 171, (68, 0)), (3, 34, (69, 0)), (13, 45, (70, 0)), (11, 174, (71, 0)), (11, 178, (72, 0)), (11, 250, (73, 0)), (10, 34, (55, 0)), (10, 38, (20, 0)), (11, 281, (74, 0)), (5, 61, (75, 0)), (5, 115, (20, 0)), (5, 121, (76, 0)), (5, 134, (77, 0)), (2, 34, (18, 0)), (2, 40, (69, 0)), (5, 90, (63, 1)), (5, 94, (78, 0)), (5, 150, (79, 0)), (5, 98, (80, 0)), (5, 105, (81, 0)), (5, 185, (82, 0)), (5, 191, (83, 0)), (5, 213, (18, 0)), (5, 195, (68, 0)), (5, 209, (84, 0)), (11, 453, (85, 0)), (13, 49, (86, 0)), (11, 185, (87, 0)), (13, 53, (88, 0)), (13, 57, (89, 0)), (11, 206, (90, 0)), (13, 61, (91, 0)), (13, 65, (92, 0)), (11, 209, (93, 0)), (13, 69, (94, 0)), (13, 73, (95, 0)), (11, 218, (96, 0)), (13, 77, (97, 0)), (11, 224, (98, 0)), (11, 227, (99, 0)), (11, 231, (100, 0)), (11, 234, (101, 0)), (13, 81, (102, 0)), (11, 237, (103, 0)), (13, 86, (104, 0)), (11, 242, (105, 0)), (13, 90, (106, 0)), (11, 246, (107, 0)), (13, 94, (108, 0)), (13, 98, (109, 0)), (11, 256, (110, 0)), (6, 38, (111, 0)), (6, 78, (112, 0)), (16, 13, (113, 0)), (6, 42, (114, 0)), (6, 84, (115, 0)), (6, 46, (74, 0)), (6, 58, (116, 0)), (6, 90, (63, 1)), (11, 259, (117, 0)), (11, 271, (115, 0)), (13, 102, (118, 0)), (11, 265, (119, 0)), (6, 74, (120, 0)), (13, 214, (121, 0)), (13, 106, (122, 0)), (11, 277, (123, 0)), (13, 110, (124, 0)), (13, 114, (125, 0)), (11, 287, (126, 0)), (11, 294, (52, 0)), (13, 118, (127, 0)), (13, 122, (128, 0)), (11, 300, (129, 0)), (5, 230, (93, 0)), (5, 233, (69, 0)), (11, 303, (130, 0)), (11, 309, (20, 0)), (13, 190, (131, 0)), (13, 126, (132, 0)), (13, 130, (133, 0)), (11, 324, (134, 0)), (13, 134, (135, 0)), (11, 327, (136, 0)), (13, 138, (137, 0)), (11, 330, (138, 0)), (13, 142, (139, 0)), (13, 146, (140, 0)), (11, 333, (69, 0)), (13, 150, (141, 0)), (13, 154, (142, 0)), (13, 158, (143, 0)), (11, 338, (144, 0)), (11, 341, (145, 0)), (13, 162, (146, 0)), (13, 166, (147, 0)), (11, 344, (148, 0)), (13, 170, (149, 0)), (13, 174, (150, 0)), (13, 178, (151, 0)), (13, 182, (152, 0)), (11, 350, (153, 0)), (13, 186, (154, 0)), (13, 194, (155, 0)), (11, 356, (156, 0)), (13, 202, (157, 0)), (13, 206, (158, 0)), (11, 359, (159, 0)), (13, 210, (160, 0)), (13, 198, (161, 0)), (11, 364, (162, 0)), (11, 397, (163, 0)), (11, 402, (164, 0)), (7, 38, (165, 0)), (13, 218, (166, 0)), (11, 374, (167, 0)), (11, 377, (168, 0)), (6, 106, (169, 0)), (7, 42, (170, 0)), (6, 111, (171, 0)), (7, 45, (172, 0)), (6, 124, (52, 0)), (6, 128, (173, 0)), (5, 245, (174, 0)), (6, 132, (175, 0)), (13, 222, (176, 0)), (13, 227, (177, 0)), (13, 231, (178, 0)), (11, 393, (173, 0)), (13, 235, (179, 0)), (11, 405, (180, 0)), (11, 408, (181, 0)), (11, 415, (182, 0)), (13, 239, (183, 0)), (13, 243, (184, 0)), (11, 419, (185, 0)), (11, 422, (186, 0)), (11, 425, (187, 0)), (13, 247, (188, 0)), (11, 429, (189, 0)), (13, 251, (190, 0)), (13, 255, (191, 0)), (13, 259, (192, 0)), (11, 432, (193, 0)), (7, 23, (18, 0)), (7, 32, (194, 0)), (13, 265, (195, 0)), (11, 436, (196, 0)), (13, 270, (197, 0)), (11, 443, (198, 0)), (11, 446, (1000, 0)), (13, 12, (199, 0)), (12, 1, (1001, 0)), (13, 262, (200, 0)), (12, 113, (201, 0)), (12, 109, (202, 0)), (13, 269, (203, 0)), (12, 117, (204, 0)), (13, 273, (205, 0)), (13, 17, (206, 0)), (12, 124, (207, 0)), (13, 22, (208, 0)), (13, 31, (209, 0)), (13, 27, (210, 0)), (12, 258, (211, 0)), (12, 261, (212, 0)), (12, 166, (213, 0)), (12, 131, (214, 0)), (12, 264, (215, 0)), (12, 175, (216, 0)), (12, 169, (217, 0)), (12, 162, (218, 0)), (12, 172, (219, 0)), (12, 198, (220, 0)), (12, 179, (221, 0)), (12, 274, (222, 0)), (12, 186, (223, 0)), (12, 237, (224, 0)), (12, 240, (225, 0)), (12, 243, (226, 0)), (12, 201, (227, 0)), (12, 246, (228, 0)), (12, 249, (229, 0)), (12, 254, (230, 0)), (12, 277, (231, 0)), (12, 280, (232, 0)), (12, 283, (233, 0)), (12, 287, (234, 0)), (13, 36, (235, 0)), (12, 293, (236, 0)), (13, 40, (237, 0)), (12, 296, (238, 0)), (13, 44, (239, 0)), (12, 336, (240, 0)), (12, 339, (241, 0)), (12, 342, (242, 0)), (12, 345, (243, 0)), (13, 48, (244, 0)), (12, 376, (245, 0)), (12, 379, (246, 0)), (12, 373, (247, 0)), (12, 355, (248, 0)), (12, 370, (249, 0)), (12, 366, (250, 0)), (12, 362, (251, 0)), (12, 351, (252, 0)), (13, 52, (253, 0)), (12, 382, (254, 0)), (13, 56, (255, 0)), (13, 60, (256, 0)), (12, 386, (257, 0)), (13, 64, (258, 0)), (13, 68, (259, 0)), (12, 391, (260, 0)), (13, 72, (261, 0)), (13, 76, (262, 0)), (13, 80, (263, 0)), (12, 394, (264, 0)), (13, 85, (265, 0)), (13, 89, (266, 0)), (13, 93, (267, 0)), (12, 398, (268, 0)), (13, 97, (269, 0)), (13, 101, (270, 0)), (12, 402, (271, 0)), (12, 405, (272, 0)), (12, 408, (273, 0)), (13, 105, (274, 0)), (13, 109, (275, 0)), (13, 113, (276, 0)), (13, 117, (277, 0)), (12, 411, (278, 0)), (13, 121, (279, 0)), (13, 125, (280, 0)), (12, 418, (281, 0)), (12, 421, (282, 0)), (13, 129, (283, 0)), (13, 133, (284, 0)), (12, 424, (285, 0)), (13, 137, (286, 0)), (13, 141, (287, 0)), (13, 145, (288, 0)), (13, 149, (289, 0)), (13, 153, (290, 0)), (13, 157, (291, 0)), (13, 161, (292, 0)), (12, 428, (293, 0)), (13, 165, (294, 0)), (13, 169, (295, 0)), (13, 173, (296, 0)), (12, 431, (297, 0)), (13, 177, (298, 0)), (13, 181, (299, 0)), (13, 185, (300, 0)), (12, 436, (301, 0)), (13, 189, (302, 0)), (13, 193, (303, 0)), (13, 197, (304, 0)), (12, 439, (305, 0)), (13, 201, (306, 0)), (12, 442, (307, 0)), (13, 205, (308, 0)), (13, 209, (309, 0)), (12, 447, (310, 0)), (13, 213, (311, 0)), (13, 217, (312, 0)), (13, 221, (313, 0)), (12, 470, (314, 0)), (12, 473, (315, 0)), (12, 461, (316, 0)), (12, 452, (317, 0)), (13, 226, (318, 0)), (13, 230, (319, 0)), (13, 234, (320, 0)), (13, 238, (321, 0)), (12, 478, (322, 0)), (12, 481, (323, 0)), (13, 242, (324, 0)), (13, 246, (325, 0)), (13, 250, (326, 0)), (13, 254, (327, 0)), (13, 258, (328, 0))]
def pm_tK : List (Nat × Nat × Int) := [(4, 69, 1000000), (11, 241, -2000000), (15, 265, 1431655765), (15, 266, 858993459), (15, 267, 252645135), (11, 452, 2000000000), (12, 154, 100000), (12, 155, 1000000), (12, 397, -2000000)]
def pm_tL : List (Nat × Nat × Int) := [(10, 65, 1103515245), (10, 67, 12345), (10, 69, 2147483648), (10, 71, 65536), (10, 73, 2), (12, 107, 3), (12, 148, -1), (12, 150, 27), (12, 152, 96), (12, 268, 1510), (12, 270, 34791381541), (12, 272, 7434633727), (12, 223, 47724803), (12, 225, 3690), (12, 227, 283291417), (12, 229, 459652), (12, 231, 4786), (12, 233, 82410), (12, 235, 2633401731), (12, 190, 2682144), (12, 192, 8868856), (12, 194, 237470), (12, 196, 9678763), (12, 205, 411), (12, 207, 10656676), (12, 209, 16308991), (12, 211, 778957), (12, 213, 488582165), (12, 215, 47), (12, 221, 168984), (12, 252, 419), (12, 217, 131638), (12, 219, 555), (12, 299, 4), (12, 310, 1103515245), (12, 315, 12345), (12, 317, 2147483648), (12, 319, 65536), (12, 384, 7), (12, 389, 2), (12, 291, 99), (12, 414, -20), (12, 416, 20), (12, 434, 6), (12, 445, 60), (12, 450, 300), (12, 476, 2000000000), (13, 263, 4294967295)]
def pm_tS : List (Nat × Nat × Nat) := [(4, 157, 0), (4, 159, 1), (4, 163, 2), (4, 90, 3), (4, 173, 4), (4, 175, 5), (4, 177, 6), (4, 179, 7), (4, 95, 8), (4, 185, 9), (4, 187, 10), (4, 196, 11), (4, 198, 12), (4, 200, 13), (4, 100, 14), (4, 150, 15), (4, 105, 16), (4, 120, 17), (4, 207, 18), (4, 208, 19), (4, 137, 20), (4, 145, 21), (4, 152, 22), (4, 215, 23)]
def pm_tC : List (Nat × Nat × Nat) := [(13, 7, 11), (11, 17, 4), (4, 9, 1), (1, 21, 3), (1, 28, 9), (1, 35, 8), (11, 24, 1), (11, 31, 0), (11, 38, 10), (10, 9, 9), (11, 45, 2), (11, 48, 5), (11, 60, 6), (11, 77, 7), (13, 10, 12)]
def pm_fi {α : Type} (t : List (Nat × Nat × α)) (a b : Nat) : Option α := (t.find? (fun q => Nat.beq q.1 a && Nat.beq q.2.1 b)).map (fun q => q.2.2)
def pm_res (own pc : Nat) (J : Instr) : Option Instr := match J with
  | .aload_n k => some (.aload k)
  | .astore_n k => some (.astore k)
  | .iload_n k => some (.iload k)
  | .istore_n k => some (.istore k)
  | .lload_n k => some (.lload k)
  | .lstore_n k => some (.lstore k)
  | .lconst k => some (.jsr_w (k : Nat))
  | .bipush v => if -128 ≤ v ∧ v < 128 then some (.iconst v) else none
  | .sipush v => if -32768 ≤ v ∧ v < 32768 then some (.iconst v) else none
  | .ldc i => match pm_fi pm_tK own i with
    | some v => some (.iconst v)
    | none => (pm_fi pm_tS own i).map (fun j => .ldc j)
  | .ldc_w i => (pm_fi pm_tK own i).map (fun v => .iconst v)
  | .ldc2_w i => (pm_fi pm_tL own i).map (fun v => .jsr_w v)
  | .goto o => if 0 ≤ (pc : Int) + o then some (.goto ((pc : Int) + o)) else none
  | .ifCond c o => if 0 ≤ (pc : Int) + o then some (.ifCond c ((pc : Int) + o)) else none
  | .if_icmp c o => if 0 ≤ (pc : Int) + o then some (.if_icmp c ((pc : Int) + o)) else none
  | .tableswitch d l h os => if 0 ≤ (pc : Int) + d ∧ os.all (fun o => decide (0 ≤ (pc : Int) + o)) = true then some (.tableswitch ((pc : Int) + d) l h (os.map (fun o => (pc : Int) + o))) else none
  | .lookupswitch d ps => if 0 ≤ (pc : Int) + d ∧ ps.all (fun o => decide (0 ≤ (pc : Int) + o.2)) = true ∧ (ps.toList.zip (ps.toList.drop 1)).all (fun (a, next) => a.1 < next.1) = true then some (.lookupswitch ((pc : Int) + d) (ps.map (fun o => (o.1, (pc : Int) + o.2)))) else none
  | .getfield i => match pm_fi pm_tF own i with
    | some e => some (.getfield e)
    | none => if own = 17 ∧ i = 9 then some (.getstatic 1) else if own = 17 ∧ i = 15 then some (.getstatic 2) else none
  | .getstatic i => if own = 17 ∧ i = 38 then some (.getstatic 0) else if own = 17 ∧ i = 1053 then some (.getstatic 3) else none
  | .putfield i => (pm_fi pm_tF own i).map (fun e => .putfield e)
  | .invokevirtual i => match pm_fi pm_tM own i with
    | some q => if q.1 < 1000 then some (.invokevirtual q.1) else none
    | none => none
  | .invokestatic i => match pm_fi pm_tM own i with
    | some q => if q.1 < 1000 then some (.invokestatic q.1) else if q.1 = 1000 then some (.invokedynamic 0) else none
    | none => none
  | .invokespecial i => match pm_fi pm_tM own i with
    | some q => if q.1 < 1000 then some (.invokespecial q.1) else if q.1 = 1001 then some (.invokedynamic 3) else none
    | none => none
  | .new i => (pm_fi pm_tC own i).map (fun c => .new c)
  | .anewarray i => match pm_fi pm_tC own i with
    | some c => if c = 7 then some (.anewarray 4) else if c = 1 then some (.anewarray 5) else none
    | none => none
  | .newarray t => some (.newarray t)
  | .iinc i c => some (.iinc i c)
  | .iload i => some (.iload i)
  | .lload i => some (.lload i)
  | .aload i => some (.aload i)
  | .istore i => some (.istore i)
  | .lstore i => some (.lstore i)
  | .astore i => some (.astore i)
  | .iconst v => some (.iconst v)
  | .iadd => some .iadd
  | .isub => some .isub
  | .imul => some .imul
  | .ineg => some .ineg
  | .idiv => some .idiv
  | .irem => some .irem
  | .iand => some .iand
  | .ior => some .ior
  | .ixor => some .ixor
  | .ishl => some .ishl
  | .ishr => some .ishr
  | .iushr => some .iushr
  | .ladd => some .ladd
  | .lsub => some .lsub
  | .lmul => some .lmul
  | .land => some .land
  | .lor => some .lor
  | .ldiv => some .ldiv
  | .lrem => some .lrem
  | .lshl => some .lshl
  | .lcmp => some .lcmp
  | .i2l => some .i2l
  | .l2i => some .l2i
  | .i2b => some .i2b
  | .i2s => some .i2s
  | .i2c => some .i2c
  | .dup => some .dup
  | .pop => some .pop
  | .dup2 => some .dup2
  | .arraylength => some .arraylength
  | .iaload => some .iaload
  | .baload => some .baload
  | .laload => some .laload
  | .aaload => some .aaload
  | .iastore => some .iastore
  | .bastore => some .bastore
  | .lastore => some .lastore
  | .aastore => some .aastore
  | .ireturn => some .ireturn
  | .lreturn => some .lreturn
  | .areturn => some .areturn
  | .return_ => some .return_
  | _ => none
/-- how long an instruction is (no wide forms) -/
def pm_ln (J : Instr) (len : Nat) : Nat := match J with
  | .tableswitch _ _ _ _ => len
  | .lookupswitch _ _ => len
  | .bipush _ => 2
  | .ldc _ => 2
  | .iload _ => 2
  | .lload _ => 2
  | .aload _ => 2
  | .istore _ => 2
  | .lstore _ => 2
  | .astore _ => 2
  | .newarray _ => 2
  | .sipush _ => 3
  | .ldc_w _ => 3
  | .ldc2_w _ => 3
  | .goto _ => 3
  | .ifCond _ _ => 3
  | .if_icmp _ _ => 3
  | .getfield _ => 3
  | .putfield _ => 3
  | .getstatic _ => 3
  | .invokevirtual _ => 3
  | .invokestatic _ => 3
  | .invokespecial _ => 3
  | .new _ => 3
  | .anewarray _ => 3
  | .iinc _ _ => 3
  | _ => 1
def pm_chk (own : Nat) (cc : ByteArray) (q : Nat × Instr × Nat) : Bool := match decode cc q.1 with
  | .ok (J, len) => decide (pm_res own q.1 J = some q.2.1) && (Nat.beq len q.2.2 && Nat.beq (pm_ln J len) len)
  | .error _ => false
