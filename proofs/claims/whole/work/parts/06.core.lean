/-! zi: one interpreter for the bytecode that class, reference and law use. Ints and longs are kept as Int (read modulo 2^32, 2^64 where it counts), references as places; what refers to what never changes. -/
abbrev zV : Type := Int ⊕ (Int ⊕ Option Nat)
abbrev zI (a : Int) : zV := .inl a
abbrev zJ (a : Int) : zV := .inr (.inl a)
abbrev zR (a : Option Nat) : zV := .inr (.inr a)
abbrev zL : Type := List (Option zV)
abbrev zS : Type := Nat → Nat → Int
/-- name, code, locals, return type, number of its class, slots cleared at a place -/
abbrev zM : Type := MethodName × ByteArray × Nat × Option FieldType × Nat × List (Nat × List Nat)
def nrm (z : Int) : Int := (z + 2147483648) % 4294967296 - 2147483648
def nrL (z : Int) : Int := (z + 9223372036854775808) % 18446744073709551616 - 9223372036854775808
def zup (σ : zS) (q i : Nat) (v : Int) : zS := fun a b => if a = q ∧ b = i then v else σ a b
abbrev zix (i : Int) (n : Nat) : Prop := 0 ≤ nrm i ∧ nrm i < n
-- the places: 0 the object; 1, 6, 11 coaches; 16 shelves; 17, 18 sittings; 19 ways; 20 + 2i shelf i; 36 the reference; 37.. its arrays; 51 the law's long[1]; 52 the script
def zkdL : List Nat := [2, 0, 4, 4, 4, 4, 0, 4, 4, 4, 4, 0, 4, 4, 4, 4, 6, 4, 4, 5, 1, 4, 1, 4, 1, 4, 1, 4, 1, 4, 1, 4, 1, 4, 1, 4, 3, 4, 4, 4, 4, 4, 4, 4, 4, 4, 4, 4, 4, 4, 4, 5]
def zlnL : List Nat := [8, 8, 8, 8, 8, 8, 8, 8, 8, 8, 8, 8, 8, 8, 8, 8, 8, 6, 6, 81, 6, 100, 6, 100, 6, 100, 6, 100, 6, 100, 6, 100, 6, 100, 6, 100, 21, 35, 35, 35, 35, 8, 2, 8, 8, 8, 8, 8, 8, 8, 800, 1]
def zrfC (c : Nat) : List (Option Nat) := [none, none, none, none, some (c + 1), some (c + 2), some (c + 3), some (c + 4)]
def zrfS (c : Nat) : List (Option Nat) := [none, none, none, none, none, some (c + 1)]
def zrfL : List (List (Option Nat)) := [[some 1, some 6, some 11, none, some 16, some 17, some 18, some 19], zrfC 1, [], [], [], [], zrfC 6, [], [], [], [], zrfC 11, [], [], [], [],
  [some 20, some 22, some 24, some 26, some 28, some 30, some 32, some 34], [], [], [], zrfS 20, [], zrfS 22, [], zrfS 24, [], zrfS 26, [], zrfS 28, [], zrfS 30, [], zrfS 32, [], zrfS 34, [],
  [some 37, some 38, some 39, some 40, some 41, none, none, none, none, some 42, some 43, some 44, none, none, some 45, some 46, some 47, some 48, some 49, some 50, none]]
def zkd (q : Nat) : Nat := zkdL.getD q 99
def zln (q : Nat) : Nat := zlnL.getD q 0
def zrf (q i : Nat) : Option Nat := (zrfL.getD q []).getD i none
/-- fields that are boolean -/
def zbo (ci f : Nat) : Bool := (ci == 2 && f == 3) || (ci == 3 && f == 5)
def zget (L : zL) (i : Nat) : Option zV := match L[i]? with
  | some (some v) => some v
  | _ => none
def zkil (L : zL) (i : Nat) : zL := match i with
  | 0 => L
  | j + 1 => match L[j]? with
    | some (some (.inr (.inl _))) => L.set j none
    | _ => L
def zset (L : zL) (i : Nat) (v : zV) : zL := (zkil L i).set i (some v)
def zsetJ (L : zL) (i : Nat) (v : zV) : zL := ((zkil L i).set (i + 1) none).set i (some v)
def zjmp (pc : Nat) (off : Int) : Option Nat := if 0 ≤ (pc : Int) + off then some ((pc : Int) + off).toNat else none
def zb2 (f : Int32 → Int32 → Int32) (a b : Int) : Int := (f (Int32.ofInt a) (Int32.ofInt b)).toInt
def zand (a b : Int) : Int := (Int32.ofInt a &&& Int32.ofInt b).toInt
def zor (a b : Int) : Int := (Int32.ofInt a ||| Int32.ofInt b).toInt
def zxor (a b : Int) : Int := (Int32.ofInt a ^^^ Int32.ofInt b).toInt
def zshl (a b : Int) : Int := (Int32.ofInt a <<< (Int32.ofInt b &&& 31)).toInt
def zshr (a b : Int) : Int := (Int32.ofInt a >>> (Int32.ofInt b &&& 31)).toInt
def zushr (a b : Int) : Int := (((Int32.ofInt a).toUInt32 >>> ((Int32.ofInt b).toUInt32 &&& Int32.toUInt32 31)).toInt32).toInt
def zi2b (a : Int) : Int := (Int32.ofInt a).toInt8.toInt32.toInt
def zi2s (a : Int) : Int := (Int32.ofInt a).toInt16.toInt32.toInt
def zcmp (c : ClassFile.Cond) (a b : Int) : Bool := match c with
  | .eq => decide (a = b)
  | .ne => decide (¬ a = b)
  | .lt => decide (a < b)
  | .ge => decide (b ≤ a)
  | .gt => decide (b < a)
  | .le => decide (a ≤ b)
def zclr (k : zM) (pc : Nat) (L : zL) : zL := match k.2.2.2.2.2.lookup pc with
  | some is => is.foldl (fun l i => l.set i none) L
  | none => L
def zent (vs : List zV) : zL := match vs with
  | [] => []
  | .inr (.inl x) :: r => some (zJ x) :: none :: zent r
  | v :: r => some v :: zent r
def zpad (n : Nat) (L : zL) : zL := L ++ List.replicate (n - L.length) none
def zwords (S : List zV) : Nat := match S with
  | [] => 0
  | .inr (.inl _) :: r => 2 + zwords r
  | _ :: r => 1 + zwords r
/-- what a return gives -/
def zret (rt : Option FieldType) (i : Instr) (S : List zV) : Option (Option zV) := match i, rt, S with
  | .ireturn, some .int, [.inl a] => some (some (zI a))
  | .ireturn, some .boolean, [.inl a] => if nrm a = 0 ∨ nrm a = 1 then some (some (zI a)) else none
  | .lreturn, some .long, [.inr (.inl a)] => some (some (zJ a))
  | .areturn, some (.object _), [.inr (.inr a)] => some (some (zR a))
  | .return_, none, [] => some none
  | _, _, _ => none
def zlen (i : Instr) (len : Nat) : Nat := match i with
  | .bipush _ => 2
  | .sipush _ => 3
  | .ldc _ => 2
  | .ldc_w _ => 3
  | .ldc2_w _ => 3
  | .iload _ => 2
  | .lload _ => 2
  | .aload _ => 2
  | .istore _ => 2
  | .lstore _ => 2
  | .astore _ => 2
  | .iinc _ _ => 3
  | .goto _ => 3
  | .ifCond _ _ => 3
  | .if_icmp _ _ => 3
  | .ifnull _ => 3
  | .ifnonnull _ => 3
  | .getfield _ => 3
  | .putfield _ => 3
  | .invokevirtual _ => 3
  | .invokestatic _ => 3
  | .tableswitch _ _ _ _ => len
  | .lookupswitch _ _ => len
  | _ => 1
def zkind (i : Instr) (len : Nat) : Nat × Nat := if len = zlen i len then match i with
    | .ireturn => (1, 0)
    | .lreturn => (1, 0)
    | .areturn => (1, 0)
    | .return_ => (1, 0)
    | .invokevirtual n => (2, n)
    | .invokestatic n => (3, n)
    | _ => (0, 0)
  else (9, 0)
def zsw (x base : Int) (offs : List Int) (d : Int) : Int := match offs with
  | [] => d
  | o :: r => if x = base then o else zsw x (base + 1) r d
