/-! A small machine beside the real one: whole numbers as Int, cells by number; its code tables are those of the claim's methods, resolved. Later parts show that what it answers the real one answers. -/
/-- a value: a whole number, a long, a cell's number, or (the last) 0: null or nothing, 1: the script -/
abbrev ZV : Type := Int ⊕ (Int64 ⊕ (Nat ⊕ Nat))
/-- what the cells are: class number (100: whole numbers, 101: rows of cells), length, the cells that it names -/
abbrev Sh : Type := List (Nat × Nat × List (Option Nat))
/-- the whole numbers that the cells hold, and the long of each -/
abbrev Me : Type := Nat → Nat → Int
abbrev Ml : Type := Nat → Int64
/-- an instruction: itself, the next place, four numbers, and the place of its word -/
abbrev En : Type := Instr × Nat × Nat × Nat × Nat × Int × Nat
abbrev CT : Type := List (Nat × List (Nat × En))
abbrev Mr : Type := CT × Nat × MethodName × ByteArray × Option FieldType × Nat × Nat × List Nat
abbrev Zs : Type := Nat × List ZV × List ZV × Sh × Me × Ml
abbrev Zr : Type := Option ZV × Sh × Me × Ml
abbrev Sc : Type := Option (Nat × (Nat → Int))
abbrev zi (x : Int) : ZV := .inl x
abbrev zl (x : Int64) : ZV := .inr (.inl x)
abbrev zr (k : Nat) : ZV := .inr (.inr (.inl k))
abbrev zn : ZV := .inr (.inr (.inr 0))
abbrev zs : ZV := .inr (.inr (.inr 1))
def zlook : List (Nat × En) → Nat → Option En
  | [], _ => none
  | q :: l, pc => bif Nat.beq q.1 pc then some q.2 else zlook l pc
def look2 : CT → Nat → Option En
  | [], _ => none
  | q :: l, pc => bif Nat.ble pc q.1 then zlook q.2 pc else look2 l pc
def zgt {α : Type} : List α → Nat → Option α
  | [], _ => none
  | a :: _, 0 => some a
  | _ :: l, k + 1 => zgt l k
def zput {β : Type} : List ZV → Nat → ZV → (List ZV → Option β) → Option β
  | [], _, _, _ => none
  | _ :: l, 0, v, k => k (v :: l)
  | a :: l, i + 1, v, k => zput l i v (fun l' => k (a :: l'))
/-- the place ahead of i holds no long -/
def zok (L : List ZV) : Nat → Bool
  | 0 => true
  | i + 1 => match zgt L i with
    | some (.inr (.inl _)) => false
    | _ => true
def zcat : ZV → Nat
  | .inr (.inl _) => 2
  | _ => 1
def zwt : List ZV → Nat
  | [] => 0
  | v :: l => zcat v + zwt l
def w32 (x : Int) : Int := Int.bmod x 4294967296
def upd2 (M : Me) (k j : Nat) (v : Int) : Me := fun a b => if a = k ∧ b = j then v else M a b
def updl (h : Ml) (k : Nat) (v : Int64) : Ml := fun a => if a = k then v else h a
def cpy2 (M : Me) (k1 k2 sp dp n : Nat) : Me := fun a j => if a = k2 ∧ dp ≤ j ∧ j < dp + n then M k1 (sp + (j - dp)) else M a j
def bAnd (x y : Int) : Int := (Int32.ofInt x &&& Int32.ofInt y).toInt
def bOr (x y : Int) : Int := (Int32.ofInt x ||| Int32.ofInt y).toInt
def bXor (x y : Int) : Int := (Int32.ofInt x ^^^ Int32.ofInt y).toInt
def bShl (x y : Int) : Int := (Int32.ofInt x <<< (Int32.ofInt y &&& 31)).toInt
def bShr (x y : Int) : Int := (Int32.ofInt x >>> (Int32.ofInt y &&& 31)).toInt
def bUsh (x y : Int) : Int := ((Int32.ofInt x).toUInt32 >>> ((Int32.ofInt y).toUInt32 &&& Int32.toUInt32 31)).toInt32.toInt
def zlc (x y : Int64) : Int := if y < x then 1 else if x = y then 0 else -1
def zca2 (n : Nat) : List ZV → List ZV → Option (List ZV × List ZV) := match n with
  | 0 => fun st acc => some (acc, st)
  | n + 1 => fun st acc => match st with
    | v :: r => zca2 n r (v :: acc)
    | [] => none
/-- the locals with which a method begins -/
def zex : List ZV → List ZV
  | [] => []
  | v :: l => match v with
    | .inr (.inl y) => .inr (.inl y) :: zn :: zex l
    | .inr (.inr q) => .inr (.inr q) :: zex l
    | .inl x => .inl x :: zex l
def zpad : Nat → List ZV → List ZV
  | 0, l => l
  | n + 1, [] => zn :: zpad n []
  | n + 1, v :: l => v :: zpad n l
