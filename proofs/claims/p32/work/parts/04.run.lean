/-- one step of an instruction that neither chooses, nor looks into a row, nor calls, nor makes a row -/
def zst (sc : Sc) (e : En) (L st : List ZV) (S : Sh) (M : Me) (h : Ml) : Option Zs :=
  match e with
  | (i, nx, a, b, d, c, _) =>
    match i with
    | .iconst _ => some (nx, L, .inl c :: st, S, M, h)
    | .bipush _ => some (nx, L, .inl c :: st, S, M, h)
    | .sipush _ => some (nx, L, .inl c :: st, S, M, h)
    | .ldc _ => some (nx, L, .inl c :: st, S, M, h)
    | .ldc_w _ => some (nx, L, .inl c :: st, S, M, h)
    | .ldc2_w _ => some (nx, L, .inr (.inl (Int64.ofInt c)) :: st, S, M, h)
    | .iload _ => (match zgt L a with | some (.inl x) => some (nx, L, .inl x :: st, S, M, h) | _ => none)
    | .iload_n _ => (match zgt L a with | some (.inl x) => some (nx, L, .inl x :: st, S, M, h) | _ => none)
    | .lload _ => (match zgt L a with | some (.inr (.inl x)) => some (nx, L, .inr (.inl x) :: st, S, M, h) | _ => none)
    | .lload_n _ => (match zgt L a with | some (.inr (.inl x)) => some (nx, L, .inr (.inl x) :: st, S, M, h) | _ => none)
    | .aload _ => (match zgt L a with | some (.inr (.inr (.inl k))) => some (nx, L, .inr (.inr (.inl k)) :: st, S, M, h) | some (.inr (.inr (.inr 1))) => some (nx, L, .inr (.inr (.inr 1)) :: st, S, M, h) | _ => none)
    | .aload_n _ => (match zgt L a with | some (.inr (.inr (.inl k))) => some (nx, L, .inr (.inr (.inl k)) :: st, S, M, h) | some (.inr (.inr (.inr 1))) => some (nx, L, .inr (.inr (.inr 1)) :: st, S, M, h) | _ => none)
    | .istore _ => (match st with | .inl x :: r => bif zok L a then zput L a (.inl x) (fun L' => some (nx, L', r, S, M, h)) else none | _ => none)
    | .istore_n _ => (match st with | .inl x :: r => bif zok L a then zput L a (.inl x) (fun L' => some (nx, L', r, S, M, h)) else none | _ => none)
    | .lstore _ => (match st with | .inr (.inl x) :: r => bif zok L a then zput L a (.inr (.inl x)) (fun L1 => zput L1 (a + 1) (.inr (.inr (.inr 0))) (fun L' => some (nx, L', r, S, M, h))) else none | _ => none)
    | .lstore_n _ => (match st with | .inr (.inl x) :: r => bif zok L a then zput L a (.inr (.inl x)) (fun L1 => zput L1 (a + 1) (.inr (.inr (.inr 0))) (fun L' => some (nx, L', r, S, M, h))) else none | _ => none)
    | .astore _ => (match st with | .inr (.inr (.inl k)) :: r => bif zok L a then zput L a (.inr (.inr (.inl k))) (fun L' => some (nx, L', r, S, M, h)) else none | _ => none)
    | .astore_n _ => (match st with | .inr (.inr (.inl k)) :: r => bif zok L a then zput L a (.inr (.inr (.inl k))) (fun L' => some (nx, L', r, S, M, h)) else none | _ => none)
    | .iinc _ _ => (match zgt L a with | some (.inl x) => bif zok L a then zput L a (.inl (w32 (x + c))) (fun L' => some (nx, L', st, S, M, h)) else none | _ => none)
    | .iadd => (match st with | .inl y :: .inl x :: r => some (nx, L, .inl (w32 (x + y)) :: r, S, M, h) | _ => none)
    | .isub => (match st with | .inl y :: .inl x :: r => some (nx, L, .inl (w32 (x - y)) :: r, S, M, h) | _ => none)
    | .imul => (match st with | .inl y :: .inl x :: r => some (nx, L, .inl (w32 (x * y)) :: r, S, M, h) | _ => none)
    | .ineg => (match st with | .inl x :: r => some (nx, L, .inl (w32 (-x)) :: r, S, M, h) | _ => none)
    | .iand => (match st with | .inl y :: .inl x :: r => some (nx, L, .inl (bAnd x y) :: r, S, M, h) | _ => none)
    | .ior => (match st with | .inl y :: .inl x :: r => some (nx, L, .inl (bOr x y) :: r, S, M, h) | _ => none)
    | .ixor => (match st with | .inl y :: .inl x :: r => some (nx, L, .inl (bXor x y) :: r, S, M, h) | _ => none)
    | .ishl => (match st with | .inl y :: .inl x :: r => some (nx, L, .inl (bShl x y) :: r, S, M, h) | _ => none)
    | .ishr => (match st with | .inl y :: .inl x :: r => some (nx, L, .inl (bShr x y) :: r, S, M, h) | _ => none)
    | .iushr => (match st with | .inl y :: .inl x :: r => some (nx, L, .inl (bUsh x y) :: r, S, M, h) | _ => none)
    | .i2l => (match st with | .inl x :: r => some (nx, L, .inr (.inl (Int64.ofInt x)) :: r, S, M, h) | _ => none)
    | .lmul => (match st with | .inr (.inl y) :: .inr (.inl x) :: r => some (nx, L, .inr (.inl (x * y)) :: r, S, M, h) | _ => none)
    | .ladd => (match st with | .inr (.inl y) :: .inr (.inl x) :: r => some (nx, L, .inr (.inl (x + y)) :: r, S, M, h) | _ => none)
    | .lcmp => (match st with | .inr (.inl y) :: .inr (.inl x) :: r => some (nx, L, .inl (zlc x y) :: r, S, M, h) | _ => none)
    | .dup => (match st with | v :: r => bif Nat.beq (zcat v) 1 then some (nx, L, v :: v :: r, S, M, h) else none | _ => none)
    | .dup2 => (match st with | v :: u :: r => bif Nat.beq (zcat v) 1 then bif Nat.beq (zcat u) 1 then some (nx, L, v :: u :: v :: u :: r, S, M, h) else none else none | _ => none)
    | .pop => (match st with | v :: r => bif Nat.beq (zcat v) 1 then some (nx, L, r, S, M, h) else none | _ => none)
    | .goto _ => some (a, L, st, S, M, h)
    | .ifnonnull _ => (match st with | .inr (.inr (.inl _)) :: r => some (a, L, r, S, M, h) | .inr (.inr (.inr 0)) :: r => some (nx, L, r, S, M, h) | _ => none)
    | .arraylength => (match st with
      | .inr (.inr (.inl k)) :: r => (match zgt S k with | some (cl, n, _) => bif Nat.beq cl 100 || Nat.beq cl 101 then bif Nat.ble n 100000 then some (nx, L, .inl (n : Int) :: r, S, M, h) else none else none | none => none)
      | .inr (.inr (.inr 1)) :: r => (match sc with | some (n, _) => some (nx, L, .inl (n : Int) :: r, S, M, h) | none => none)
      | _ => none)
    | .getfield _ => (match st with
      | .inr (.inr (.inl k)) :: r => (match zgt S k with
        | some (cl, _, rs) => bif Nat.beq cl a then (match d with
          | 0 => some (nx, L, .inl (M k b) :: r, S, M, h)
          | 1 => (match zgt rs b with | some (some q) => some (nx, L, .inr (.inr (.inl q)) :: r, S, M, h) | _ => none)
          | _ => some (nx, L, .inr (.inl (h k)) :: r, S, M, h)) else none
        | none => none)
      | _ => none)
    | .putfield _ => (match st with
      | v :: .inr (.inr (.inl k)) :: r => (match zgt S k with
        | some (cl, n, rs) => bif Nat.beq cl a then (match d with
          | 0 => (match v with | .inl x => some (nx, L, r, S, upd2 M k b x, h) | _ => none)
          | 1 => (match v with | .inr (.inr (.inl q)) => bif Nat.ble (b + 1) rs.length then some (nx, L, r, S.set k (cl, n, rs.set b (some q)), M, h) else none | _ => none)
          | _ => (match v with | .inr (.inl x) => some (nx, L, r, S, M, updl h k x) | _ => none)) else none
        | none => none)
      | _ => none)
    | .new _ => some (nx, L, .inr (.inr (.inl S.length)) :: st, S ++ [(a, 0, List.replicate b none)], M, h)
    | .invokespecial _ => (match a with
      | 0 => (match st with | .inr (.inr (.inl _)) :: r => bif Nat.ble (zwt r) 8 then some (nx, L, r, S, M, h) else none | _ => none)
      | _ + 1 => none)
    | .invokestatic _ => (match a with
      | 0 => (match d with
        | 1 => (match st with | .inl y :: .inl x :: r => bif Nat.ble (zwt r) 8 then some (nx, L, .inl (max x y) :: r, S, M, h) else none | _ => none)
        | 2 => (match st with | .inl y :: .inl x :: r => bif Nat.ble (zwt r) 8 then some (nx, L, .inl (min x y) :: r, S, M, h) else none | _ => none)
        | 3 => (match st with | .inl x :: r => bif Nat.ble (zwt r) 8 then some (nx, L, .inl (w32 (x.natAbs : Int)) :: r, S, M, h) else none | _ => none)
        | _ => none)
      | _ + 1 => none)
    | _ => none
/-- the steps that choose, look into rows, or make rows -/
def zbr (sc : Sc) (e : En) (L st : List ZV) (S : Sh) (M : Me) (h : Ml) : Option Zs :=
  match e with
  | (i, nx, a, _, d, c, _) =>
    match i with
    | .if_icmp q _ => (match st with
      | .inl y :: .inl x :: r => (match q with
        | .eq => some (if x = y then a else nx, L, r, S, M, h)
        | .ne => some (if x ≠ y then a else nx, L, r, S, M, h)
        | .lt => some (if x < y then a else nx, L, r, S, M, h)
        | .ge => some (if y ≤ x then a else nx, L, r, S, M, h)
        | .gt => some (if y < x then a else nx, L, r, S, M, h)
        | .le => some (if x ≤ y then a else nx, L, r, S, M, h))
      | _ => none)
    | .ifCond q _ => (match st with
      | .inl x :: r => (match q with
        | .eq => some (if x = 0 then a else nx, L, r, S, M, h)
        | .ne => some (if x ≠ 0 then a else nx, L, r, S, M, h)
        | .lt => some (if x < 0 then a else nx, L, r, S, M, h)
        | .ge => some (if 0 ≤ x then a else nx, L, r, S, M, h)
        | .gt => some (if 0 < x then a else nx, L, r, S, M, h)
        | .le => some (if x ≤ 0 then a else nx, L, r, S, M, h))
      | _ => none)
    | .idiv => (match st with | .inl y :: .inl x :: r => if 0 ≤ x ∧ 0 < y then some (nx, L, .inl (x / y) :: r, S, M, h) else none | _ => none)
    | .irem => (match st with | .inl y :: .inl x :: r => if 0 ≤ x ∧ 0 < y then some (nx, L, .inl (x % y) :: r, S, M, h) else none | _ => none)
    | .iaload => (match st with
      | .inl j :: .inr (.inr (.inl k)) :: r => (match zgt S k with
        | some (cl, n, _) => if cl = 100 ∧ 0 ≤ j ∧ j < (n : Int) then some (nx, L, .inl (M k j.toNat) :: r, S, M, h) else none
        | none => none)
      | .inl j :: .inr (.inr (.inr 1)) :: r => (match sc with
        | some (n, xs) => if 0 ≤ j ∧ j < (n : Int) then some (nx, L, .inl (xs j.toNat) :: r, S, M, h) else none
        | none => none)
      | _ => none)
    | .iastore => (match st with
      | .inl x :: .inl j :: .inr (.inr (.inl k)) :: r => (match zgt S k with
        | some (cl, n, _) => if cl = 100 ∧ 0 ≤ j ∧ j < (n : Int) then some (nx, L, r, S, upd2 M k j.toNat x, h) else none
        | none => none)
      | _ => none)
    | .aaload => (match st with
      | .inl j :: .inr (.inr (.inl k)) :: r => (match zgt S k with
        | some (cl, n, rs) => if cl = 101 ∧ 0 ≤ j ∧ j < (n : Int) then (match zgt rs j.toNat with
          | some (some q) => some (nx, L, .inr (.inr (.inl q)) :: r, S, M, h)
          | _ => none) else none
        | none => none)
      | _ => none)
    | .aastore => (match st with
      | .inr (.inr (.inl q)) :: .inl j :: .inr (.inr (.inl k)) :: r => (match zgt S k with
        | some (cl, n, rs) => (match zgt S q with
          | some (cq, _, _) => if cl = 101 ∧ 0 ≤ j ∧ j < (n : Int) ∧ cq = 3 ∧ j.toNat < rs.length then some (nx, L, r, S.set k (cl, n, rs.set j.toNat (some q)), M, h) else none
          | none => none)
        | none => none)
      | _ => none)
    | .newarray _ => (match st with | .inl n :: r => if 0 ≤ n ∧ n ≤ 100000 then some (nx, L, .inr (.inr (.inl S.length)) :: r, S ++ [(100, n.toNat, [])], M, h) else none | _ => none)
    | .anewarray _ => (match st with | .inl n :: r => if 0 ≤ n ∧ n ≤ 100000 then some (nx, L, .inr (.inr (.inl S.length)) :: r, S ++ [(101, n.toNat, List.replicate n.toNat none)], M, h) else none | _ => none)
    | .tableswitch df lo hi offs => (match st with
      | .inl x :: r => if x < lo ∨ hi < x then some ((c + df).toNat, L, r, S, M, h) else (match zgt offs.toList (x - lo).toNat with
        | some o => some ((c + o).toNat, L, r, S, M, h)
        | none => none)
      | _ => none)
    | .invokestatic _ => (match a with
      | 0 => (match d, st with
        | 0, .inl n :: .inl dp :: .inr (.inr (.inl k2)) :: .inl sp :: .inr (.inr (.inl k1)) :: r => (match zgt S k1 with
          | some (c1, n1, _) => (match zgt S k2 with
            | some (c2, n2, _) => if c1 = 100 ∧ c2 = 100 ∧ 0 ≤ n ∧ 0 ≤ dp ∧ 0 ≤ sp ∧ sp + n ≤ (n1 : Int) ∧ dp + n ≤ (n2 : Int) ∧ zwt r ≤ 8 then some (nx, L, r, S, cpy2 M k1 k2 sp.toNat dp.toNat n.toNat, h) else none
            | none => none)
          | none => none)
        | _, _ => none)
      | _ + 1 => none)
    | _ => none
/-- a call: the callee's table, its first locals, where it goes on, what stays on the stack -/
def zcl (a b nx : Nat) (st : List ZV) : Option (CT × List ZV × Nat × List ZV) := match a with
  | 0 => none
  | a + 1 => match zgt zMRs a with
    | some (T', nl, _) => (match zca2 b st [] with
      | some (as, r) => bif Nat.ble (zwt r) 8 then bif Nat.ble (zex as).length nl then some (T', zpad nl (zex as), nx, r) else none else none
      | none => none)
    | none => none
/-- the receiver is of the class d -/
def zrc (S : Sh) (st : List ZV) (b d : Nat) : Bool := match b with
  | 0 => false
  | b + 1 => match zgt st b with
    | some (.inr (.inr (.inl k))) => (match zgt S k with | some (cl, _, _) => Nat.beq cl d | none => false)
    | _ => false
def zrr (st : List ZV) (b : Nat) : Bool := match b with
  | 0 => false
  | b + 1 => match zgt st b with
    | some (.inr (.inr (.inl _))) => true
    | _ => false
def zca (e : En) (st : List ZV) (S : Sh) : Option (CT × List ZV × Nat × List ZV) :=
  match e with
  | (i, nx, a, b, d, _, _) =>
    match i with
    | .invokevirtual _ => bif zrc S st b d then zcl a b nx st else none
    | .invokespecial _ => bif zrr st b then zcl a b nx st else none
    | .invokestatic _ => zcl a b nx st
    | _ => none
def zre (e : En) (st : List ZV) : Option (Option ZV) :=
  match e with
  | (i, _, _, _, d, _, _) =>
    match i with
    | .ireturn => (match st with
      | [.inl x] => (match d with
        | 0 => some (some (.inl x))
        | _ => if x = 0 ∨ x = 1 then some (some (.inl x)) else none)
      | _ => none)
    | .lreturn => (match st with | [.inr (.inl x)] => some (some (.inr (.inl x))) | _ => none)
    | .return_ => (match st with | [] => some none | _ => none)
    | _ => none
def zpush (v : Option ZV) (r : List ZV) : List ZV := match v with
  | some v => v :: r
  | none => r
def run : Nat → CT → Sc → Nat → List ZV → List ZV → Sh → Me → Ml → Option Zr
  | 0, _, _, _, _, _, _, _, _ => none
  | n + 1, T, sc, pc, L, st, S, M, h => match look2 T pc with
    | none => none
    | some e => match zst sc e L st S M h with
      | some (pc', L', st', S', M', h') => run n T sc pc' L' st' S' M' h'
      | none => match zbr sc e L st S M h with
        | some (pc', L', st', S', M', h') => run n T sc pc' L' st' S' M' h'
        | none => match zca e st S with
          | some (T', L0, nx, r) => (match run n T' sc 0 L0 [] S M h with
            | some (v, S', M', h') => run n T sc nx L (zpush v r) S' M' h'
            | none => none)
          | none => match zre e st with
            | some v => some (v, S, M, h)
            | none => none
/-- the method of this table, from this place, comes to this end -/
def Ev (T : CT) (sc : Sc) (pc : Nat) (L st : List ZV) (S : Sh) (M : Me) (h : Ml) (r : Zr) : Prop := ∃ n, run n T sc pc L st S M h = some r
