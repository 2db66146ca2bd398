/-! what a table must keep for its answers to be the real machine's: decided by evaluation, method by method -/
def TB : List Cond := lw_tbl.filter goodWord
def zin (p : Nat) (w : Cond) : Bool := decide (lw_tbl[p]? = some w) && goodWord w
theorem zin_mem {p : Nat} {w : Cond} (h : zin p w = true) : w ∈ TB := by
  unfold zin at h
  rw [Bool.and_eq_true] at h
  exact List.mem_filter.mpr ⟨List.mem_of_getElem? (of_decide_eq_true h.1), h.2⟩
def zFK (a : Nat) : List Nat := (zgt zFKs a).getD []
def zrgb (c : Int) : Bool := decide (-2147483648 ≤ c) && decide (c < 2147483648)
def zns (y : MethodName) : Nat := ((parseMethodDescriptor y.desc).map (fun d => d.parameters.length)).getD 99
def nest1 : Cond := .methodLinkNest "LuggageTracing$Table" 35 ⟨"LuggageTracing", "outside", "(III)Z"⟩ "LuggageTracing"
def nest2 : Cond := .methodLinkNest "LuggageTracing$Assignment" 74 ⟨"LuggageTracing", "outside", "(III)Z"⟩ "LuggageTracing"
def zOff : String := "LuggageTracing$Office"
def zcallee (fr lo b : Nat) (r : Mr) (k : MethodName → Nat → Nat → Bool) (extra : Nat) : Bool := match r with
  | (_, nl, y, _, _, fr', lo', [_, _, p3, p4]) => decide (fr' + 1 ≤ fr) && decide (8 + (nl + 11) + lo' ≤ lo) && Nat.beq (zns y + extra) b && k y p3 p4
  | _ => false
def zchk (own : String) (nL : Nat) (isI : Bool) (ret : Option FieldType) (fr lo pc len : Nat) (i : Instr) (a b d : Nat) (c : Int) (w : Nat) : Bool := match i with
  | .iconst n => Nat.beq len 1 && decide (c = n) && zrgb c
  | .bipush n => Nat.beq len 2 && decide ((Int8.ofInt n).toInt32 = Int32.ofInt c) && zrgb c
  | .sipush n => Nat.beq len 3 && decide ((Int16.ofInt n).toInt32 = Int32.ofInt c) && zrgb c
  | .ldc k => Nat.beq len 2 && zin w (.constant own k (Int32.ofInt c)) && zrgb c
  | .ldc_w k => Nat.beq len 3 && zin w (.constant own k (Int32.ofInt c)) && zrgb c
  | .ldc2_w k => Nat.beq len 3 && zin w (.constantLong own k (Int64.ofInt c))
  | .iload k => Nat.beq len 2 && Nat.beq k a
  | .lload k => Nat.beq len 2 && Nat.beq k a
  | .aload k => Nat.beq len 2 && Nat.beq k a
  | .iload_n k => Nat.beq len 1 && Nat.beq k.val a
  | .lload_n k => Nat.beq len 1 && Nat.beq k.val a
  | .aload_n k => Nat.beq len 1 && Nat.beq k.val a
  | .istore k => Nat.beq len 2 && Nat.beq k a
  | .lstore k => Nat.beq len 2 && Nat.beq k a
  | .astore k => Nat.beq len 2 && Nat.beq k a
  | .istore_n k => Nat.beq len 1 && Nat.beq k.val a
  | .lstore_n k => Nat.beq len 1 && Nat.beq k.val a
  | .astore_n k => Nat.beq len 1 && Nat.beq k.val a
  | .iinc k n => Nat.beq len 3 && Nat.beq k a && decide (c = n)
  | .iadd => Nat.beq len 1
  | .isub => Nat.beq len 1
  | .imul => Nat.beq len 1
  | .ineg => Nat.beq len 1
  | .iand => Nat.beq len 1
  | .ior => Nat.beq len 1
  | .ixor => Nat.beq len 1
  | .ishl => Nat.beq len 1
  | .ishr => Nat.beq len 1
  | .iushr => Nat.beq len 1
  | .i2l => Nat.beq len 1
  | .lmul => Nat.beq len 1
  | .ladd => Nat.beq len 1
  | .lcmp => Nat.beq len 1
  | .dup => Nat.beq len 1
  | .dup2 => Nat.beq len 1
  | .pop => Nat.beq len 1
  | .arraylength => Nat.beq len 1
  | .iaload => Nat.beq len 1
  | .iastore => Nat.beq len 1
  | .aaload => Nat.beq len 1
  | .aastore => Nat.beq len 1
  | .idiv => Nat.beq len 1
  | .irem => Nat.beq len 1
  | .goto off => Nat.beq len 3 && decide ((pc : Int) + off = (a : Int))
  | .ifnonnull off => Nat.beq len 3 && decide ((pc : Int) + off = (a : Int))
  | .if_icmp _ off => Nat.beq len 3 && decide ((pc : Int) + off = (a : Int))
  | .ifCond _ off => Nat.beq len 3 && decide ((pc : Int) + off = (a : Int))
  | .getfield k => Nat.beq len 3 && (match vwCl[a]? with
    | some (_, T, N) => decide (b < N) && zin w (.fieldLink own k (T b).1 (T b).2.1 (T b).2.2.1) && decide (zgt (zFK a) b = some d)
    | none => false)
  | .putfield k => Nat.beq len 3 && (match vwCl[a]? with
    | some (_, T, N) => decide (b < N) && zin w (.fieldLink own k (T b).1 (T b).2.1 (T b).2.2.1) && decide (zgt (zFK a) b = some d) && (bif (T b).2.2.2 then isI && decide ((T b).1 = own) else true)
    | none => false)
  | .new k => Nat.beq len 3 && (match vwCl[a]? with
    | some (C, _, N) => decide (b = N) && zin w (.classLink own k C) && zin d (.instantiable C N) && zin c.toNat (.initialized C)
    | none => false)
  | .newarray t => Nat.beq len 2 && decide (t = .int)
  | .anewarray k => Nat.beq len 3 && zin w (.classLink own k zOff)
  | .tableswitch df lo' hi offs => decide (c = (pc : Int)) && decide (0 ≤ c + df) && offs.toList.all (fun o => decide (0 ≤ c + o))
  | .invokevirtual k => Nat.beq len 3 && (match a with
    | 0 => false
    | a + 1 => match zgt zMRs a with
      | some r => zcallee fr lo b r (fun y p3 p4 => zin w (.methodLink own k y) && zin p3 (.instanceMethod y) && zin p4 (.selects y.cls y y) && (match vwCl[d]? with | some (C, _, _) => decide (y.cls = C) | none => false)) 1
      | none => false)
  | .invokespecial k => Nat.beq len 3 && (match a with
    | 0 => decide (1 ≤ fr) && decide (26 ≤ lo) && zin w (.methodLink own k Lib.objectInit)
    | a + 1 => match zgt zMRs a with
      | some r => zcallee fr lo b r (fun y p3 _ => zin w (.methodLink own k y) && zin p3 (.instanceMethod y) && decide (y.name = "<init>")) 1 && decide (r.2.2.2.2.1 = none)
      | none => false)
  | .invokestatic k => Nat.beq len 3 && (match a with
    | 0 => decide (1 ≤ fr) && decide (26 ≤ lo) && (match d with
      | 0 => zin w (.methodLink own k arraycopyName)
      | 1 => zin w (.methodLink own k Lib.Math.max.name)
      | 2 => zin w (.methodLink own k Lib.Math.min.name)
      | _ => zin w (.methodLink own k Lib.Math.abs.name))
    | a + 1 => match zgt zMRs a with
      | some r => zcallee fr lo b r (fun y p3 _ => zin p3 (.static y) && (match d with
        | 0 => zin w (.methodLink own k y)
        | 1 => decide (Cond.methodLinkNest own k y "LuggageTracing" = nest1)
        | _ => decide (Cond.methodLinkNest own k y "LuggageTracing" = nest2))) 0
      | none => false)
  | .ireturn => Nat.beq len 1 && (match d with
    | 0 => decide (ret = some .int)
    | _ => decide (ret = some .boolean))
  | .lreturn => Nat.beq len 1 && decide (ret = some .long)
  | .return_ => Nat.beq len 1 && decide (ret = none)
  | _ => false
def zchkE (own : String) (cc : ByteArray) (nL : Nat) (isI : Bool) (ret : Option FieldType) (fr lo : Nat) (pe : Nat × En) : Bool :=
  match pe with
  | (pc, i, nx, a, b, d, c, w) => match decode cc pc with
    | .ok (i', len) => decide (i' = i) && Nat.beq (pc + len) nx && zchk own nL isI ret fr lo pc len i a b d c w
    | .error _ => false
def zchkT (own : String) (cc : ByteArray) (nL : Nat) (isI : Bool) (ret : Option FieldType) (fr lo : Nat) (T : CT) : Bool := T.all fun q => q.2.all (zchkE own cc nL isI ret fr lo)
def zplain (C : String) : Bool := plainName C && decide (C ≠ "java/lang/invoke/MethodHandle") && decide (C ≠ "java/lang/invoke/VarHandle")
def zchkM (r : Mr) : Bool := match r with
  | (T, nl, y, cc, ret, fr, lo, [p1, p2, _, _]) => zchkT y.cls cc nl (decide (y.name = "<init>")) ret fr lo T && zin p1 (.code y cc nl ret) && zin p2 (.initialized y.cls) && zplain y.cls
  | _ => false
theorem look2_mem : ∀ {T : CT} {pc : Nat} {e : En}, look2 T pc = some e → ∃ q ∈ T, (pc, e) ∈ q.2 := by
  have h1 : ∀ (l : List (Nat × En)) (pc : Nat) (e : En), zlook l pc = some e → (pc, e) ∈ l := by
    intro l
    induction l with
    | nil => intro pc e h; cases h
    | cons q l ih =>
      intro pc e h
      unfold zlook at h
      cases hq : Nat.beq q.1 pc with
      | true =>
        rw [hq, cond_true] at h
        have := Nat.eq_of_beq_eq_true hq
        cases h
        subst this
        exact List.mem_cons_self
      | false =>
        rw [hq, cond_false] at h
        exact List.mem_cons_of_mem _ (ih pc e h)
  intro T
  induction T with
  | nil => intro pc e h; cases h
  | cons q l ih =>
    intro pc e h
    unfold look2 at h
    cases hq : Nat.ble pc q.1 with
    | true =>
      rw [hq, cond_true] at h
      exact ⟨q, List.mem_cons_self, h1 _ _ _ h⟩
    | false =>
      rw [hq, cond_false] at h
      obtain ⟨q', h2, h3⟩ := ih h
      exact ⟨q', List.mem_cons_of_mem _ h2, h3⟩
theorem zchkT_at {own : String} {cc : ByteArray} {nL : Nat} {isI : Bool} {ret : Option FieldType} {fr lo : Nat} {T : CT} (h : zchkT own cc nL isI ret fr lo T = true) {pc : Nat} {i : Instr} {nx a b d : Nat} {c : Int} {w : Nat} (hl : look2 T pc = some (i, nx, a, b, d, c, w)) :
    ∃ len, decode cc pc = .ok (i, len) ∧ pc + len = nx ∧ zchk own nL isI ret fr lo pc len i a b d c w = true := by
  obtain ⟨q, hq, hm⟩ := look2_mem hl
  have h1 := List.all_eq_true.mp (List.all_eq_true.mp h q hq) _ hm
  unfold zchkE at h1
  dsimp only at h1
  split at h1
  · next i' len he =>
    rw [Bool.and_eq_true, Bool.and_eq_true] at h1
    obtain ⟨⟨h2, h3⟩, h4⟩ := h1
    have h5 := of_decide_eq_true h2
    subst h5
    exact ⟨len, he, Nat.eq_of_beq_eq_true h3, h4⟩
  · cases h1
