section ZST
def ZN (p : Program) (l : Launch) (e : Env) (R : Room) (s : State) (m : MethodId) (args : Array Value) (below : List Frame) (meth : Method) (c : Code) (Q : State → Prop) (dC : Nat → ClassId) (dI : Nat → Nat → Nat) (cI cO : ClassId) (b base nL : Nat) (pc : Nat) (L st : List ZV) (S : Sh) (M : Me) (h : Ml) (cells slots : Nat) : Prop :=
  base + S.length = s.heap.size + cells → ∀ (H : Heap) (locs : List Loc) (ls : Array Slot), WO dC dI cI cO base S M h H → va_S (fun q => base ≤ q) s.heap H locs → RelL b base ls nL L → (∀ v ∈ st, zrv v) → W p l e R s m args below meth c H locs cells slots Q (F0 m pc ls (st.map (zv b base)))
def ZCx (p : Program) (s : State) (m : MethodId) (args : Array Value) (meth : Method) (c : Code) (own : String) (cc : ByteArray) (nL : Nat) (isI : Bool) (dC : Nat → ClassId) (dI : Nat → Nat → Nat) (cI cO : ClassId) (base : Nat) : Prop :=
  p.tables.exec = Jvm.exec ∧ c.code = cc ∧ c.maxLocals = nL ∧ s.vm.findClass own = some m.cls ∧ (∀ w ∈ TB, w.before args s = true) ∧ ZK dC dI cI cO s ∧ (isI = true → meth.name = "<init>") ∧ base ≤ s.heap.size
def zSc (sc : Sc) (b base : Nat) (s : State) : Prop := match sc with
  | none => True
  | some (n, xs) => va_X b n (fun j => Int32.ofInt (xs j)) s s.heap ∧ b < s.heap.size ∧ b < base ∧ (∀ j, zrn (xs j)) ∧ n ≤ 100000
variable {p : Program} {l : Launch} {e : Env} {R : Room} {s : State} {m : MethodId} {args : Array Value} {below : List Frame} {meth : Method} {c : Code} {Q : State → Prop} {dC : Nat → ClassId} {dI : Nat → Nat → Nat} {cI cO : ClassId} {b base : Nat} {own : String} {cc : ByteArray} {nL : Nat} {isI : Bool} {ret : Option FieldType} {fr lo : Nat} {sc : Sc}
theorem zSc.call {sc : Sc} {b base : Nat} {U U' : State} (h : zSc sc b base U) (hA : U.vm.Alike U'.vm) (hh : U'.heap = U.heap) : zSc sc b base U' := by
  cases sc with
  | none => exact trivial
  | some q =>
    obtain ⟨n, xs⟩ := q
    obtain ⟨h1, h2, h3, h4, h5⟩ := h
    exact ⟨(va_X.moved hA h1).kept (by rw [hh]), by rw [hh]; exact h2, h3, h4, h5⟩
theorem zSc.at {sc : Sc} {b base : Nat} {s U : State} {H : Heap} {locs : List Loc} (h : zSc sc b base s) (hS : va_S (fun q => base ≤ q) s.heap H locs) (hU : U.heap = H) (hW : s.WarmedH U.vm) : zSc sc b base U := by
  cases sc with
  | none => exact trivial
  | some q =>
    obtain ⟨n, xs⟩ := q
    obtain ⟨h1, h2, h3, h4, h5⟩ := h
    exact ⟨(va_X.moved hW.alike h1).kept (by rw [hU]; exact hS.2.1 b h2 (by omega)), by rw [hU]; exact Nat.lt_of_lt_of_le h2 hS.1, h3, h4, h5⟩
theorem zkk {pc : Nat} {L st : List ZV} {S S0 : Sh} {M : Me} {h : Ml} {cells slots : Nat} (k : ZN p l e R s m args below meth c Q dC dI cI cO b base nL pc L st S M h (cells + (S0.length - S0.length)) (slots + (zsz S0 - zsz S0))) : ZN p l e R s m args below meth c Q dC dI cI cO b base nL pc L st S M h cells slots := by
  rw [Nat.sub_self, Nat.sub_self, Nat.add_zero, Nat.add_zero] at k
  exact k
theorem zlen1 {x y : Nat} {z : Bool} (h : (Nat.beq x y && z) = true) : x = y ∧ z = true := by
  rw [Bool.and_eq_true] at h
  exact ⟨Nat.eq_of_beq_eq_true h.1, h.2⟩
set_option maxHeartbeats 1000000 in
theorem zs_iadd (hC : ZCx p s m args meth c own cc nL isI dC dI cI cO base) (hX : zSc sc b base s) (hR : fr ≤ R.frames ∧ lo ≤ R.locals) {nx a bb d w len pc pc' : Nat} {cv : Int} {L st L' st' : List ZV} {S S' : Sh} {M M' : Me} {h h' : Ml} {cells slots : Nat} (hd : decode cc pc = .ok (.iadd, len)) (hnx : pc + len = nx) (hk : zchk own nL isI ret fr lo pc len (.iadd) a bb d cv w = true) (hst : zst sc (.iadd, nx, a, bb, d, cv, w) L st S M h = some (pc', L', st', S', M', h')) (hrm : cells + (S'.length - S.length) ≤ R.cells ∧ slots + (zsz S' - zsz S) ≤ R.slots) (kk : ZN p l e R s m args below meth c Q dC dI cI cO b base nL pc' L' st' S' M' h' (cells + (S'.length - S.length)) (slots + (zsz S' - zsz S))) : ZN p l e R s m args below meth c Q dC dI cI cO b base nL pc L st S M h cells slots := by
  obtain ⟨hx, hb, hml, hown, hts, hK, hin, hbs⟩ := hC
  have h1 := Nat.eq_of_beq_eq_true hk
  subst h1; subst hnx
  simp only [zst] at hst
  split at hst
  · next y x r =>
    cases hst
    intro hz0 H locs ls hO hS hL hr
    have hx1 : zrn x := hr (.inl x) (List.mem_cons_of_mem _ List.mem_cons_self)
    have hy1 : zrn y := hr (.inl y) List.mem_cons_self
    refine lv_iadd hx hb hd ?_
    have e1 : Value.int (Int32.ofInt x + Int32.ofInt y) = .int (Int32.ofInt (w32 (x + y))) := by rw [zI_add]
    rw [e1]
    exact zkk kk hz0 H locs ls hO hS hL (fun v hv => by
      rcases List.mem_cons.mp hv with e2 | e2
      · subst e2; exact w32_rn _
      · exact hr v (List.mem_cons_of_mem _ (List.mem_cons_of_mem _ e2)))
  · cases hst

set_option maxHeartbeats 1000000 in
theorem zs_isub (hC : ZCx p s m args meth c own cc nL isI dC dI cI cO base) (hX : zSc sc b base s) (hR : fr ≤ R.frames ∧ lo ≤ R.locals) {nx a bb d w len pc pc' : Nat} {cv : Int} {L st L' st' : List ZV} {S S' : Sh} {M M' : Me} {h h' : Ml} {cells slots : Nat} (hd : decode cc pc = .ok (.isub, len)) (hnx : pc + len = nx) (hk : zchk own nL isI ret fr lo pc len (.isub) a bb d cv w = true) (hst : zst sc (.isub, nx, a, bb, d, cv, w) L st S M h = some (pc', L', st', S', M', h')) (hrm : cells + (S'.length - S.length) ≤ R.cells ∧ slots + (zsz S' - zsz S) ≤ R.slots) (kk : ZN p l e R s m args below meth c Q dC dI cI cO b base nL pc' L' st' S' M' h' (cells + (S'.length - S.length)) (slots + (zsz S' - zsz S))) : ZN p l e R s m args below meth c Q dC dI cI cO b base nL pc L st S M h cells slots := by
  obtain ⟨hx, hb, hml, hown, hts, hK, hin, hbs⟩ := hC
  have h1 := Nat.eq_of_beq_eq_true hk
  subst h1; subst hnx
  simp only [zst] at hst
  split at hst
  · next y x r =>
    cases hst
    intro hz0 H locs ls hO hS hL hr
    have hx1 : zrn x := hr (.inl x) (List.mem_cons_of_mem _ List.mem_cons_self)
    have hy1 : zrn y := hr (.inl y) List.mem_cons_self
    refine lv_isub hx hb hd ?_
    have e1 : Value.int (Int32.ofInt x - Int32.ofInt y) = .int (Int32.ofInt (w32 (x - y))) := by rw [zI_sub]
    rw [e1]
    exact zkk kk hz0 H locs ls hO hS hL (fun v hv => by
      rcases List.mem_cons.mp hv with e2 | e2
      · subst e2; exact w32_rn _
      · exact hr v (List.mem_cons_of_mem _ (List.mem_cons_of_mem _ e2)))
  · cases hst

set_option maxHeartbeats 1000000 in
theorem zs_imul (hC : ZCx p s m args meth c own cc nL isI dC dI cI cO base) (hX : zSc sc b base s) (hR : fr ≤ R.frames ∧ lo ≤ R.locals) {nx a bb d w len pc pc' : Nat} {cv : Int} {L st L' st' : List ZV} {S S' : Sh} {M M' : Me} {h h' : Ml} {cells slots : Nat} (hd : decode cc pc = .ok (.imul, len)) (hnx : pc + len = nx) (hk : zchk own nL isI ret fr lo pc len (.imul) a bb d cv w = true) (hst : zst sc (.imul, nx, a, bb, d, cv, w) L st S M h = some (pc', L', st', S', M', h')) (hrm : cells + (S'.length - S.length) ≤ R.cells ∧ slots + (zsz S' - zsz S) ≤ R.slots) (kk : ZN p l e R s m args below meth c Q dC dI cI cO b base nL pc' L' st' S' M' h' (cells + (S'.length - S.length)) (slots + (zsz S' - zsz S))) : ZN p l e R s m args below meth c Q dC dI cI cO b base nL pc L st S M h cells slots := by
  obtain ⟨hx, hb, hml, hown, hts, hK, hin, hbs⟩ := hC
  have h1 := Nat.eq_of_beq_eq_true hk
  subst h1; subst hnx
  simp only [zst] at hst
  split at hst
  · next y x r =>
    cases hst
    intro hz0 H locs ls hO hS hL hr
    have hx1 : zrn x := hr (.inl x) (List.mem_cons_of_mem _ List.mem_cons_self)
    have hy1 : zrn y := hr (.inl y) List.mem_cons_self
    refine lv_imul hx hb hd ?_
    have e1 : Value.int (Int32.ofInt x * Int32.ofInt y) = .int (Int32.ofInt (w32 (x * y))) := by rw [zI_mul]
    rw [e1]
    exact zkk kk hz0 H locs ls hO hS hL (fun v hv => by
      rcases List.mem_cons.mp hv with e2 | e2
      · subst e2; exact w32_rn _
      · exact hr v (List.mem_cons_of_mem _ (List.mem_cons_of_mem _ e2)))
  · cases hst

set_option maxHeartbeats 1000000 in
theorem zs_iand (hC : ZCx p s m args meth c own cc nL isI dC dI cI cO base) (hX : zSc sc b base s) (hR : fr ≤ R.frames ∧ lo ≤ R.locals) {nx a bb d w len pc pc' : Nat} {cv : Int} {L st L' st' : List ZV} {S S' : Sh} {M M' : Me} {h h' : Ml} {cells slots : Nat} (hd : decode cc pc = .ok (.iand, len)) (hnx : pc + len = nx) (hk : zchk own nL isI ret fr lo pc len (.iand) a bb d cv w = true) (hst : zst sc (.iand, nx, a, bb, d, cv, w) L st S M h = some (pc', L', st', S', M', h')) (hrm : cells + (S'.length - S.length) ≤ R.cells ∧ slots + (zsz S' - zsz S) ≤ R.slots) (kk : ZN p l e R s m args below meth c Q dC dI cI cO b base nL pc' L' st' S' M' h' (cells + (S'.length - S.length)) (slots + (zsz S' - zsz S))) : ZN p l e R s m args below meth c Q dC dI cI cO b base nL pc L st S M h cells slots := by
  obtain ⟨hx, hb, hml, hown, hts, hK, hin, hbs⟩ := hC
  have h1 := Nat.eq_of_beq_eq_true hk
  subst h1; subst hnx
  simp only [zst] at hst
  split at hst
  · next y x r =>
    cases hst
    intro hz0 H locs ls hO hS hL hr
    have hx1 : zrn x := hr (.inl x) (List.mem_cons_of_mem _ List.mem_cons_self)
    have hy1 : zrn y := hr (.inl y) List.mem_cons_self
    refine lv_iand hx hb hd ?_
    have e1 : Value.int (Int32.ofInt x &&& Int32.ofInt y) = .int (Int32.ofInt (bAnd x y)) := by rw [(zI_and x y).1]
    rw [e1]
    exact zkk kk hz0 H locs ls hO hS hL (fun v hv => by
      rcases List.mem_cons.mp hv with e2 | e2
      · subst e2; exact (zI_and x y).2
      · exact hr v (List.mem_cons_of_mem _ (List.mem_cons_of_mem _ e2)))
  · cases hst

set_option maxHeartbeats 1000000 in
theorem zs_ior (hC : ZCx p s m args meth c own cc nL isI dC dI cI cO base) (hX : zSc sc b base s) (hR : fr ≤ R.frames ∧ lo ≤ R.locals) {nx a bb d w len pc pc' : Nat} {cv : Int} {L st L' st' : List ZV} {S S' : Sh} {M M' : Me} {h h' : Ml} {cells slots : Nat} (hd : decode cc pc = .ok (.ior, len)) (hnx : pc + len = nx) (hk : zchk own nL isI ret fr lo pc len (.ior) a bb d cv w = true) (hst : zst sc (.ior, nx, a, bb, d, cv, w) L st S M h = some (pc', L', st', S', M', h')) (hrm : cells + (S'.length - S.length) ≤ R.cells ∧ slots + (zsz S' - zsz S) ≤ R.slots) (kk : ZN p l e R s m args below meth c Q dC dI cI cO b base nL pc' L' st' S' M' h' (cells + (S'.length - S.length)) (slots + (zsz S' - zsz S))) : ZN p l e R s m args below meth c Q dC dI cI cO b base nL pc L st S M h cells slots := by
  obtain ⟨hx, hb, hml, hown, hts, hK, hin, hbs⟩ := hC
  have h1 := Nat.eq_of_beq_eq_true hk
  subst h1; subst hnx
  simp only [zst] at hst
  split at hst
  · next y x r =>
    cases hst
    intro hz0 H locs ls hO hS hL hr
    have hx1 : zrn x := hr (.inl x) (List.mem_cons_of_mem _ List.mem_cons_self)
    have hy1 : zrn y := hr (.inl y) List.mem_cons_self
    refine lv_ior hx hb hd ?_
    have e1 : Value.int (Int32.ofInt x ||| Int32.ofInt y) = .int (Int32.ofInt (bOr x y)) := by rw [(zI_or x y).1]
    rw [e1]
    exact zkk kk hz0 H locs ls hO hS hL (fun v hv => by
      rcases List.mem_cons.mp hv with e2 | e2
      · subst e2; exact (zI_or x y).2
      · exact hr v (List.mem_cons_of_mem _ (List.mem_cons_of_mem _ e2)))
  · cases hst

set_option maxHeartbeats 1000000 in
theorem zs_ixor (hC : ZCx p s m args meth c own cc nL isI dC dI cI cO base) (hX : zSc sc b base s) (hR : fr ≤ R.frames ∧ lo ≤ R.locals) {nx a bb d w len pc pc' : Nat} {cv : Int} {L st L' st' : List ZV} {S S' : Sh} {M M' : Me} {h h' : Ml} {cells slots : Nat} (hd : decode cc pc = .ok (.ixor, len)) (hnx : pc + len = nx) (hk : zchk own nL isI ret fr lo pc len (.ixor) a bb d cv w = true) (hst : zst sc (.ixor, nx, a, bb, d, cv, w) L st S M h = some (pc', L', st', S', M', h')) (hrm : cells + (S'.length - S.length) ≤ R.cells ∧ slots + (zsz S' - zsz S) ≤ R.slots) (kk : ZN p l e R s m args below meth c Q dC dI cI cO b base nL pc' L' st' S' M' h' (cells + (S'.length - S.length)) (slots + (zsz S' - zsz S))) : ZN p l e R s m args below meth c Q dC dI cI cO b base nL pc L st S M h cells slots := by
  obtain ⟨hx, hb, hml, hown, hts, hK, hin, hbs⟩ := hC
  have h1 := Nat.eq_of_beq_eq_true hk
  subst h1; subst hnx
  simp only [zst] at hst
  split at hst
  · next y x r =>
    cases hst
    intro hz0 H locs ls hO hS hL hr
    have hx1 : zrn x := hr (.inl x) (List.mem_cons_of_mem _ List.mem_cons_self)
    have hy1 : zrn y := hr (.inl y) List.mem_cons_self
    refine lv_ixor hx hb hd ?_
    have e1 : Value.int (Int32.ofInt x ^^^ Int32.ofInt y) = .int (Int32.ofInt (bXor x y)) := by rw [(zI_xor x y).1]
    rw [e1]
    exact zkk kk hz0 H locs ls hO hS hL (fun v hv => by
      rcases List.mem_cons.mp hv with e2 | e2
      · subst e2; exact (zI_xor x y).2
      · exact hr v (List.mem_cons_of_mem _ (List.mem_cons_of_mem _ e2)))
  · cases hst

set_option maxHeartbeats 1000000 in
theorem zs_ishl (hC : ZCx p s m args meth c own cc nL isI dC dI cI cO base) (hX : zSc sc b base s) (hR : fr ≤ R.frames ∧ lo ≤ R.locals) {nx a bb d w len pc pc' : Nat} {cv : Int} {L st L' st' : List ZV} {S S' : Sh} {M M' : Me} {h h' : Ml} {cells slots : Nat} (hd : decode cc pc = .ok (.ishl, len)) (hnx : pc + len = nx) (hk : zchk own nL isI ret fr lo pc len (.ishl) a bb d cv w = true) (hst : zst sc (.ishl, nx, a, bb, d, cv, w) L st S M h = some (pc', L', st', S', M', h')) (hrm : cells + (S'.length - S.length) ≤ R.cells ∧ slots + (zsz S' - zsz S) ≤ R.slots) (kk : ZN p l e R s m args below meth c Q dC dI cI cO b base nL pc' L' st' S' M' h' (cells + (S'.length - S.length)) (slots + (zsz S' - zsz S))) : ZN p l e R s m args below meth c Q dC dI cI cO b base nL pc L st S M h cells slots := by
  obtain ⟨hx, hb, hml, hown, hts, hK, hin, hbs⟩ := hC
  have h1 := Nat.eq_of_beq_eq_true hk
  subst h1; subst hnx
  simp only [zst] at hst
  split at hst
  · next y x r =>
    cases hst
    intro hz0 H locs ls hO hS hL hr
    have hx1 : zrn x := hr (.inl x) (List.mem_cons_of_mem _ List.mem_cons_self)
    have hy1 : zrn y := hr (.inl y) List.mem_cons_self
    refine lv_ishl hx hb hd ?_
    have e1 : Value.int (Int32.ofInt x <<< (Int32.ofInt y &&& 31)) = .int (Int32.ofInt (bShl x y)) := by rw [(zI_shl x y).1]
    rw [e1]
    exact zkk kk hz0 H locs ls hO hS hL (fun v hv => by
      rcases List.mem_cons.mp hv with e2 | e2
      · subst e2; exact (zI_shl x y).2
      · exact hr v (List.mem_cons_of_mem _ (List.mem_cons_of_mem _ e2)))
  · cases hst

set_option maxHeartbeats 1000000 in
theorem zs_ishr (hC : ZCx p s m args meth c own cc nL isI dC dI cI cO base) (hX : zSc sc b base s) (hR : fr ≤ R.frames ∧ lo ≤ R.locals) {nx a bb d w len pc pc' : Nat} {cv : Int} {L st L' st' : List ZV} {S S' : Sh} {M M' : Me} {h h' : Ml} {cells slots : Nat} (hd : decode cc pc = .ok (.ishr, len)) (hnx : pc + len = nx) (hk : zchk own nL isI ret fr lo pc len (.ishr) a bb d cv w = true) (hst : zst sc (.ishr, nx, a, bb, d, cv, w) L st S M h = some (pc', L', st', S', M', h')) (hrm : cells + (S'.length - S.length) ≤ R.cells ∧ slots + (zsz S' - zsz S) ≤ R.slots) (kk : ZN p l e R s m args below meth c Q dC dI cI cO b base nL pc' L' st' S' M' h' (cells + (S'.length - S.length)) (slots + (zsz S' - zsz S))) : ZN p l e R s m args below meth c Q dC dI cI cO b base nL pc L st S M h cells slots := by
  obtain ⟨hx, hb, hml, hown, hts, hK, hin, hbs⟩ := hC
  have h1 := Nat.eq_of_beq_eq_true hk
  subst h1; subst hnx
  simp only [zst] at hst
  split at hst
  · next y x r =>
    cases hst
    intro hz0 H locs ls hO hS hL hr
    have hx1 : zrn x := hr (.inl x) (List.mem_cons_of_mem _ List.mem_cons_self)
    have hy1 : zrn y := hr (.inl y) List.mem_cons_self
    refine lv_ishr hx hb hd ?_
    have e1 : Value.int (Int32.ofInt x >>> (Int32.ofInt y &&& 31)) = .int (Int32.ofInt (bShr x y)) := by rw [(zI_shr x y).1]
    rw [e1]
    exact zkk kk hz0 H locs ls hO hS hL (fun v hv => by
      rcases List.mem_cons.mp hv with e2 | e2
      · subst e2; exact (zI_shr x y).2
      · exact hr v (List.mem_cons_of_mem _ (List.mem_cons_of_mem _ e2)))
  · cases hst

set_option maxHeartbeats 1000000 in
theorem zs_iushr (hC : ZCx p s m args meth c own cc nL isI dC dI cI cO base) (hX : zSc sc b base s) (hR : fr ≤ R.frames ∧ lo ≤ R.locals) {nx a bb d w len pc pc' : Nat} {cv : Int} {L st L' st' : List ZV} {S S' : Sh} {M M' : Me} {h h' : Ml} {cells slots : Nat} (hd : decode cc pc = .ok (.iushr, len)) (hnx : pc + len = nx) (hk : zchk own nL isI ret fr lo pc len (.iushr) a bb d cv w = true) (hst : zst sc (.iushr, nx, a, bb, d, cv, w) L st S M h = some (pc', L', st', S', M', h')) (hrm : cells + (S'.length - S.length) ≤ R.cells ∧ slots + (zsz S' - zsz S) ≤ R.slots) (kk : ZN p l e R s m args below meth c Q dC dI cI cO b base nL pc' L' st' S' M' h' (cells + (S'.length - S.length)) (slots + (zsz S' - zsz S))) : ZN p l e R s m args below meth c Q dC dI cI cO b base nL pc L st S M h cells slots := by
  obtain ⟨hx, hb, hml, hown, hts, hK, hin, hbs⟩ := hC
  have h1 := Nat.eq_of_beq_eq_true hk
  subst h1; subst hnx
  simp only [zst] at hst
  split at hst
  · next y x r =>
    cases hst
    intro hz0 H locs ls hO hS hL hr
    have hx1 : zrn x := hr (.inl x) (List.mem_cons_of_mem _ List.mem_cons_self)
    have hy1 : zrn y := hr (.inl y) List.mem_cons_self
    refine lv_iushr (v := Int32.ofInt (bUsh x y)) hx hb hd (zI_ush x y).1.symm ?_
    have e1 : Value.int (Int32.ofInt (bUsh x y)) = .int (Int32.ofInt (bUsh x y)) := rfl
    rw [e1]
    exact zkk kk hz0 H locs ls hO hS hL (fun v hv => by
      rcases List.mem_cons.mp hv with e2 | e2
      · subst e2; exact (zI_ush x y).2
      · exact hr v (List.mem_cons_of_mem _ (List.mem_cons_of_mem _ e2)))
  · cases hst

set_option maxHeartbeats 1000000 in
theorem zs_iconst (hC : ZCx p s m args meth c own cc nL isI dC dI cI cO base) (hX : zSc sc b base s) (hR : fr ≤ R.frames ∧ lo ≤ R.locals) {nx a bb d w len pc pc' : Nat} {cv : Int} {L st L' st' : List ZV} {S S' : Sh} {M M' : Me} {h h' : Ml} {cells slots : Nat} {n : Int} (hd : decode cc pc = .ok (.iconst n, len)) (hnx : pc + len = nx) (hk : zchk own nL isI ret fr lo pc len (.iconst n) a bb d cv w = true) (hst : zst sc (.iconst n, nx, a, bb, d, cv, w) L st S M h = some (pc', L', st', S', M', h')) (hrm : cells + (S'.length - S.length) ≤ R.cells ∧ slots + (zsz S' - zsz S) ≤ R.slots) (kk : ZN p l e R s m args below meth c Q dC dI cI cO b base nL pc' L' st' S' M' h' (cells + (S'.length - S.length)) (slots + (zsz S' - zsz S))) : ZN p l e R s m args below meth c Q dC dI cI cO b base nL pc L st S M h cells slots := by
  obtain ⟨hx, hb, hml, hown, hts, hK, hin, hbs⟩ := hC
  simp only [zchk, Bool.and_eq_true] at hk
  obtain ⟨⟨h1, h2⟩, hrg⟩ := hk
  have h1 := Nat.eq_of_beq_eq_true h1
  have h2 := of_decide_eq_true h2
  subst h1; subst hnx
  simp only [zst] at hst
  cases hst
  intro hz0 H locs ls hO hS hL hr
  subst h2
  refine lv_iconst (v := Int32.ofInt cv) hx hb hd rfl ?_
  exact zkk kk hz0 H locs ls hO hS hL (fun v hv => by
    rcases List.mem_cons.mp hv with e2 | e2
    · subst e2; exact zrgb_rn hrg
    · exact hr v e2)

set_option maxHeartbeats 1000000 in
theorem zs_bipush (hC : ZCx p s m args meth c own cc nL isI dC dI cI cO base) (hX : zSc sc b base s) (hR : fr ≤ R.frames ∧ lo ≤ R.locals) {nx a bb d w len pc pc' : Nat} {cv : Int} {L st L' st' : List ZV} {S S' : Sh} {M M' : Me} {h h' : Ml} {cells slots : Nat} {n : Int} (hd : decode cc pc = .ok (.bipush n, len)) (hnx : pc + len = nx) (hk : zchk own nL isI ret fr lo pc len (.bipush n) a bb d cv w = true) (hst : zst sc (.bipush n, nx, a, bb, d, cv, w) L st S M h = some (pc', L', st', S', M', h')) (hrm : cells + (S'.length - S.length) ≤ R.cells ∧ slots + (zsz S' - zsz S) ≤ R.slots) (kk : ZN p l e R s m args below meth c Q dC dI cI cO b base nL pc' L' st' S' M' h' (cells + (S'.length - S.length)) (slots + (zsz S' - zsz S))) : ZN p l e R s m args below meth c Q dC dI cI cO b base nL pc L st S M h cells slots := by
  obtain ⟨hx, hb, hml, hown, hts, hK, hin, hbs⟩ := hC
  simp only [zchk, Bool.and_eq_true] at hk
  obtain ⟨⟨h1, h2⟩, hrg⟩ := hk
  have h1 := Nat.eq_of_beq_eq_true h1
  have h2 := of_decide_eq_true h2
  subst h1; subst hnx
  simp only [zst] at hst
  cases hst
  intro hz0 H locs ls hO hS hL hr
  refine lv_bipush (v := Int32.ofInt cv) hx hb hd h2 ?_
  exact zkk kk hz0 H locs ls hO hS hL (fun v hv => by
    rcases List.mem_cons.mp hv with e2 | e2
    · subst e2; exact zrgb_rn hrg
    · exact hr v e2)

set_option maxHeartbeats 1000000 in
theorem zs_sipush (hC : ZCx p s m args meth c own cc nL isI dC dI cI cO base) (hX : zSc sc b base s) (hR : fr ≤ R.frames ∧ lo ≤ R.locals) {nx a bb d w len pc pc' : Nat} {cv : Int} {L st L' st' : List ZV} {S S' : Sh} {M M' : Me} {h h' : Ml} {cells slots : Nat} {n : Int} (hd : decode cc pc = .ok (.sipush n, len)) (hnx : pc + len = nx) (hk : zchk own nL isI ret fr lo pc len (.sipush n) a bb d cv w = true) (hst : zst sc (.sipush n, nx, a, bb, d, cv, w) L st S M h = some (pc', L', st', S', M', h')) (hrm : cells + (S'.length - S.length) ≤ R.cells ∧ slots + (zsz S' - zsz S) ≤ R.slots) (kk : ZN p l e R s m args below meth c Q dC dI cI cO b base nL pc' L' st' S' M' h' (cells + (S'.length - S.length)) (slots + (zsz S' - zsz S))) : ZN p l e R s m args below meth c Q dC dI cI cO b base nL pc L st S M h cells slots := by
  obtain ⟨hx, hb, hml, hown, hts, hK, hin, hbs⟩ := hC
  simp only [zchk, Bool.and_eq_true] at hk
  obtain ⟨⟨h1, h2⟩, hrg⟩ := hk
  have h1 := Nat.eq_of_beq_eq_true h1
  have h2 := of_decide_eq_true h2
  subst h1; subst hnx
  simp only [zst] at hst
  cases hst
  intro hz0 H locs ls hO hS hL hr
  refine lv_sipush (v := Int32.ofInt cv) hx hb hd h2 ?_
  exact zkk kk hz0 H locs ls hO hS hL (fun v hv => by
    rcases List.mem_cons.mp hv with e2 | e2
    · subst e2; exact zrgb_rn hrg
    · exact hr v e2)

set_option maxHeartbeats 1000000 in
theorem zs_ldc (hC : ZCx p s m args meth c own cc nL isI dC dI cI cO base) (hX : zSc sc b base s) (hR : fr ≤ R.frames ∧ lo ≤ R.locals) {nx a bb d w len pc pc' : Nat} {cv : Int} {L st L' st' : List ZV} {S S' : Sh} {M M' : Me} {h h' : Ml} {cells slots : Nat} {n : Nat} (hd : decode cc pc = .ok (.ldc n, len)) (hnx : pc + len = nx) (hk : zchk own nL isI ret fr lo pc len (.ldc n) a bb d cv w = true) (hst : zst sc (.ldc n, nx, a, bb, d, cv, w) L st S M h = some (pc', L', st', S', M', h')) (hrm : cells + (S'.length - S.length) ≤ R.cells ∧ slots + (zsz S' - zsz S) ≤ R.slots) (kk : ZN p l e R s m args below meth c Q dC dI cI cO b base nL pc' L' st' S' M' h' (cells + (S'.length - S.length)) (slots + (zsz S' - zsz S))) : ZN p l e R s m args below meth c Q dC dI cI cO b base nL pc L st S M h cells slots := by
  obtain ⟨hx, hb, hml, hown, hts, hK, hin, hbs⟩ := hC
  simp only [zchk, Bool.and_eq_true] at hk
  obtain ⟨⟨h1, h2⟩, hrg⟩ := hk
  have h1 := Nat.eq_of_beq_eq_true h1
  have h2 := zin_mem h2
  subst h1; subst hnx
  simp only [zst] at hst
  cases hst
  intro hz0 H locs ls hO hS hL hr
  refine lv_ldc (own := own) (v := Int32.ofInt cv) hx hb hown (hts _ h2) hd ?_
  exact zkk kk hz0 H locs ls hO hS hL (fun v hv => by
    rcases List.mem_cons.mp hv with e2 | e2
    · subst e2; exact zrgb_rn hrg
    · exact hr v e2)

set_option maxHeartbeats 1000000 in
theorem zs_ldc_w (hC : ZCx p s m args meth c own cc nL isI dC dI cI cO base) (hX : zSc sc b base s) (hR : fr ≤ R.frames ∧ lo ≤ R.locals) {nx a bb d w len pc pc' : Nat} {cv : Int} {L st L' st' : List ZV} {S S' : Sh} {M M' : Me} {h h' : Ml} {cells slots : Nat} {n : Nat} (hd : decode cc pc = .ok (.ldc_w n, len)) (hnx : pc + len = nx) (hk : zchk own nL isI ret fr lo pc len (.ldc_w n) a bb d cv w = true) (hst : zst sc (.ldc_w n, nx, a, bb, d, cv, w) L st S M h = some (pc', L', st', S', M', h')) (hrm : cells + (S'.length - S.length) ≤ R.cells ∧ slots + (zsz S' - zsz S) ≤ R.slots) (kk : ZN p l e R s m args below meth c Q dC dI cI cO b base nL pc' L' st' S' M' h' (cells + (S'.length - S.length)) (slots + (zsz S' - zsz S))) : ZN p l e R s m args below meth c Q dC dI cI cO b base nL pc L st S M h cells slots := by
  obtain ⟨hx, hb, hml, hown, hts, hK, hin, hbs⟩ := hC
  simp only [zchk, Bool.and_eq_true] at hk
  obtain ⟨⟨h1, h2⟩, hrg⟩ := hk
  have h1 := Nat.eq_of_beq_eq_true h1
  have h2 := zin_mem h2
  subst h1; subst hnx
  simp only [zst] at hst
  cases hst
  intro hz0 H locs ls hO hS hL hr
  refine lv_ldcw (own := own) (v := Int32.ofInt cv) hx hb hown (hts _ h2) hd ?_
  exact zkk kk hz0 H locs ls hO hS hL (fun v hv => by
    rcases List.mem_cons.mp hv with e2 | e2
    · subst e2; exact zrgb_rn hrg
    · exact hr v e2)

set_option maxHeartbeats 1000000 in
theorem zs_ldc2_w (hC : ZCx p s m args meth c own cc nL isI dC dI cI cO base) (hX : zSc sc b base s) (hR : fr ≤ R.frames ∧ lo ≤ R.locals) {nx a bb d w len pc pc' : Nat} {cv : Int} {L st L' st' : List ZV} {S S' : Sh} {M M' : Me} {h h' : Ml} {cells slots : Nat} {n : Nat} (hd : decode cc pc = .ok (.ldc2_w n, len)) (hnx : pc + len = nx) (hk : zchk own nL isI ret fr lo pc len (.ldc2_w n) a bb d cv w = true) (hst : zst sc (.ldc2_w n, nx, a, bb, d, cv, w) L st S M h = some (pc', L', st', S', M', h')) (hrm : cells + (S'.length - S.length) ≤ R.cells ∧ slots + (zsz S' - zsz S) ≤ R.slots) (kk : ZN p l e R s m args below meth c Q dC dI cI cO b base nL pc' L' st' S' M' h' (cells + (S'.length - S.length)) (slots + (zsz S' - zsz S))) : ZN p l e R s m args below meth c Q dC dI cI cO b base nL pc L st S M h cells slots := by
  obtain ⟨hx, hb, hml, hown, hts, hK, hin, hbs⟩ := hC
  simp only [zchk, Bool.and_eq_true] at hk
  obtain ⟨h1, h2⟩ := hk
  have h1 := Nat.eq_of_beq_eq_true h1
  have h2 := zin_mem h2
  subst h1; subst hnx
  simp only [zst] at hst
  cases hst
  intro hz0 H locs ls hO hS hL hr
  refine lv_ldc2 (own := own) (v := Int64.ofInt cv) hx hb hown (hts _ h2) hd ?_
  exact zkk kk hz0 H locs ls hO hS hL (fun v hv => by
    rcases List.mem_cons.mp hv with e2 | e2
    · subst e2; exact trivial
    · exact hr v e2)

set_option maxHeartbeats 1000000 in
theorem zs_iload (hC : ZCx p s m args meth c own cc nL isI dC dI cI cO base) (hX : zSc sc b base s) (hR : fr ≤ R.frames ∧ lo ≤ R.locals) {nx a bb d w len pc pc' : Nat} {cv : Int} {L st L' st' : List ZV} {S S' : Sh} {M M' : Me} {h h' : Ml} {cells slots : Nat} {k : Nat} (hd : decode cc pc = .ok (.iload k, len)) (hnx : pc + len = nx) (hk : zchk own nL isI ret fr lo pc len (.iload k) a bb d cv w = true) (hst : zst sc (.iload k, nx, a, bb, d, cv, w) L st S M h = some (pc', L', st', S', M', h')) (hrm : cells + (S'.length - S.length) ≤ R.cells ∧ slots + (zsz S' - zsz S) ≤ R.slots) (kk : ZN p l e R s m args below meth c Q dC dI cI cO b base nL pc' L' st' S' M' h' (cells + (S'.length - S.length)) (slots + (zsz S' - zsz S))) : ZN p l e R s m args below meth c Q dC dI cI cO b base nL pc L st S M h cells slots := by
  obtain ⟨hx, hb, hml, hown, hts, hK, hin, hbs⟩ := hC
  obtain ⟨h1, h2⟩ := zlen1 hk
  have h2 := Nat.eq_of_beq_eq_true h2
  subst h1; subst hnx
  simp only [zst] at hst
  split at hst
  · next x hz =>
    cases hst
    intro hz0 H locs ls hO hS hL hr
    obtain ⟨hl, hv0⟩ := hL.at hz (by intro q; cases q)
    refine lv_iload hx hb hd (by rw [h2]; exact hl) ?_
    exact zkk kk hz0 H locs ls hO hS hL (fun v hv => by
      rcases List.mem_cons.mp hv with e2 | e2
      · subst e2; exact hv0
      · exact hr v e2)
  · cases hst

set_option maxHeartbeats 1000000 in
theorem zs_iload_n (hC : ZCx p s m args meth c own cc nL isI dC dI cI cO base) (hX : zSc sc b base s) (hR : fr ≤ R.frames ∧ lo ≤ R.locals) {nx a bb d w len pc pc' : Nat} {cv : Int} {L st L' st' : List ZV} {S S' : Sh} {M M' : Me} {h h' : Ml} {cells slots : Nat} {k : Fin 4} (hd : decode cc pc = .ok (.iload_n k, len)) (hnx : pc + len = nx) (hk : zchk own nL isI ret fr lo pc len (.iload_n k) a bb d cv w = true) (hst : zst sc (.iload_n k, nx, a, bb, d, cv, w) L st S M h = some (pc', L', st', S', M', h')) (hrm : cells + (S'.length - S.length) ≤ R.cells ∧ slots + (zsz S' - zsz S) ≤ R.slots) (kk : ZN p l e R s m args below meth c Q dC dI cI cO b base nL pc' L' st' S' M' h' (cells + (S'.length - S.length)) (slots + (zsz S' - zsz S))) : ZN p l e R s m args below meth c Q dC dI cI cO b base nL pc L st S M h cells slots := by
  obtain ⟨hx, hb, hml, hown, hts, hK, hin, hbs⟩ := hC
  obtain ⟨h1, h2⟩ := zlen1 hk
  have h2 := Nat.eq_of_beq_eq_true h2
  subst h1; subst hnx
  simp only [zst] at hst
  split at hst
  · next x hz =>
    cases hst
    intro hz0 H locs ls hO hS hL hr
    obtain ⟨hl, hv0⟩ := hL.at hz (by intro q; cases q)
    refine lv_iload_n hx hb hd h2 hl ?_
    exact zkk kk hz0 H locs ls hO hS hL (fun v hv => by
      rcases List.mem_cons.mp hv with e2 | e2
      · subst e2; exact hv0
      · exact hr v e2)
  · cases hst

set_option maxHeartbeats 1000000 in
theorem zs_lload (hC : ZCx p s m args meth c own cc nL isI dC dI cI cO base) (hX : zSc sc b base s) (hR : fr ≤ R.frames ∧ lo ≤ R.locals) {nx a bb d w len pc pc' : Nat} {cv : Int} {L st L' st' : List ZV} {S S' : Sh} {M M' : Me} {h h' : Ml} {cells slots : Nat} {k : Nat} (hd : decode cc pc = .ok (.lload k, len)) (hnx : pc + len = nx) (hk : zchk own nL isI ret fr lo pc len (.lload k) a bb d cv w = true) (hst : zst sc (.lload k, nx, a, bb, d, cv, w) L st S M h = some (pc', L', st', S', M', h')) (hrm : cells + (S'.length - S.length) ≤ R.cells ∧ slots + (zsz S' - zsz S) ≤ R.slots) (kk : ZN p l e R s m args below meth c Q dC dI cI cO b base nL pc' L' st' S' M' h' (cells + (S'.length - S.length)) (slots + (zsz S' - zsz S))) : ZN p l e R s m args below meth c Q dC dI cI cO b base nL pc L st S M h cells slots := by
  obtain ⟨hx, hb, hml, hown, hts, hK, hin, hbs⟩ := hC
  obtain ⟨h1, h2⟩ := zlen1 hk
  have h2 := Nat.eq_of_beq_eq_true h2
  subst h1; subst hnx
  simp only [zst] at hst
  split at hst
  · next x hz =>
    cases hst
    intro hz0 H locs ls hO hS hL hr
    obtain ⟨hl, hv0⟩ := hL.at hz (by intro q; cases q)
    refine lv_lload hx hb hd (by rw [h2]; exact hl) ?_
    exact zkk kk hz0 H locs ls hO hS hL (fun v hv => by
      rcases List.mem_cons.mp hv with e2 | e2
      · subst e2; exact hv0
      · exact hr v e2)
  · cases hst

set_option maxHeartbeats 1000000 in
theorem zs_lload_n (hC : ZCx p s m args meth c own cc nL isI dC dI cI cO base) (hX : zSc sc b base s) (hR : fr ≤ R.frames ∧ lo ≤ R.locals) {nx a bb d w len pc pc' : Nat} {cv : Int} {L st L' st' : List ZV} {S S' : Sh} {M M' : Me} {h h' : Ml} {cells slots : Nat} {k : Fin 4} (hd : decode cc pc = .ok (.lload_n k, len)) (hnx : pc + len = nx) (hk : zchk own nL isI ret fr lo pc len (.lload_n k) a bb d cv w = true) (hst : zst sc (.lload_n k, nx, a, bb, d, cv, w) L st S M h = some (pc', L', st', S', M', h')) (hrm : cells + (S'.length - S.length) ≤ R.cells ∧ slots + (zsz S' - zsz S) ≤ R.slots) (kk : ZN p l e R s m args below meth c Q dC dI cI cO b base nL pc' L' st' S' M' h' (cells + (S'.length - S.length)) (slots + (zsz S' - zsz S))) : ZN p l e R s m args below meth c Q dC dI cI cO b base nL pc L st S M h cells slots := by
  obtain ⟨hx, hb, hml, hown, hts, hK, hin, hbs⟩ := hC
  obtain ⟨h1, h2⟩ := zlen1 hk
  have h2 := Nat.eq_of_beq_eq_true h2
  subst h1; subst hnx
  simp only [zst] at hst
  split at hst
  · next x hz =>
    cases hst
    intro hz0 H locs ls hO hS hL hr
    obtain ⟨hl, hv0⟩ := hL.at hz (by intro q; cases q)
    refine lv_lload_n hx hb hd h2 hl ?_
    exact zkk kk hz0 H locs ls hO hS hL (fun v hv => by
      rcases List.mem_cons.mp hv with e2 | e2
      · subst e2; exact hv0
      · exact hr v e2)
  · cases hst

set_option maxHeartbeats 1000000 in
theorem zs_aload (hC : ZCx p s m args meth c own cc nL isI dC dI cI cO base) (hX : zSc sc b base s) (hR : fr ≤ R.frames ∧ lo ≤ R.locals) {nx a bb d w len pc pc' : Nat} {cv : Int} {L st L' st' : List ZV} {S S' : Sh} {M M' : Me} {h h' : Ml} {cells slots : Nat} {k : Nat} (hd : decode cc pc = .ok (.aload k, len)) (hnx : pc + len = nx) (hk : zchk own nL isI ret fr lo pc len (.aload k) a bb d cv w = true) (hst : zst sc (.aload k, nx, a, bb, d, cv, w) L st S M h = some (pc', L', st', S', M', h')) (hrm : cells + (S'.length - S.length) ≤ R.cells ∧ slots + (zsz S' - zsz S) ≤ R.slots) (kk : ZN p l e R s m args below meth c Q dC dI cI cO b base nL pc' L' st' S' M' h' (cells + (S'.length - S.length)) (slots + (zsz S' - zsz S))) : ZN p l e R s m args below meth c Q dC dI cI cO b base nL pc L st S M h cells slots := by
  obtain ⟨hx, hb, hml, hown, hts, hK, hin, hbs⟩ := hC
  obtain ⟨h1, h2⟩ := zlen1 hk
  have h2 := Nat.eq_of_beq_eq_true h2
  subst h1; subst hnx
  simp only [zst] at hst
  split at hst
  · next x hz =>
    cases hst
    intro hz0 H locs ls hO hS hL hr
    obtain ⟨hl, hv0⟩ := hL.at hz (by intro q; cases q)
    refine lv_aload hx hb hd (by rw [h2]; exact hl) ?_
    exact zkk kk hz0 H locs ls hO hS hL (fun v hv => by
      rcases List.mem_cons.mp hv with e2 | e2
      · subst e2; exact hv0
      · exact hr v e2)
  · next hz =>
    cases hst
    intro hz0 H locs ls hO hS hL hr
    obtain ⟨hl, hv0⟩ := hL.at hz (by intro q; cases q)
    refine lv_aload hx hb hd (by rw [h2]; exact hl) ?_
    exact zkk kk hz0 H locs ls hO hS hL (fun v hv => by
      rcases List.mem_cons.mp hv with e2 | e2
      · subst e2; exact hv0
      · exact hr v e2)
  · cases hst

set_option maxHeartbeats 1000000 in
theorem zs_aload_n (hC : ZCx p s m args meth c own cc nL isI dC dI cI cO base) (hX : zSc sc b base s) (hR : fr ≤ R.frames ∧ lo ≤ R.locals) {nx a bb d w len pc pc' : Nat} {cv : Int} {L st L' st' : List ZV} {S S' : Sh} {M M' : Me} {h h' : Ml} {cells slots : Nat} {k : Fin 4} (hd : decode cc pc = .ok (.aload_n k, len)) (hnx : pc + len = nx) (hk : zchk own nL isI ret fr lo pc len (.aload_n k) a bb d cv w = true) (hst : zst sc (.aload_n k, nx, a, bb, d, cv, w) L st S M h = some (pc', L', st', S', M', h')) (hrm : cells + (S'.length - S.length) ≤ R.cells ∧ slots + (zsz S' - zsz S) ≤ R.slots) (kk : ZN p l e R s m args below meth c Q dC dI cI cO b base nL pc' L' st' S' M' h' (cells + (S'.length - S.length)) (slots + (zsz S' - zsz S))) : ZN p l e R s m args below meth c Q dC dI cI cO b base nL pc L st S M h cells slots := by
  obtain ⟨hx, hb, hml, hown, hts, hK, hin, hbs⟩ := hC
  obtain ⟨h1, h2⟩ := zlen1 hk
  have h2 := Nat.eq_of_beq_eq_true h2
  subst h1; subst hnx
  simp only [zst] at hst
  split at hst
  · next x hz =>
    cases hst
    intro hz0 H locs ls hO hS hL hr
    obtain ⟨hl, hv0⟩ := hL.at hz (by intro q; cases q)
    refine lv_aload_n hx hb hd h2 hl ?_
    exact zkk kk hz0 H locs ls hO hS hL (fun v hv => by
      rcases List.mem_cons.mp hv with e2 | e2
      · subst e2; exact hv0
      · exact hr v e2)
  · next hz =>
    cases hst
    intro hz0 H locs ls hO hS hL hr
    obtain ⟨hl, hv0⟩ := hL.at hz (by intro q; cases q)
    refine lv_aload_n hx hb hd h2 hl ?_
    exact zkk kk hz0 H locs ls hO hS hL (fun v hv => by
      rcases List.mem_cons.mp hv with e2 | e2
      · subst e2; exact hv0
      · exact hr v e2)
  · cases hst

set_option maxHeartbeats 1000000 in
theorem zs_istore (hC : ZCx p s m args meth c own cc nL isI dC dI cI cO base) (hX : zSc sc b base s) (hR : fr ≤ R.frames ∧ lo ≤ R.locals) {nx a bb d w len pc pc' : Nat} {cv : Int} {L st L' st' : List ZV} {S S' : Sh} {M M' : Me} {h h' : Ml} {cells slots : Nat} {k : Nat} (hd : decode cc pc = .ok (.istore k, len)) (hnx : pc + len = nx) (hk : zchk own nL isI ret fr lo pc len (.istore k) a bb d cv w = true) (hst : zst sc (.istore k, nx, a, bb, d, cv, w) L st S M h = some (pc', L', st', S', M', h')) (hrm : cells + (S'.length - S.length) ≤ R.cells ∧ slots + (zsz S' - zsz S) ≤ R.slots) (kk : ZN p l e R s m args below meth c Q dC dI cI cO b base nL pc' L' st' S' M' h' (cells + (S'.length - S.length)) (slots + (zsz S' - zsz S))) : ZN p l e R s m args below meth c Q dC dI cI cO b base nL pc L st S M h cells slots := by
  obtain ⟨hx, hb, hml, hown, hts, hK, hin, hbs⟩ := hC
  obtain ⟨h1, h2⟩ := zlen1 hk
  have h2 := Nat.eq_of_beq_eq_true h2
  subst h1; subst hnx
  simp only [zst] at hst
  split at hst
  · next x r =>
    cases ho : zok L a with
    | false => rw [ho, cond_false] at hst; cases hst
    | true =>
      rw [ho, cond_true] at hst
      obtain ⟨hi, hst⟩ := zput_some hst
      cases hst
      intro hz0 H locs ls hO hS hL hr
      refine lv_istore hx hb hd hL.2.1 (by rw [h2, ← hL.1]; exact hi) rfl (fun ls' hl' => ?_)
      exact zkk kk hz0 H locs ls' hO hS (hL.put (v := .inl x) hi ho (hr _ List.mem_cons_self) (by rw [h2] at hl'; exact hl')) (fun v hv => hr v (List.mem_cons_of_mem _ hv))
  · cases hst

set_option maxHeartbeats 1000000 in
theorem zs_istore_n (hC : ZCx p s m args meth c own cc nL isI dC dI cI cO base) (hX : zSc sc b base s) (hR : fr ≤ R.frames ∧ lo ≤ R.locals) {nx a bb d w len pc pc' : Nat} {cv : Int} {L st L' st' : List ZV} {S S' : Sh} {M M' : Me} {h h' : Ml} {cells slots : Nat} {k : Fin 4} (hd : decode cc pc = .ok (.istore_n k, len)) (hnx : pc + len = nx) (hk : zchk own nL isI ret fr lo pc len (.istore_n k) a bb d cv w = true) (hst : zst sc (.istore_n k, nx, a, bb, d, cv, w) L st S M h = some (pc', L', st', S', M', h')) (hrm : cells + (S'.length - S.length) ≤ R.cells ∧ slots + (zsz S' - zsz S) ≤ R.slots) (kk : ZN p l e R s m args below meth c Q dC dI cI cO b base nL pc' L' st' S' M' h' (cells + (S'.length - S.length)) (slots + (zsz S' - zsz S))) : ZN p l e R s m args below meth c Q dC dI cI cO b base nL pc L st S M h cells slots := by
  obtain ⟨hx, hb, hml, hown, hts, hK, hin, hbs⟩ := hC
  obtain ⟨h1, h2⟩ := zlen1 hk
  have h2 := Nat.eq_of_beq_eq_true h2
  subst h1; subst hnx
  simp only [zst] at hst
  split at hst
  · next x r =>
    cases ho : zok L a with
    | false => rw [ho, cond_false] at hst; cases hst
    | true =>
      rw [ho, cond_true] at hst
      obtain ⟨hi, hst⟩ := zput_some hst
      cases hst
      intro hz0 H locs ls hO hS hL hr
      refine lv_istore_n hx hb hd h2 hL.2.1 (by rw [← hL.1]; exact hi) rfl (fun ls' hl' => ?_)
      exact zkk kk hz0 H locs ls' hO hS (hL.put (v := .inl x) hi ho (hr _ List.mem_cons_self) (by exact hl')) (fun v hv => hr v (List.mem_cons_of_mem _ hv))
  · cases hst

set_option maxHeartbeats 1000000 in
theorem zs_astore (hC : ZCx p s m args meth c own cc nL isI dC dI cI cO base) (hX : zSc sc b base s) (hR : fr ≤ R.frames ∧ lo ≤ R.locals) {nx a bb d w len pc pc' : Nat} {cv : Int} {L st L' st' : List ZV} {S S' : Sh} {M M' : Me} {h h' : Ml} {cells slots : Nat} {k : Nat} (hd : decode cc pc = .ok (.astore k, len)) (hnx : pc + len = nx) (hk : zchk own nL isI ret fr lo pc len (.astore k) a bb d cv w = true) (hst : zst sc (.astore k, nx, a, bb, d, cv, w) L st S M h = some (pc', L', st', S', M', h')) (hrm : cells + (S'.length - S.length) ≤ R.cells ∧ slots + (zsz S' - zsz S) ≤ R.slots) (kk : ZN p l e R s m args below meth c Q dC dI cI cO b base nL pc' L' st' S' M' h' (cells + (S'.length - S.length)) (slots + (zsz S' - zsz S))) : ZN p l e R s m args below meth c Q dC dI cI cO b base nL pc L st S M h cells slots := by
  obtain ⟨hx, hb, hml, hown, hts, hK, hin, hbs⟩ := hC
  obtain ⟨h1, h2⟩ := zlen1 hk
  have h2 := Nat.eq_of_beq_eq_true h2
  subst h1; subst hnx
  simp only [zst] at hst
  split at hst
  · next x r =>
    cases ho : zok L a with
    | false => rw [ho, cond_false] at hst; cases hst
    | true =>
      rw [ho, cond_true] at hst
      obtain ⟨hi, hst⟩ := zput_some hst
      cases hst
      intro hz0 H locs ls hO hS hL hr
      refine lv_astore hx hb hd hL.2.1 (by rw [h2, ← hL.1]; exact hi) rfl (fun ls' hl' => ?_)
      exact zkk kk hz0 H locs ls' hO hS (hL.put (v := zr x) hi ho (hr _ List.mem_cons_self) (by rw [h2] at hl'; exact hl')) (fun v hv => hr v (List.mem_cons_of_mem _ hv))
  · cases hst

set_option maxHeartbeats 1000000 in
theorem zs_astore_n (hC : ZCx p s m args meth c own cc nL isI dC dI cI cO base) (hX : zSc sc b base s) (hR : fr ≤ R.frames ∧ lo ≤ R.locals) {nx a bb d w len pc pc' : Nat} {cv : Int} {L st L' st' : List ZV} {S S' : Sh} {M M' : Me} {h h' : Ml} {cells slots : Nat} {k : Fin 4} (hd : decode cc pc = .ok (.astore_n k, len)) (hnx : pc + len = nx) (hk : zchk own nL isI ret fr lo pc len (.astore_n k) a bb d cv w = true) (hst : zst sc (.astore_n k, nx, a, bb, d, cv, w) L st S M h = some (pc', L', st', S', M', h')) (hrm : cells + (S'.length - S.length) ≤ R.cells ∧ slots + (zsz S' - zsz S) ≤ R.slots) (kk : ZN p l e R s m args below meth c Q dC dI cI cO b base nL pc' L' st' S' M' h' (cells + (S'.length - S.length)) (slots + (zsz S' - zsz S))) : ZN p l e R s m args below meth c Q dC dI cI cO b base nL pc L st S M h cells slots := by
  obtain ⟨hx, hb, hml, hown, hts, hK, hin, hbs⟩ := hC
  obtain ⟨h1, h2⟩ := zlen1 hk
  have h2 := Nat.eq_of_beq_eq_true h2
  subst h1; subst hnx
  simp only [zst] at hst
  split at hst
  · next x r =>
    cases ho : zok L a with
    | false => rw [ho, cond_false] at hst; cases hst
    | true =>
      rw [ho, cond_true] at hst
      obtain ⟨hi, hst⟩ := zput_some hst
      cases hst
      intro hz0 H locs ls hO hS hL hr
      refine lv_astore_n hx hb hd h2 hL.2.1 (by rw [← hL.1]; exact hi) rfl (fun ls' hl' => ?_)
      exact zkk kk hz0 H locs ls' hO hS (hL.put (v := zr x) hi ho (hr _ List.mem_cons_self) (by exact hl')) (fun v hv => hr v (List.mem_cons_of_mem _ hv))
  · cases hst

set_option maxHeartbeats 1000000 in
theorem zs_lstore (hC : ZCx p s m args meth c own cc nL isI dC dI cI cO base) (hX : zSc sc b base s) (hR : fr ≤ R.frames ∧ lo ≤ R.locals) {nx a bb d w len pc pc' : Nat} {cv : Int} {L st L' st' : List ZV} {S S' : Sh} {M M' : Me} {h h' : Ml} {cells slots : Nat} {k : Nat} (hd : decode cc pc = .ok (.lstore k, len)) (hnx : pc + len = nx) (hk : zchk own nL isI ret fr lo pc len (.lstore k) a bb d cv w = true) (hst : zst sc (.lstore k, nx, a, bb, d, cv, w) L st S M h = some (pc', L', st', S', M', h')) (hrm : cells + (S'.length - S.length) ≤ R.cells ∧ slots + (zsz S' - zsz S) ≤ R.slots) (kk : ZN p l e R s m args below meth c Q dC dI cI cO b base nL pc' L' st' S' M' h' (cells + (S'.length - S.length)) (slots + (zsz S' - zsz S))) : ZN p l e R s m args below meth c Q dC dI cI cO b base nL pc L st S M h cells slots := by
  obtain ⟨hx, hb, hml, hown, hts, hK, hin, hbs⟩ := hC
  obtain ⟨h1, h2⟩ := zlen1 hk
  have h2 := Nat.eq_of_beq_eq_true h2
  subst h1; subst hnx
  simp only [zst] at hst
  split at hst
  · next x r =>
    cases ho : zok L a with
    | false => rw [ho, cond_false] at hst; cases hst
    | true =>
      rw [ho, cond_true] at hst
      obtain ⟨hi, hst⟩ := zput_some hst
      obtain ⟨hi2, hst⟩ := zput_some hst
      rw [List.length_set] at hi2
      cases hst
      intro hz0 H locs ls hO hS hL hr
      refine lv_lstore hx hb hd hL.2.1 (by rw [h2, ← hL.1]; exact hi2) rfl (fun ls' hl' => ?_)
      exact zkk kk hz0 H locs ls' hO hS (hL.put2 hi2 ho (by rw [h2] at hl'; exact hl')) (fun v hv => hr v (List.mem_cons_of_mem _ hv))
  · cases hst

set_option maxHeartbeats 1000000 in
theorem zs_lstore_n (hC : ZCx p s m args meth c own cc nL isI dC dI cI cO base) (hX : zSc sc b base s) (hR : fr ≤ R.frames ∧ lo ≤ R.locals) {nx a bb d w len pc pc' : Nat} {cv : Int} {L st L' st' : List ZV} {S S' : Sh} {M M' : Me} {h h' : Ml} {cells slots : Nat} {k : Fin 4} (hd : decode cc pc = .ok (.lstore_n k, len)) (hnx : pc + len = nx) (hk : zchk own nL isI ret fr lo pc len (.lstore_n k) a bb d cv w = true) (hst : zst sc (.lstore_n k, nx, a, bb, d, cv, w) L st S M h = some (pc', L', st', S', M', h')) (hrm : cells + (S'.length - S.length) ≤ R.cells ∧ slots + (zsz S' - zsz S) ≤ R.slots) (kk : ZN p l e R s m args below meth c Q dC dI cI cO b base nL pc' L' st' S' M' h' (cells + (S'.length - S.length)) (slots + (zsz S' - zsz S))) : ZN p l e R s m args below meth c Q dC dI cI cO b base nL pc L st S M h cells slots := by
  obtain ⟨hx, hb, hml, hown, hts, hK, hin, hbs⟩ := hC
  obtain ⟨h1, h2⟩ := zlen1 hk
  have h2 := Nat.eq_of_beq_eq_true h2
  subst h1; subst hnx
  simp only [zst] at hst
  split at hst
  · next x r =>
    cases ho : zok L a with
    | false => rw [ho, cond_false] at hst; cases hst
    | true =>
      rw [ho, cond_true] at hst
      obtain ⟨hi, hst⟩ := zput_some hst
      obtain ⟨hi2, hst⟩ := zput_some hst
      rw [List.length_set] at hi2
      cases hst
      intro hz0 H locs ls hO hS hL hr
      refine lv_lstore_n hx hb hd h2 hL.2.1 (by rw [← hL.1]; exact hi2) rfl (fun ls' hl' => ?_)
      exact zkk kk hz0 H locs ls' hO hS (hL.put2 hi2 ho (by exact hl')) (fun v hv => hr v (List.mem_cons_of_mem _ hv))
  · cases hst

set_option maxHeartbeats 1000000 in
theorem zs_iinc (hC : ZCx p s m args meth c own cc nL isI dC dI cI cO base) (hX : zSc sc b base s) (hR : fr ≤ R.frames ∧ lo ≤ R.locals) {nx a bb d w len pc pc' : Nat} {cv : Int} {L st L' st' : List ZV} {S S' : Sh} {M M' : Me} {h h' : Ml} {cells slots : Nat} {k : Nat} {n : Int} (hd : decode cc pc = .ok (.iinc k n, len)) (hnx : pc + len = nx) (hk : zchk own nL isI ret fr lo pc len (.iinc k n) a bb d cv w = true) (hst : zst sc (.iinc k n, nx, a, bb, d, cv, w) L st S M h = some (pc', L', st', S', M', h')) (hrm : cells + (S'.length - S.length) ≤ R.cells ∧ slots + (zsz S' - zsz S) ≤ R.slots) (kk : ZN p l e R s m args below meth c Q dC dI cI cO b base nL pc' L' st' S' M' h' (cells + (S'.length - S.length)) (slots + (zsz S' - zsz S))) : ZN p l e R s m args below meth c Q dC dI cI cO b base nL pc L st S M h cells slots := by
  obtain ⟨hx, hb, hml, hown, hts, hK, hin, hbs⟩ := hC
  simp only [zchk, Bool.and_eq_true] at hk
  obtain ⟨⟨h1, h2⟩, h3⟩ := hk
  have h1 := Nat.eq_of_beq_eq_true h1
  have h2 := Nat.eq_of_beq_eq_true h2
  have h3 := of_decide_eq_true h3
  subst h1; subst hnx; subst h2; subst h3
  simp only [zst] at hst
  split at hst
  · next x hz =>
    cases ho : zok L k with
    | false => rw [ho, cond_false] at hst; cases hst
    | true =>
      rw [ho, cond_true] at hst
      obtain ⟨hi, hst⟩ := zput_some hst
      cases hst
      intro hz0 H locs ls hO hS hL hr
      rw [zgt_eq] at hz
      obtain ⟨j, hj⟩ := List.getElem?_of_mem (asL_mem (b := b) (base := base).mpr ⟨.inl x, hz, (by intro q; cases q), rfl⟩)
      refine lv_iinc hx hb hd hL.2.1 hj (zI_add x cv).symm (by rw [← hL.1]; exact hi) rfl (fun ls' hl' => ?_)
      exact zkk kk hz0 H locs ls' hO hS (hL.put (v := .inl (w32 (x + cv))) hi ho (w32_rn _) hl') hr
  · cases hst

set_option maxHeartbeats 1000000 in
theorem zs_ineg (hC : ZCx p s m args meth c own cc nL isI dC dI cI cO base) (hX : zSc sc b base s) (hR : fr ≤ R.frames ∧ lo ≤ R.locals) {nx a bb d w len pc pc' : Nat} {cv : Int} {L st L' st' : List ZV} {S S' : Sh} {M M' : Me} {h h' : Ml} {cells slots : Nat} (hd : decode cc pc = .ok (.ineg, len)) (hnx : pc + len = nx) (hk : zchk own nL isI ret fr lo pc len (.ineg) a bb d cv w = true) (hst : zst sc (.ineg, nx, a, bb, d, cv, w) L st S M h = some (pc', L', st', S', M', h')) (hrm : cells + (S'.length - S.length) ≤ R.cells ∧ slots + (zsz S' - zsz S) ≤ R.slots) (kk : ZN p l e R s m args below meth c Q dC dI cI cO b base nL pc' L' st' S' M' h' (cells + (S'.length - S.length)) (slots + (zsz S' - zsz S))) : ZN p l e R s m args below meth c Q dC dI cI cO b base nL pc L st S M h cells slots := by
  obtain ⟨hx, hb, hml, hown, hts, hK, hin, hbs⟩ := hC
  have h1 := Nat.eq_of_beq_eq_true hk
  subst h1; subst hnx
  simp only [zst] at hst
  split at hst
  · next x r =>
    cases hst
    intro hz0 H locs ls hO hS hL hr
    have hx1 : zrn x := hr (.inl x) List.mem_cons_self
    refine lv_ineg hx hb hd ?_
    rw [← zI_neg]
    exact zkk kk hz0 H locs ls hO hS hL (fun v hv => by
      rcases List.mem_cons.mp hv with e2 | e2
      · subst e2; exact w32_rn _
      · exact hr v (List.mem_cons_of_mem _ e2))
  · cases hst

set_option maxHeartbeats 1000000 in
theorem zs_i2l (hC : ZCx p s m args meth c own cc nL isI dC dI cI cO base) (hX : zSc sc b base s) (hR : fr ≤ R.frames ∧ lo ≤ R.locals) {nx a bb d w len pc pc' : Nat} {cv : Int} {L st L' st' : List ZV} {S S' : Sh} {M M' : Me} {h h' : Ml} {cells slots : Nat} (hd : decode cc pc = .ok (.i2l, len)) (hnx : pc + len = nx) (hk : zchk own nL isI ret fr lo pc len (.i2l) a bb d cv w = true) (hst : zst sc (.i2l, nx, a, bb, d, cv, w) L st S M h = some (pc', L', st', S', M', h')) (hrm : cells + (S'.length - S.length) ≤ R.cells ∧ slots + (zsz S' - zsz S) ≤ R.slots) (kk : ZN p l e R s m args below meth c Q dC dI cI cO b base nL pc' L' st' S' M' h' (cells + (S'.length - S.length)) (slots + (zsz S' - zsz S))) : ZN p l e R s m args below meth c Q dC dI cI cO b base nL pc L st S M h cells slots := by
  obtain ⟨hx, hb, hml, hown, hts, hK, hin, hbs⟩ := hC
  have h1 := Nat.eq_of_beq_eq_true hk
  subst h1; subst hnx
  simp only [zst] at hst
  split at hst
  · next x r =>
    cases hst
    intro hz0 H locs ls hO hS hL hr
    have hx1 : zrn x := hr (.inl x) List.mem_cons_self
    refine lv_i2l hx hb hd (zI_i2l hx1) ?_
    exact zkk kk hz0 H locs ls hO hS hL (fun v hv => by
      rcases List.mem_cons.mp hv with e2 | e2
      · subst e2; exact trivial
      · exact hr v (List.mem_cons_of_mem _ e2))
  · cases hst

set_option maxHeartbeats 1000000 in
theorem zs_lmul (hC : ZCx p s m args meth c own cc nL isI dC dI cI cO base) (hX : zSc sc b base s) (hR : fr ≤ R.frames ∧ lo ≤ R.locals) {nx a bb d w len pc pc' : Nat} {cv : Int} {L st L' st' : List ZV} {S S' : Sh} {M M' : Me} {h h' : Ml} {cells slots : Nat} (hd : decode cc pc = .ok (.lmul, len)) (hnx : pc + len = nx) (hk : zchk own nL isI ret fr lo pc len (.lmul) a bb d cv w = true) (hst : zst sc (.lmul, nx, a, bb, d, cv, w) L st S M h = some (pc', L', st', S', M', h')) (hrm : cells + (S'.length - S.length) ≤ R.cells ∧ slots + (zsz S' - zsz S) ≤ R.slots) (kk : ZN p l e R s m args below meth c Q dC dI cI cO b base nL pc' L' st' S' M' h' (cells + (S'.length - S.length)) (slots + (zsz S' - zsz S))) : ZN p l e R s m args below meth c Q dC dI cI cO b base nL pc L st S M h cells slots := by
  obtain ⟨hx, hb, hml, hown, hts, hK, hin, hbs⟩ := hC
  have h1 := Nat.eq_of_beq_eq_true hk
  subst h1; subst hnx
  simp only [zst] at hst
  split at hst
  · next y x r =>
    cases hst
    intro hz0 H locs ls hO hS hL hr
    refine lv_lmul hx hb hd ?_
    exact zkk kk hz0 H locs ls hO hS hL (fun v hv => by
      rcases List.mem_cons.mp hv with e2 | e2
      · subst e2; exact trivial
      · exact hr v (List.mem_cons_of_mem _ (List.mem_cons_of_mem _ e2)))
  · cases hst

set_option maxHeartbeats 1000000 in
theorem zs_ladd (hC : ZCx p s m args meth c own cc nL isI dC dI cI cO base) (hX : zSc sc b base s) (hR : fr ≤ R.frames ∧ lo ≤ R.locals) {nx a bb d w len pc pc' : Nat} {cv : Int} {L st L' st' : List ZV} {S S' : Sh} {M M' : Me} {h h' : Ml} {cells slots : Nat} (hd : decode cc pc = .ok (.ladd, len)) (hnx : pc + len = nx) (hk : zchk own nL isI ret fr lo pc len (.ladd) a bb d cv w = true) (hst : zst sc (.ladd, nx, a, bb, d, cv, w) L st S M h = some (pc', L', st', S', M', h')) (hrm : cells + (S'.length - S.length) ≤ R.cells ∧ slots + (zsz S' - zsz S) ≤ R.slots) (kk : ZN p l e R s m args below meth c Q dC dI cI cO b base nL pc' L' st' S' M' h' (cells + (S'.length - S.length)) (slots + (zsz S' - zsz S))) : ZN p l e R s m args below meth c Q dC dI cI cO b base nL pc L st S M h cells slots := by
  obtain ⟨hx, hb, hml, hown, hts, hK, hin, hbs⟩ := hC
  have h1 := Nat.eq_of_beq_eq_true hk
  subst h1; subst hnx
  simp only [zst] at hst
  split at hst
  · next y x r =>
    cases hst
    intro hz0 H locs ls hO hS hL hr
    refine lv_ladd hx hb hd ?_
    exact zkk kk hz0 H locs ls hO hS hL (fun v hv => by
      rcases List.mem_cons.mp hv with e2 | e2
      · subst e2; exact trivial
      · exact hr v (List.mem_cons_of_mem _ (List.mem_cons_of_mem _ e2)))
  · cases hst

set_option maxHeartbeats 1000000 in
theorem zs_lcmp (hC : ZCx p s m args meth c own cc nL isI dC dI cI cO base) (hX : zSc sc b base s) (hR : fr ≤ R.frames ∧ lo ≤ R.locals) {nx a bb d w len pc pc' : Nat} {cv : Int} {L st L' st' : List ZV} {S S' : Sh} {M M' : Me} {h h' : Ml} {cells slots : Nat} (hd : decode cc pc = .ok (.lcmp, len)) (hnx : pc + len = nx) (hk : zchk own nL isI ret fr lo pc len (.lcmp) a bb d cv w = true) (hst : zst sc (.lcmp, nx, a, bb, d, cv, w) L st S M h = some (pc', L', st', S', M', h')) (hrm : cells + (S'.length - S.length) ≤ R.cells ∧ slots + (zsz S' - zsz S) ≤ R.slots) (kk : ZN p l e R s m args below meth c Q dC dI cI cO b base nL pc' L' st' S' M' h' (cells + (S'.length - S.length)) (slots + (zsz S' - zsz S))) : ZN p l e R s m args below meth c Q dC dI cI cO b base nL pc L st S M h cells slots := by
  obtain ⟨hx, hb, hml, hown, hts, hK, hin, hbs⟩ := hC
  have h1 := Nat.eq_of_beq_eq_true hk
  subst h1; subst hnx
  simp only [zst] at hst
  split at hst
  · next y x r =>
    cases hst
    intro hz0 H locs ls hO hS hL hr
    refine W.lcmp hx hb hd ?_
    rw [← (zI_lcmp x y).1]
    exact zkk kk hz0 H locs ls hO hS hL (fun v hv => by
      rcases List.mem_cons.mp hv with e2 | e2
      · subst e2; exact (zI_lcmp x y).2
      · exact hr v (List.mem_cons_of_mem _ (List.mem_cons_of_mem _ e2)))
  · cases hst

set_option maxHeartbeats 1000000 in
theorem zs_dup (hC : ZCx p s m args meth c own cc nL isI dC dI cI cO base) (hX : zSc sc b base s) (hR : fr ≤ R.frames ∧ lo ≤ R.locals) {nx a bb d w len pc pc' : Nat} {cv : Int} {L st L' st' : List ZV} {S S' : Sh} {M M' : Me} {h h' : Ml} {cells slots : Nat} (hd : decode cc pc = .ok (.dup, len)) (hnx : pc + len = nx) (hk : zchk own nL isI ret fr lo pc len (.dup) a bb d cv w = true) (hst : zst sc (.dup, nx, a, bb, d, cv, w) L st S M h = some (pc', L', st', S', M', h')) (hrm : cells + (S'.length - S.length) ≤ R.cells ∧ slots + (zsz S' - zsz S) ≤ R.slots) (kk : ZN p l e R s m args below meth c Q dC dI cI cO b base nL pc' L' st' S' M' h' (cells + (S'.length - S.length)) (slots + (zsz S' - zsz S))) : ZN p l e R s m args below meth c Q dC dI cI cO b base nL pc L st S M h cells slots := by
  obtain ⟨hx, hb, hml, hown, hts, hK, hin, hbs⟩ := hC
  have h1 := Nat.eq_of_beq_eq_true hk
  subst h1; subst hnx
  simp only [zst] at hst
  split at hst
  · next v r =>
    cases hc1 : Nat.beq (zcat v) 1 with
    | false => rw [hc1, cond_false] at hst; cases hst
    | true =>
      rw [hc1, cond_true] at hst
      cases hst
      intro hz0 H locs ls hO hS hL hr
      refine lv_dup hx hb hd (by rw [zv_cat]; exact Nat.eq_of_beq_eq_true hc1) ?_
      exact zkk kk hz0 H locs ls hO hS hL (fun u hu => by
        rcases List.mem_cons.mp hu with e2 | e2
        · subst e2; exact hr _ List.mem_cons_self
        · exact hr u e2)
  · cases hst

set_option maxHeartbeats 1000000 in
theorem zs_pop (hC : ZCx p s m args meth c own cc nL isI dC dI cI cO base) (hX : zSc sc b base s) (hR : fr ≤ R.frames ∧ lo ≤ R.locals) {nx a bb d w len pc pc' : Nat} {cv : Int} {L st L' st' : List ZV} {S S' : Sh} {M M' : Me} {h h' : Ml} {cells slots : Nat} (hd : decode cc pc = .ok (.pop, len)) (hnx : pc + len = nx) (hk : zchk own nL isI ret fr lo pc len (.pop) a bb d cv w = true) (hst : zst sc (.pop, nx, a, bb, d, cv, w) L st S M h = some (pc', L', st', S', M', h')) (hrm : cells + (S'.length - S.length) ≤ R.cells ∧ slots + (zsz S' - zsz S) ≤ R.slots) (kk : ZN p l e R s m args below meth c Q dC dI cI cO b base nL pc' L' st' S' M' h' (cells + (S'.length - S.length)) (slots + (zsz S' - zsz S))) : ZN p l e R s m args below meth c Q dC dI cI cO b base nL pc L st S M h cells slots := by
  obtain ⟨hx, hb, hml, hown, hts, hK, hin, hbs⟩ := hC
  have h1 := Nat.eq_of_beq_eq_true hk
  subst h1; subst hnx
  simp only [zst] at hst
  split at hst
  · next v r =>
    cases hc1 : Nat.beq (zcat v) 1 with
    | false => rw [hc1, cond_false] at hst; cases hst
    | true =>
      rw [hc1, cond_true] at hst
      cases hst
      intro hz0 H locs ls hO hS hL hr
      refine lv_pop hx hb hd (by rw [zv_cat]; exact Nat.eq_of_beq_eq_true hc1) ?_
      exact zkk kk hz0 H locs ls hO hS hL (fun u hu => hr u (List.mem_cons_of_mem _ hu))
  · cases hst

set_option maxHeartbeats 1000000 in
theorem zs_dup2 (hC : ZCx p s m args meth c own cc nL isI dC dI cI cO base) (hX : zSc sc b base s) (hR : fr ≤ R.frames ∧ lo ≤ R.locals) {nx a bb d w len pc pc' : Nat} {cv : Int} {L st L' st' : List ZV} {S S' : Sh} {M M' : Me} {h h' : Ml} {cells slots : Nat} (hd : decode cc pc = .ok (.dup2, len)) (hnx : pc + len = nx) (hk : zchk own nL isI ret fr lo pc len (.dup2) a bb d cv w = true) (hst : zst sc (.dup2, nx, a, bb, d, cv, w) L st S M h = some (pc', L', st', S', M', h')) (hrm : cells + (S'.length - S.length) ≤ R.cells ∧ slots + (zsz S' - zsz S) ≤ R.slots) (kk : ZN p l e R s m args below meth c Q dC dI cI cO b base nL pc' L' st' S' M' h' (cells + (S'.length - S.length)) (slots + (zsz S' - zsz S))) : ZN p l e R s m args below meth c Q dC dI cI cO b base nL pc L st S M h cells slots := by
  obtain ⟨hx, hb, hml, hown, hts, hK, hin, hbs⟩ := hC
  have h1 := Nat.eq_of_beq_eq_true hk
  subst h1; subst hnx
  simp only [zst] at hst
  split at hst
  · next v u r =>
    cases hc1 : Nat.beq (zcat v) 1 with
    | false => rw [hc1, cond_false] at hst; cases hst
    | true =>
      cases hc2 : Nat.beq (zcat u) 1 with
      | false => rw [hc1, hc2, cond_true, cond_false] at hst; cases hst
      | true =>
        rw [hc1, hc2, cond_true, cond_true] at hst
        cases hst
        intro hz0 H locs ls hO hS hL hr
        refine lv_dup2_11 hx hb hd (by rw [zv_cat]; exact Nat.eq_of_beq_eq_true hc1) (by rw [zv_cat]; exact Nat.eq_of_beq_eq_true hc2) ?_
        exact zkk kk hz0 H locs ls hO hS hL (fun q hq => by
          rcases List.mem_cons.mp hq with e2 | e2
          · subst e2; exact hr _ List.mem_cons_self
          rcases List.mem_cons.mp e2 with e2 | e2
          · subst e2; exact hr _ (List.mem_cons_of_mem _ List.mem_cons_self)
          · exact hr q e2)
  · cases hst

set_option maxHeartbeats 1000000 in
theorem zs_goto (hC : ZCx p s m args meth c own cc nL isI dC dI cI cO base) (hX : zSc sc b base s) (hR : fr ≤ R.frames ∧ lo ≤ R.locals) {nx a bb d w len pc pc' : Nat} {cv : Int} {L st L' st' : List ZV} {S S' : Sh} {M M' : Me} {h h' : Ml} {cells slots : Nat} {off : Int} (hd : decode cc pc = .ok (.goto off, len)) (hnx : pc + len = nx) (hk : zchk own nL isI ret fr lo pc len (.goto off) a bb d cv w = true) (hst : zst sc (.goto off, nx, a, bb, d, cv, w) L st S M h = some (pc', L', st', S', M', h')) (hrm : cells + (S'.length - S.length) ≤ R.cells ∧ slots + (zsz S' - zsz S) ≤ R.slots) (kk : ZN p l e R s m args below meth c Q dC dI cI cO b base nL pc' L' st' S' M' h' (cells + (S'.length - S.length)) (slots + (zsz S' - zsz S))) : ZN p l e R s m args below meth c Q dC dI cI cO b base nL pc L st S M h cells slots := by
  obtain ⟨hx, hb, hml, hown, hts, hK, hin, hbs⟩ := hC
  obtain ⟨h1, h2⟩ := zlen1 hk
  have h2 := of_decide_eq_true h2
  simp only [zst] at hst
  cases hst
  subst h1
  intro hz0 H locs ls hO hS hL hr
  refine lv_goto hx hb hd h2 ?_
  exact zkk kk hz0 H locs ls hO hS hL hr

set_option maxHeartbeats 1000000 in
theorem zs_ifnonnull (hC : ZCx p s m args meth c own cc nL isI dC dI cI cO base) (hX : zSc sc b base s) (hR : fr ≤ R.frames ∧ lo ≤ R.locals) {nx a bb d w len pc pc' : Nat} {cv : Int} {L st L' st' : List ZV} {S S' : Sh} {M M' : Me} {h h' : Ml} {cells slots : Nat} {off : Int} (hd : decode cc pc = .ok (.ifnonnull off, len)) (hnx : pc + len = nx) (hk : zchk own nL isI ret fr lo pc len (.ifnonnull off) a bb d cv w = true) (hst : zst sc (.ifnonnull off, nx, a, bb, d, cv, w) L st S M h = some (pc', L', st', S', M', h')) (hrm : cells + (S'.length - S.length) ≤ R.cells ∧ slots + (zsz S' - zsz S) ≤ R.slots) (kk : ZN p l e R s m args below meth c Q dC dI cI cO b base nL pc' L' st' S' M' h' (cells + (S'.length - S.length)) (slots + (zsz S' - zsz S))) : ZN p l e R s m args below meth c Q dC dI cI cO b base nL pc L st S M h cells slots := by
  obtain ⟨hx, hb, hml, hown, hts, hK, hin, hbs⟩ := hC
  obtain ⟨h1, h2⟩ := zlen1 hk
  have h2 := of_decide_eq_true h2
  subst h1; subst hnx
  simp only [zst] at hst
  split at hst
  · next x r =>
    cases hst
    intro hz0 H locs ls hO hS hL hr
    refine lv_ifnonnull hx hb hd h2 ?_
    exact zkk kk hz0 H locs ls hO hS hL (fun u hu => hr u (List.mem_cons_of_mem _ hu))
  · next r =>
    cases hst
    intro hz0 H locs ls hO hS hL hr
    refine lv_ifnonnullN hx hb hd ?_
    exact zkk kk hz0 H locs ls hO hS hL (fun u hu => hr u (List.mem_cons_of_mem _ hu))
  · cases hst

end ZST
