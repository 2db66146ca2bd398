/-! the small machine's values, locals and cells, as the real machine has them -/
def zv (b base : Nat) : ZV → Value
  | .inl x => .int (Int32.ofInt x)
  | .inr (.inl y) => .long y
  | .inr (.inr (.inl k)) => .ref (base + k)
  | .inr (.inr (.inr 0)) => .null
  | .inr (.inr (.inr (_ + 1))) => .ref b
theorem zv_cat (b base : Nat) (v : ZV) : (zv b base v).category = zcat v := by
  rcases v with x | y | k | n
  · rfl
  · rfl
  · rfl
  · cases n <;> rfl
theorem zv_wt (b base : Nat) (l : List ZV) : ((l.map (zv b base)).map fun v => v.category).sum = zwt l := by
  induction l with
  | nil => rfl
  | cons v l ih =>
    rw [List.map_cons, List.map_cons, List.sum_cons, ih, zv_cat]
    rfl
def asL (b base : Nat) (L : List ZV) : List (Nat × Value) := (List.range L.length).filterMap fun (j : Nat) => match (L[j]? : Option ZV) with
  | some (.inr (.inr (.inr 0))) => none
  | some v => some (j, zv b base v)
  | none => none
theorem asL_mem {b base : Nat} {L : List ZV} {j : Nat} {u : Value} : (j, u) ∈ asL b base L ↔ ∃ v, L[j]? = some v ∧ v ≠ zn ∧ u = zv b base v := by
  unfold asL
  rw [List.mem_filterMap]
  constructor
  · rintro ⟨i, hi, h⟩
    split at h
    · cases h
    · next v hv hn =>
      cases h
      exact ⟨v, hn, fun e => hv e, rfl⟩
    · cases h
  · rintro ⟨v, hv, hn, rfl⟩
    refine ⟨j, List.mem_range.mpr (List.getElem?_eq_some_iff.mp hv).1, ?_⟩
    rw [hv]
    split
    · next h => cases h; exact absurd rfl hn
    · next h => cases h; rfl
    · next h => cases h
def RelL (b base : Nat) (ls : Array Slot) (nL : Nat) (L : List ZV) : Prop := L.length = nL ∧ lv_has ls nL (asL b base L) ∧ ∀ v ∈ L, zrv v
theorem RelL.at {b base nL : Nat} {ls : Array Slot} {L : List ZV} (h : RelL b base ls nL L) {j : Nat} {v : ZV} (hj : zgt L j = some v) (hn : v ≠ zn) : ls[j]? = some (.val (zv b base v)) ∧ zrv v := by
  rw [zgt_eq] at hj
  exact ⟨h.2.1.2.2 (j, zv b base v) (asL_mem.mpr ⟨v, hj, hn, rfl⟩), h.2.2 v (List.mem_of_getElem? hj)⟩
theorem RelL.size {b base nL : Nat} {ls : Array Slot} {L : List ZV} (h : RelL b base ls nL L) : ls.size = nL := h.2.1.1
theorem zok_cat {L : List ZV} {i j : Nat} {v : ZV} (h : zok L i = true) (hj : L[j]? = some v) (e : j + 1 = i) : zcat v = 1 := by
  subst e
  have h : (match zgt L j with | some (.inr (.inl _)) => false | _ => true) = true := h
  rw [zgt_eq, hj] at h
  rcases v with x | y | k
  · rfl
  · cases h
  · rfl
theorem RelL.put {b base nL : Nat} {ls ls' : Array Slot} {L : List ZV} (h : RelL b base ls nL L) {i : Nat} {v : ZV} (hi : i < L.length) (ho : zok L i = true) (hv : zrv v)
    (h' : lv_has ls' nL ((i, zv b base v) :: (asL b base L).filter (fun q => !(q.1 == i) && !(q.1 + 1 == i && q.2.category == 2)))) : RelL b base ls' nL (L.set i v) := by
  refine ⟨by rw [List.length_set]; exact h.1, ⟨h'.1, h'.2.1, ?_⟩, ?_⟩
  · rintro ⟨j, u⟩ hq
    obtain ⟨w, hw, hn, rfl⟩ := asL_mem.mp hq
    refine h'.2.2 (j, zv b base w) ?_
    rw [List.getElem?_set] at hw
    by_cases hij : i = j
    · subst hij
      rw [if_pos rfl, if_pos hi] at hw
      cases hw
      exact List.mem_cons_self
    · rw [if_neg hij] at hw
      refine List.mem_cons_of_mem _ (List.mem_filter.mpr ⟨asL_mem.mpr ⟨w, hw, hn, rfl⟩, ?_⟩)
      have h1 : (j == i) = false := beq_false_of_ne (Ne.symm hij)
      have h2 : (j + 1 == i && (zv b base w).category == 2) = false := by
        by_cases e : j + 1 = i
        · rw [zv_cat, zok_cat ho hw e]; simp
        · rw [beq_false_of_ne e]; rfl
      show (!(j == i) && !(j + 1 == i && (zv b base w).category == 2)) = true
      rw [h1, h2]; rfl
  · intro w hw
    rcases List.mem_or_eq_of_mem_set hw with h1 | h1
    · exact h.2.2 w h1
    · rw [h1]; exact hv
theorem RelL.put2 {b base nL : Nat} {ls ls' : Array Slot} {L : List ZV} (h : RelL b base ls nL L) {i : Nat} {x : Int64} (hi : i + 1 < L.length) (ho : zok L i = true)
    (h' : lv_has ls' nL ((i, Value.long x) :: (asL b base L).filter (fun q => !(q.1 == i) && (!(q.1 == i + 1) && !(q.1 + 1 == i && q.2.category == 2))))) : RelL b base ls' nL ((L.set i (zl x)).set (i + 1) zn) := by
  refine ⟨by rw [List.length_set, List.length_set]; exact h.1, ⟨h'.1, h'.2.1, ?_⟩, ?_⟩
  · rintro ⟨j, u⟩ hq
    obtain ⟨w, hw, hn, rfl⟩ := asL_mem.mp hq
    refine h'.2.2 (j, zv b base w) ?_
    rw [List.getElem?_set] at hw
    by_cases hij : i + 1 = j
    · subst hij
      rw [if_pos rfl, List.length_set, if_pos hi] at hw
      cases hw
      exact absurd rfl hn
    rw [if_neg hij, List.getElem?_set] at hw
    by_cases hii : i = j
    · subst hii
      rw [if_pos rfl, if_pos (by omega)] at hw
      cases hw
      exact List.mem_cons_self
    · rw [if_neg hii] at hw
      refine List.mem_cons_of_mem _ (List.mem_filter.mpr ⟨asL_mem.mpr ⟨w, hw, hn, rfl⟩, ?_⟩)
      have h1 : (j == i) = false := beq_false_of_ne (Ne.symm hii)
      have h3 : (j == i + 1) = false := beq_false_of_ne (Ne.symm hij)
      have h2 : (j + 1 == i && (zv b base w).category == 2) = false := by
        by_cases e : j + 1 = i
        · rw [zv_cat, zok_cat ho hw e]; simp
        · rw [beq_false_of_ne e]; rfl
      show (!(j == i) && (!(j == i + 1) && !(j + 1 == i && (zv b base w).category == 2))) = true
      rw [h1, h2, h3]; rfl
  · intro w hw
    rcases List.mem_or_eq_of_mem_set hw with h1 | h1
    · rcases List.mem_or_eq_of_mem_set h1 with h2 | h2
      · exact h.2.2 w h2
      · rw [h2]; exact trivial
    · rw [h1]; exact trivial
/-! cells -/
def zvo (base : Nat) (o : Option (Option Nat)) : Option Nat := match o with
  | some (some k) => some (base + k)
  | _ => none
def zfv (base : Nat) (M : Me) (h : Ml) (k : Nat) (rs : List (Option Nat)) (j d : Nat) : Value := match d with
  | 0 => .int (Int32.ofInt (M k j))
  | 1 => va_rf (zvo base (zgt rs j))
  | _ => .long (h k)
def zce (cI cO : ClassId) (base : Nat) (M : Me) (h : Ml) (k : Nat) (s : Nat × Nat × List (Option Nat)) : va_E :=
  if s.1 = 100 then .inl (cI, s.2.1, .inl (fun j => Int32.ofInt (M k j)))
  else if s.1 = 101 then .inl (cO, s.2.1, .inr (.inr (.inr (.inr (fun j => zvo base (zgt s.2.2 j))))))
  else .inr (s.1, (zFK s.1).mapIdx (zfv base M h k s.2.2))
def zws (cI cO : ClassId) (base : Nat) (S : Sh) (M : Me) (h : Ml) : va_W := S.mapIdx fun k s => (base + k, zce cI cO base M h k s)
theorem zws_at {cI cO : ClassId} {base : Nat} {S : Sh} {M : Me} {h : Ml} (k : Nat) : (zws cI cO base S M h)[k]? = (S[k]?).map fun s => (base + k, zce cI cO base M h k s) := by
  unfold zws
  rw [List.getElem?_mapIdx]
theorem zws_len {cI cO : ClassId} {base : Nat} {S : Sh} {M : Me} {h : Ml} : (zws cI cO base S M h).length = S.length := by
  unfold zws
  rw [List.length_mapIdx]
theorem zws_set {cI cO : ClassId} {base : Nat} {S S' : Sh} {M M' : Me} {h h' : Ml} {k : Nat} {s' : Nat × Nat × List (Option Nat)} (hk : k < S.length) (hS : S' = S.set k s') (hM : ∀ a, a ≠ k → M' a = M a) (hh : ∀ a, a ≠ k → h' a = h a) :
    (zws cI cO base S M h).set k (base + k, zce cI cO base M' h' k s') = zws cI cO base S' M' h' := by
  apply List.ext_getElem?
  intro j
  rw [zws_at, List.getElem?_set, zws_len, hS, List.getElem?_set]
  by_cases hj : k = j
  · subst hj
    rw [if_pos rfl, if_pos hk, if_pos rfl, if_pos hk]
    rfl
  · rw [if_neg hj, if_neg hj, zws_at]
    cases S[j]? with
    | none => rfl
    | some s =>
      simp only [Option.map_some]
      have e : zce cI cO base M h j s = zce cI cO base M' h' j s := by
        unfold zce
        have e2 : zfv base M h j s.2.2 = zfv base M' h' j s.2.2 := by
          funext a d
          unfold zfv
          rw [hM j (Ne.symm hj), hh j (Ne.symm hj)]
        rw [hM j (Ne.symm hj), e2]
      rw [e]
theorem zws_app {cI cO : ClassId} {base : Nat} {S : Sh} {M : Me} {h : Ml} {s : Nat × Nat × List (Option Nat)} : zws cI cO base (S ++ [s]) M h = zws cI cO base S M h ++ [(base + S.length, zce cI cO base M h S.length s)] := by
  unfold zws
  rw [List.mapIdx_append, List.mapIdx_cons, List.mapIdx_nil, Nat.zero_add]
theorem zD {cI cO : ClassId} {base : Nat} {S : Sh} {M : Me} {h : Ml} : va_D (fun q => base ≤ q) (zws cI cO base S M h) := by
  have key : ∀ (k : Nat) (q : Nat × va_E), (zws cI cO base S M h)[k]? = some q → q.1 = base + k := by
    intro k q hq
    rw [zws_at] at hq
    obtain ⟨s, -, rfl⟩ := Option.map_eq_some_iff.mp hq
    rfl
  refine ⟨fun i j p q hi hj hpq => ?_, fun k q hq => ?_⟩
  · have h1 := key i p hi
    have h2 := key j q hj
    omega
  · have h1 := key k q hq
    show base ≤ q.1
    omega
def WO (dC : Nat → ClassId) (dI : Nat → Nat → Nat) (cI cO : ClassId) (base : Nat) (S : Sh) (M : Me) (h : Ml) (H : Heap) : Prop :=
  va_P (dC, dI) vwCl (zws cI cO base S M h) H ∧ (∀ k j, zrn (M k j)) ∧ ∀ k, S.length ≤ k → h k = 0 ∧ ∀ j, M k j = 0
def ZK (dC : Nat → ClassId) (dI : Nat → Nat → Nat) (cI cO : ClassId) (U : State) : Prop := va_K (dC, dI) vwCl [(cI, .int), (cO, .object zOff)] U ∧ va_Nw nest1 U ∧ va_Nw nest2 U ∧ va_AO zOff U
def zsz (S : Sh) : Nat := (S.map fun s => if s.1 = 100 ∨ s.1 = 101 then s.2.1 else s.2.2.length).sum
/-! what the tables say of the nine classes -/
theorem zuw {ws : List Cond} (h : ws.all (fun w => decide (w ∈ lw_tbl) && goodWord w) = true) : ∀ w ∈ ws, w ∈ TB := by
  intro w hw
  have h1 := List.all_eq_true.mp h w hw
  rw [Bool.and_eq_true] at h1
  exact List.mem_filter.mpr ⟨of_decide_eq_true h1.1, h1.2⟩
def zTyOk (d : Nat) (t : FieldType) : Bool := match d, t with
  | 0, .int => true
  | 1, .array _ => true
  | 1, .object _ => true
  | 2, .long => true
  | _, _ => false
def zCl (a : Nat) (C : String) (T : u_T) (N : Nat) (ty : Nat → FieldType) : Prop := vwCl[a]? = some (C, T, N) ∧ (∀ w ∈ u_ws C T N, w ∈ TB) ∧ (∀ k, k < N → parseFieldDescriptor (T k).2.2.1 = some (ty k)) ∧ (∀ x, x < N → ∀ y, y < N → x ≠ y → (T x).2.1 ≠ (T y).2.1) ∧ (zFK a).length = N ∧ ∀ k d, zgt (zFK a) k = some d → zTyOk d (ty k) = true
theorem zTyAll {l : List Nat} {ty : Nat → FieldType} (h : (List.range l.length).all (fun k => zTyOk (l.getD k 9) (ty k)) = true) : ∀ k d, zgt l k = some d → zTyOk d (ty k) = true := by
  intro k d hk
  rw [zgt_eq] at hk
  have hl := (List.getElem?_eq_some_iff.mp hk).1
  have h1 := List.all_eq_true.mp h k (List.mem_range.mpr hl)
  rw [List.getD_eq_getElem?_getD, hk] at h1
  exact h1
theorem zcl0 : zCl 0 RX0 TX0 6 tyX0 := ⟨rfl, zuw (by decide +kernel), tyX0_ok, nmX0, rfl, zTyAll (by decide +kernel)⟩
theorem zcl1 : zCl 1 RX1 TX1 4 tyX1 := ⟨rfl, zuw (by decide +kernel), tyX1_ok, nmX1, rfl, zTyAll (by decide +kernel)⟩
theorem zcl2 : zCl 2 RX2 TX2 3 tyX2 := ⟨rfl, zuw (by decide +kernel), tyX2_ok, nmX2, rfl, zTyAll (by decide +kernel)⟩
theorem zcl3 : zCl 3 RX3 TX3 11 tyX3 := ⟨rfl, zuw (by decide +kernel), tyX3_ok, nmX3, rfl, zTyAll (by decide +kernel)⟩
theorem zcl4 : zCl 4 RX4 TX4 3 tyX4 := ⟨rfl, zuw (by decide +kernel), tyX4_ok, nmX4, rfl, zTyAll (by decide +kernel)⟩
theorem zcl5 : zCl 5 RX5 TX5 1 tyX5 := ⟨rfl, zuw (by decide +kernel), tyX5_ok, nmX5, rfl, zTyAll (by decide +kernel)⟩
theorem zcl6 : zCl 6 RX6 TX6 5 tyX6 := ⟨rfl, zuw (by decide +kernel), tyX6_ok, nmX6, rfl, zTyAll (by decide +kernel)⟩
theorem zcl7 : zCl 7 RX8 TX8 9 tyX8 := ⟨rfl, zuw (by decide +kernel), tyX8_ok, nmX8, rfl, zTyAll (by decide +kernel)⟩
theorem zcls {a : Nat} {C : String} {T : u_T} {N : Nat} (h : vwCl[a]? = some (C, T, N)) : ∃ ty, zCl a C T N ty := by
  have h9 : a < 8 := (List.getElem?_eq_some_iff.mp h).1
  match a, h9, h with
  | 0, _, h => cases h; exact ⟨_, zcl0⟩
  | 1, _, h => cases h; exact ⟨_, zcl1⟩
  | 2, _, h => cases h; exact ⟨_, zcl2⟩
  | 3, _, h => cases h; exact ⟨_, zcl3⟩
  | 4, _, h => cases h; exact ⟨_, zcl4⟩
  | 5, _, h => cases h; exact ⟨_, zcl5⟩
  | 6, _, h => cases h; exact ⟨_, zcl6⟩
  | 7, _, h => cases h; exact ⟨_, zcl7⟩
