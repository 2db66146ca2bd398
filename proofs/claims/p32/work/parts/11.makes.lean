section ZMK
variable {p : Program} {l : Launch} {e : Env} {R : Room} {s : State} {m : MethodId} {args : Array Value} {below : List Frame} {meth : Method} {c : Code} {Q : State → Prop} {dC : Nat → ClassId} {dI : Nat → Nat → Nat} {cI cO : ClassId} {b base : Nat} {own : String} {cc : ByteArray} {nL : Nat} {isI : Bool} {ret : Option FieldType} {fr lo : Nat} {sc : Sc}
theorem zg0 : Cond.initialized "java/lang/Math" ∈ TB := zin_mem (p := zpl.getD 0 0) (by decide +kernel)
theorem zg1 : Cond.initialized "java/lang/System" ∈ TB := zin_mem (p := zpl.getD 1 0) (by decide +kernel)
theorem zg2 : Cond.instanceMethod Lib.objectInit ∈ TB := zin_mem (p := zpl.getD 2 0) (by decide +kernel)
theorem zg3 : Cond.code Lib.objectInit ⟨#[0xb1]⟩ 1 none ∈ TB := zin_mem (p := zpl.getD 3 0) (by decide +kernel)
theorem zg4 : Cond.arrayClass .int ∈ TB := zin_mem (p := zpl.getD 4 0) (by decide +kernel)
theorem zg5 : Cond.static Lib.Math.max.name ∈ TB := zin_mem (p := zpl.getD 5 0) (by decide +kernel)
theorem zg6 : Cond.code Lib.Math.max.name Lib.Math.max.code 2 (some .int) ∈ TB := zin_mem (p := zpl.getD 6 0) (by decide +kernel)
theorem zg7 : Cond.static Lib.Math.min.name ∈ TB := zin_mem (p := zpl.getD 7 0) (by decide +kernel)
theorem zg8 : Cond.code Lib.Math.min.name Lib.Math.min.code 2 (some .int) ∈ TB := zin_mem (p := zpl.getD 8 0) (by decide +kernel)
theorem zg9 : Cond.static Lib.Math.abs.name ∈ TB := zin_mem (p := zpl.getD 9 0) (by decide +kernel)
theorem zg10 : Cond.code Lib.Math.abs.name Lib.Math.abs.code 1 (some .int) ∈ TB := zin_mem (p := zpl.getD 10 0) (by decide +kernel)
theorem zg11 : Cond.static arraycopyName ∈ TB := zin_mem (p := zpl.getD 11 0) (by decide +kernel)
theorem zg12 : Cond.native arraycopyName ∈ TB := zin_mem (p := zpl.getD 12 0) (by decide +kernel)
theorem znew_at {S : Sh} {M : Me} {h : Ml} {H1 : Heap} {q cells : Nat} {x : va_E} (hz0 : base + S.length = s.heap.size + cells) (hP : va_P (dC, dI) vwCl (zws cI cO base S M h ++ [(q, x)]) H1) (hD : va_D (fun q => base ≤ q) (zws cI cO base S M h ++ [(q, x)])) (hsz : H1.size ≤ s.heap.size + (cells + 1)) : q = base + S.length := by
  have h1 : (zws cI cO base S M h ++ [(q, x)])[S.length]? = some (q, x) := by
    rw [List.getElem?_append_right (by rw [zws_len]; exact Nat.le_refl _), zws_len, Nat.sub_self]; rfl
  have h2 : q < H1.size := (hP _ _ h1).lt
  have h3 : base ≤ q := hD.2 _ _ h1
  rcases Nat.lt_or_ge q (base + S.length) with h4 | h4
  · exfalso
    have hk : q - base < S.length := by omega
    have h5 : (zws cI cO base S M h ++ [(q, x)])[q - base]? = some (base + (q - base), zce cI cO base M h (q - base) S[q - base]) := by
      rw [List.getElem?_append_left (by rw [zws_len]; exact hk), zws_at, List.getElem?_eq_getElem hk]; rfl
    have := hD.1 _ _ _ _ h5 h1 (by show base + (q - base) = q; omega)
    omega
  · omega
theorem WO.app {S : Sh} {M : Me} {h : Ml} {H H1 : Heap} {q : Nat × Nat × List (Option Nat)} (hO : WO dC dI cI cO base S M h H) (hP : va_P (dC, dI) vwCl (zws cI cO base S M h ++ [(base + S.length, zce cI cO base M h S.length q)]) H1) : WO dC dI cI cO base (S ++ [q]) M h H1 := by
  refine ⟨by rw [zws_app]; exact hP, hO.2.1, fun k hk => hO.2.2 k ?_⟩
  rw [List.length_append] at hk
  omega
set_option maxHeartbeats 1000000 in
theorem zs_new (hC : ZCx p s m args meth c own cc nL isI dC dI cI cO base) (hX : zSc sc b base s) (hR : fr ≤ R.frames ∧ lo ≤ R.locals) {nx a bb d w len pc pc' : Nat} {cv : Int} {L st L' st' : List ZV} {S S' : Sh} {M M' : Me} {h h' : Ml} {cells slots : Nat} {k : Nat} (hd : decode cc pc = .ok (.new k, len)) (hnx : pc + len = nx) (hk : zchk own nL isI ret fr lo pc len (.new k) a bb d cv w = true) (hst : zst sc (.new k, nx, a, bb, d, cv, w) L st S M h = some (pc', L', st', S', M', h')) (hrm : cells + (S'.length - S.length) ≤ R.cells ∧ slots + (zsz S' - zsz S) ≤ R.slots) (kk : ZN p l e R s m args below meth c Q dC dI cI cO b base nL pc' L' st' S' M' h' (cells + (S'.length - S.length)) (slots + (zsz S' - zsz S))) : ZN p l e R s m args below meth c Q dC dI cI cO b base nL pc L st S M h cells slots := by
  obtain ⟨hx, hb, hml, hown, hts, hK, hin, hbs⟩ := hC
  obtain ⟨h1, h2⟩ := zlen1 hk
  subst h1; subst hnx
  split at h2
  · next C T N hcl =>
    simp only [Bool.and_eq_true] at h2
    obtain ⟨⟨⟨h2, h3⟩, h4⟩, h5⟩ := h2
    have h2 := of_decide_eq_true h2
    have h3 := zin_mem h3
    have h4 := zin_mem h4
    have h5 := zin_mem h5
    obtain ⟨ty, -, hws, hty, hnm, hlen, htk⟩ := zcls hcl
    have ha9 : a < 8 := (List.getElem?_eq_some_iff.mp hcl).1
    simp only [zst] at hst
    cases hst
    have e9 : (S ++ [(a, 0, List.replicate bb (none : Option Nat))]).length - S.length = 1 := by rw [List.length_append]; simp
    have e8 : zsz (S ++ [(a, 0, List.replicate bb (none : Option Nat))]) - zsz S = N := by
      rw [zsz_app]
      show zsz S + (if a = 100 ∨ a = 101 then 0 else (List.replicate bb (none : Option Nat)).length) - zsz S = N
      rw [if_neg (by omega), List.length_replicate]
      omega
    rw [e9, e8] at hrm kk
    intro hz0 H locs ls hO hS hL hr
    have hz := hO.2.2 S.length (Nat.le_refl _)
    refine va_new (own := own) (ci := a) (fs := (zFK a).mapIdx (zfv base M h S.length (List.replicate bb none))) hx hb hts hws ty hty hown (hts _ h3) (hts _ h4) (hts _ h5) hK.1 hO.1 zD hS (fun q hq => Nat.le_trans hbs hq) hcl (fun j hj => ?_) hrm.1 hrm.2 hd (fun q H1 hP1 hD1 hS1 => ?_)
    · have hjl : j < (zFK a).length := by rw [hlen]; exact hj
      have hj1 : zgt (zFK a) j = some (zFK a)[j] := by rw [zgt_eq, List.getElem?_eq_getElem hjl]
      have hj2 := htk j _ hj1
      unfold vp_V
      rw [List.getD_eq_getElem?_getD, zfs_at hj1]
      show defaultValue (ty j) = zfv base M h S.length (List.replicate bb none) j (zFK a)[j]
      have hj3 : (zFK a)[j] ≤ 2 := (zd2 hcl hj1).2
      generalize (zFK a)[j] = d2 at hj2 hj3
      rcases d2 with _ | _ | _ | d2
      · rw [zTy0 hj2]
        show _ = Value.int (Int32.ofInt (M S.length j))
        rw [hz.2 j]; rfl
      · rw [(zTy1 hj2 0).2.2]
        show _ = va_rf (zvo base (zgt (List.replicate bb none) j))
        rw [zgt_eq, List.getElem?_replicate]
        split <;> rfl
      · rw [zTy2 hj2]
        show _ = Value.long (h S.length)
        rw [hz.1]; rfl
      · omega
    · refine W.sized fun hsz => ?_
      have hq := znew_at hz0 hP1 hD1 hsz
      subst hq
      rw [← zce_obj (n := 0) ha9] at hP1
      exact kk (by rw [List.length_append]; show base + (S.length + 1) = _; omega) H1 locs ls (hO.app hP1) hS1 hL (fun v hv => by
      rcases List.mem_cons.mp hv with e2 | e2
      · subst e2; exact trivial
      · exact hr v e2)
  · cases h2

set_option maxHeartbeats 1000000 in
theorem zs_newarray (hC : ZCx p s m args meth c own cc nL isI dC dI cI cO base) (hX : zSc sc b base s) (hR : fr ≤ R.frames ∧ lo ≤ R.locals) {nx a bb d w len pc pc' : Nat} {cv : Int} {L st L' st' : List ZV} {S S' : Sh} {M M' : Me} {h h' : Ml} {cells slots : Nat} {t : ArrayType} (hd : decode cc pc = .ok (.newarray t, len)) (hnx : pc + len = nx) (hk : zchk own nL isI ret fr lo pc len (.newarray t) a bb d cv w = true) (hst : zbr sc (.newarray t, nx, a, bb, d, cv, w) L st S M h = some (pc', L', st', S', M', h')) (hrm : cells + (S'.length - S.length) ≤ R.cells ∧ slots + (zsz S' - zsz S) ≤ R.slots) (kk : ZN p l e R s m args below meth c Q dC dI cI cO b base nL pc' L' st' S' M' h' (cells + (S'.length - S.length)) (slots + (zsz S' - zsz S))) : ZN p l e R s m args below meth c Q dC dI cI cO b base nL pc L st S M h cells slots := by
  obtain ⟨hx, hb, hml, hown, hts, hK, hin, hbs⟩ := hC
  obtain ⟨h1, h2⟩ := zlen1 hk
  have h2 := of_decide_eq_true h2
  subst h1; subst hnx; subst h2
  simp only [zbr] at hst
  split at hst
  · next n r =>
    split at hst
    · next hn =>
      cases hst
      have e9 : (S ++ [(100, n.toNat, ([] : List (Option Nat)))]).length - S.length = 1 := by rw [List.length_append]; simp
      have e8 : zsz (S ++ [(100, n.toNat, ([] : List (Option Nat)))]) - zsz S = n.toNat := by
        rw [zsz_app]
        show zsz S + (if 100 = 100 ∨ 100 = 101 then n.toNat else 0) - zsz S = n.toNat
        rw [if_pos (Or.inl rfl)]
        omega
      rw [e9, e8] at hrm kk
      intro hz0 H locs ls hO hS hL hr
      have hz := hO.2.2 S.length (Nat.le_refl _)
      have hrn : zrn n := by unfold zrn; omega
      refine va_newa (atype := .int) (n := Int32.ofInt n) (N' := n.toNat) (a0 := (n.toNat, .inl (fun j => Int32.ofInt (M S.length j)))) hx hb (hts _ zg4) (ty := .int) rfl hK.1 hO.1 zD hS (fun q hq => Nat.le_trans hbs hq) (fun cA => ?_) (by rw [zI_lt0 hrn]; omega) (zI_cl hrn) (by show n.toNat * 4 ≤ 536870912; omega) hrm.1 hrm.2 hd (fun q cA H1 hK1 hP1 hD1 hS1 => ?_)
      · rw [vp_cell_i]
        congr 1
        funext j
        rw [hz.2 j]; rfl
      · refine W.sized fun hsz => ?_
        have hq := znew_at hz0 hP1 hD1 hsz
        subst hq
        have f1 : s.vm.findClass ("[" ++ (FieldType.int).toString) = some cA := (hK1.2 2 (cA, .int) rfl).2
        have f2 : s.vm.findClass ("[" ++ (FieldType.int).toString) = some cI := (hK.1.2 0 (cI, .int) rfl).2
        have e1 : cA = cI := Option.some.inj (f1.symm.trans f2)
        subst e1
        exact kk (by rw [List.length_append]; show base + (S.length + 1) = _; omega) H1 locs ls (hO.app hP1) hS1 hL (fun v hv => by
      rcases List.mem_cons.mp hv with e2 | e2
      · subst e2; exact trivial
      · exact hr v (List.mem_cons_of_mem _ e2))
    · cases hst
  · cases hst

set_option maxHeartbeats 1000000 in
theorem zs_anewarray (hC : ZCx p s m args meth c own cc nL isI dC dI cI cO base) (hX : zSc sc b base s) (hR : fr ≤ R.frames ∧ lo ≤ R.locals) {nx a bb d w len pc pc' : Nat} {cv : Int} {L st L' st' : List ZV} {S S' : Sh} {M M' : Me} {h h' : Ml} {cells slots : Nat} {k : Nat} (hd : decode cc pc = .ok (.anewarray k, len)) (hnx : pc + len = nx) (hk : zchk own nL isI ret fr lo pc len (.anewarray k) a bb d cv w = true) (hst : zbr sc (.anewarray k, nx, a, bb, d, cv, w) L st S M h = some (pc', L', st', S', M', h')) (hrm : cells + (S'.length - S.length) ≤ R.cells ∧ slots + (zsz S' - zsz S) ≤ R.slots) (kk : ZN p l e R s m args below meth c Q dC dI cI cO b base nL pc' L' st' S' M' h' (cells + (S'.length - S.length)) (slots + (zsz S' - zsz S))) : ZN p l e R s m args below meth c Q dC dI cI cO b base nL pc L st S M h cells slots := by
  obtain ⟨hx, hb, hml, hown, hts, hK, hin, hbs⟩ := hC
  obtain ⟨h1, h2⟩ := zlen1 hk
  have h2 := zin_mem h2
  subst h1; subst hnx
  simp only [zbr] at hst
  split at hst
  · next n r =>
    split at hst
    · next hn =>
      cases hst
      have e9 : (S ++ [(101, n.toNat, List.replicate n.toNat (none : Option Nat))]).length - S.length = 1 := by rw [List.length_append]; simp
      have e8 : zsz (S ++ [(101, n.toNat, List.replicate n.toNat (none : Option Nat))]) - zsz S = n.toNat := by
        rw [zsz_app]
        show zsz S + (if 101 = 100 ∨ 101 = 101 then n.toNat else _) - zsz S = n.toNat
        rw [if_pos (Or.inr rfl)]
        omega
      rw [e9, e8] at hrm kk
      intro hz0 H locs ls hO hS hL hr
      have hrn : zrn n := by unfold zrn; omega
      refine va_newq (own := own) (n := Int32.ofInt n) (N' := n.toNat) hx hb hown (hts _ h2) hK.2.2.2 hK.1 hO.1 zD hS (fun q hq => Nat.le_trans hbs hq) (by rw [zI_lt0 hrn]; omega) (zI_cl hrn) (by omega) hrm.1 hrm.2 hd (fun q cA H1 hK1 hP1 hD1 hS1 => ?_)
      refine W.sized fun hsz => ?_
      have hq := znew_at hz0 hP1 hD1 hsz
      subst hq
      obtain ⟨_, _, _, _, _, f1⟩ := (hK1.2 2 (cA, .object zOff) rfl).2
      obtain ⟨_, _, _, _, _, f2⟩ := (hK.1.2 1 (cO, .object zOff) rfl).2
      have e1 : cA = cO := Option.some.inj (f1.symm.trans f2)
      subst e1
      have e2 : zce cI cA base M h S.length (101, n.toNat, List.replicate n.toNat none) = .inl (cA, n.toNat, .inr (.inr (.inr (.inr (fun _ => none))))) := by
        have e3 : (fun j => zvo base (zgt (List.replicate n.toNat (none : Option Nat)) j)) = fun _ => none := by
          funext j
          rw [zgt_eq, List.getElem?_replicate]
          split <;> rfl
        show (Sum.inl (cA, n.toNat, .inr (.inr (.inr (.inr (fun j => zvo base (zgt (List.replicate n.toNat (none : Option Nat)) j)))))) : va_E) = _
        rw [e3]
      rw [← e2] at hP1
      exact kk (by rw [List.length_append]; show base + (S.length + 1) = _; omega) H1 locs ls (hO.app hP1) hS1 hL (fun v hv => by
      rcases List.mem_cons.mp hv with e2 | e2
      · subst e2; exact trivial
      · exact hr v (List.mem_cons_of_mem _ e2))
    · cases hst
  · cases hst

set_option maxHeartbeats 1000000 in
theorem zs_objinit (hC : ZCx p s m args meth c own cc nL isI dC dI cI cO base) (hX : zSc sc b base s) (hR : fr ≤ R.frames ∧ lo ≤ R.locals) {nx a bb d w len pc pc' : Nat} {cv : Int} {L st L' st' : List ZV} {S S' : Sh} {M M' : Me} {h h' : Ml} {cells slots : Nat} {k : Nat} (hd : decode cc pc = .ok (.invokespecial k, len)) (hnx : pc + len = nx) (hk : zchk own nL isI ret fr lo pc len (.invokespecial k) a bb d cv w = true) (hst : zst sc (.invokespecial k, nx, a, bb, d, cv, w) L st S M h = some (pc', L', st', S', M', h')) (hrm : cells + (S'.length - S.length) ≤ R.cells ∧ slots + (zsz S' - zsz S) ≤ R.slots) (kk : ZN p l e R s m args below meth c Q dC dI cI cO b base nL pc' L' st' S' M' h' (cells + (S'.length - S.length)) (slots + (zsz S' - zsz S))) : ZN p l e R s m args below meth c Q dC dI cI cO b base nL pc L st S M h cells slots := by
  obtain ⟨hx, hb, hml, hown, hts, hK, hin, hbs⟩ := hC
  obtain ⟨h1, h2⟩ := zlen1 hk
  subst h1; subst hnx
  simp only [zst] at hst
  split at hst
  · split at hst
    · next q r =>
      simp only [Bool.and_eq_true] at h2
      obtain ⟨⟨h2, h3⟩, h4⟩ := h2
      have h2 := of_decide_eq_true h2
      have h3 := of_decide_eq_true h3
      have h4 := zin_mem h4
      cases hc2 : Nat.ble (zwt r) 8 with
      | false => rw [hc2, cond_false] at hst; cases hst
      | true =>
        rw [hc2, cond_true] at hst
        cases hst
        have hw := Nat.le_of_ble_eq_true hc2
        intro hz0 H locs ls hO hS hL hr
        refine W.objInit (own := own) hx hb hown (hts _ h4) (hts _ zg2) (hts _ zg3) rfl (by rw [hml]; exact hL.size) rfl hd (by omega) (by rw [zv_wt]; show 2 * 0 + _ + 12 ≤ _; omega) ?_
        refine W.eq (g2 := F0 m (pc + 3) ls (st'.map (zv b base))) rfl ?_
        exact zkk kk hz0 H locs ls hO hS hL (fun u hu => hr u (List.mem_cons_of_mem _ hu))
    · cases hst
  · cases hst

theorem zmx {x y : Int} (hx : zrn x) (hy : zrn y) : (if Int32.ofInt x < Int32.ofInt y then Int32.ofInt y else Int32.ofInt x) = Int32.ofInt (max x y) ∧ zrn (max x y) := by
  by_cases h : x < y
  · rw [if_pos ((zI_lt hx hy).mpr h), Int.max_eq_right (Int.le_of_lt h)]; exact ⟨rfl, hy⟩
  · rw [if_neg (fun q => h ((zI_lt hx hy).mp q)), Int.max_eq_left (Int.not_lt.mp h)]; exact ⟨rfl, hx⟩
theorem zmn {x y : Int} (hx : zrn x) (hy : zrn y) : (if Int32.ofInt y < Int32.ofInt x then Int32.ofInt y else Int32.ofInt x) = Int32.ofInt (min x y) ∧ zrn (min x y) := by
  by_cases h : y < x
  · rw [if_pos ((zI_lt hy hx).mpr h), Int.min_eq_right (Int.le_of_lt h)]; exact ⟨rfl, hy⟩
  · rw [if_neg (fun q => h ((zI_lt hy hx).mp q)), Int.min_eq_left (Int.not_lt.mp h)]; exact ⟨rfl, hx⟩
theorem zab {x : Int} (hx : zrn x) : (if 0 ≤ Int32.ofInt x then Int32.ofInt x else 0 - Int32.ofInt x) = Int32.ofInt (w32 (x.natAbs : Int)) ∧ zrn (w32 (x.natAbs : Int)) := by
  refine ⟨?_, w32_rn _⟩
  by_cases h : 0 ≤ x
  · rw [if_pos ((zI_ge0 hx).mpr h), zI_w, Int.natAbs_of_nonneg h]
  · rw [if_neg (fun q => h ((zI_ge0 hx).mp q)), Int32.zero_sub, ← zI_neg]
    congr 2
    omega
set_option maxHeartbeats 1000000 in
theorem zs_math (hC : ZCx p s m args meth c own cc nL isI dC dI cI cO base) (hX : zSc sc b base s) (hR : fr ≤ R.frames ∧ lo ≤ R.locals) {nx a bb d w len pc pc' : Nat} {cv : Int} {L st L' st' : List ZV} {S S' : Sh} {M M' : Me} {h h' : Ml} {cells slots : Nat} {k : Nat} (hd : decode cc pc = .ok (.invokestatic k, len)) (hnx : pc + len = nx) (hk : zchk own nL isI ret fr lo pc len (.invokestatic k) a bb d cv w = true) (hst : zst sc (.invokestatic k, nx, a, bb, d, cv, w) L st S M h = some (pc', L', st', S', M', h')) (hrm : cells + (S'.length - S.length) ≤ R.cells ∧ slots + (zsz S' - zsz S) ≤ R.slots) (kk : ZN p l e R s m args below meth c Q dC dI cI cO b base nL pc' L' st' S' M' h' (cells + (S'.length - S.length)) (slots + (zsz S' - zsz S))) : ZN p l e R s m args below meth c Q dC dI cI cO b base nL pc L st S M h cells slots := by
  obtain ⟨hx, hb, hml, hown, hts, hK, hin, hbs⟩ := hC
  obtain ⟨h1, h2⟩ := zlen1 hk
  subst h1; subst hnx
  simp only [zst] at hst
  split at hst
  · split at hst
    · split at hst
      · next y x r =>
        simp only [Bool.and_eq_true] at h2
        obtain ⟨⟨h2, h3⟩, h4⟩ := h2
        have h2 := of_decide_eq_true h2
        have h3 := of_decide_eq_true h3
        have h4 := zin_mem h4
        cases hc2 : Nat.ble (zwt r) 8 with
        | false => rw [hc2, cond_false] at hst; cases hst
        | true =>
        rw [hc2, cond_true] at hst
        cases hst
        have hw := Nat.le_of_ble_eq_true hc2
        rw [Nat.sub_self, Nat.sub_self, Nat.add_zero, Nat.add_zero] at hrm
        intro hz0 H locs ls hO hS hL hr
        have hx1 : zrn x := hr (.inl x) (List.mem_cons_of_mem _ List.mem_cons_self)
        have hy1 : zrn y := hr (.inl y) List.mem_cons_self
        refine va_mmax (own := own) hx hb (by rw [hml]; exact hL.size.symm) hown (hts _ h4) (hts _ zg5) (hts _ zg0) (hts _ zg6) (by omega) (by rw [zv_wt]; omega) hrm.1 hrm.2 hd ?_
        rw [(zmx hx1 hy1).1]
        exact zkk kk hz0 H locs ls hO hS hL (fun v hv => by
          rcases List.mem_cons.mp hv with e2 | e2
          · subst e2; exact (zmx hx1 hy1).2
          · exact hr v (List.mem_cons_of_mem _ (List.mem_cons_of_mem _ e2)))
      · cases hst
    · split at hst
      · next y x r =>
        simp only [Bool.and_eq_true] at h2
        obtain ⟨⟨h2, h3⟩, h4⟩ := h2
        have h2 := of_decide_eq_true h2
        have h3 := of_decide_eq_true h3
        have h4 := zin_mem h4
        cases hc2 : Nat.ble (zwt r) 8 with
        | false => rw [hc2, cond_false] at hst; cases hst
        | true =>
        rw [hc2, cond_true] at hst
        cases hst
        have hw := Nat.le_of_ble_eq_true hc2
        rw [Nat.sub_self, Nat.sub_self, Nat.add_zero, Nat.add_zero] at hrm
        intro hz0 H locs ls hO hS hL hr
        have hx1 : zrn x := hr (.inl x) (List.mem_cons_of_mem _ List.mem_cons_self)
        have hy1 : zrn y := hr (.inl y) List.mem_cons_self
        refine va_mmin (own := own) hx hb (by rw [hml]; exact hL.size.symm) hown (hts _ h4) (hts _ zg7) (hts _ zg0) (hts _ zg8) (by omega) (by rw [zv_wt]; omega) hrm.1 hrm.2 hd ?_
        rw [(zmn hx1 hy1).1]
        exact zkk kk hz0 H locs ls hO hS hL (fun v hv => by
          rcases List.mem_cons.mp hv with e2 | e2
          · subst e2; exact (zmn hx1 hy1).2
          · exact hr v (List.mem_cons_of_mem _ (List.mem_cons_of_mem _ e2)))
      · cases hst
    · split at hst
      · next x r =>
        simp only [Bool.and_eq_true] at h2
        obtain ⟨⟨h2, h3⟩, h4⟩ := h2
        have h2 := of_decide_eq_true h2
        have h3 := of_decide_eq_true h3
        have h4 := zin_mem h4
        cases hc2 : Nat.ble (zwt r) 8 with
        | false => rw [hc2, cond_false] at hst; cases hst
        | true =>
        rw [hc2, cond_true] at hst
        cases hst
        have hw := Nat.le_of_ble_eq_true hc2
        rw [Nat.sub_self, Nat.sub_self, Nat.add_zero, Nat.add_zero] at hrm
        intro hz0 H locs ls hO hS hL hr
        have hx1 : zrn x := hr (.inl x) List.mem_cons_self
        refine va_mabs (own := own) hx hb (by rw [hml]; exact hL.size.symm) hown (hts _ h4) (hts _ zg9) (hts _ zg0) (hts _ zg10) (by omega) (by rw [zv_wt]; omega) hrm.1 hrm.2 hd ?_
        rw [(zab hx1).1]
        exact zkk kk hz0 H locs ls hO hS hL (fun v hv => by
          rcases List.mem_cons.mp hv with e2 | e2
          · subst e2; exact (zab hx1).2
          · exact hr v (List.mem_cons_of_mem _ e2))
      · cases hst
    · cases hst
  · cases hst

end ZMK
