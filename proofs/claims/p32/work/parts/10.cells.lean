section ZBR
variable {p : Program} {l : Launch} {e : Env} {R : Room} {s : State} {m : MethodId} {args : Array Value} {below : List Frame} {meth : Method} {c : Code} {Q : State → Prop} {dC : Nat → ClassId} {dI : Nat → Nat → Nat} {cI cO : ClassId} {b base : Nat} {own : String} {cc : ByteArray} {nL : Nat} {isI : Bool} {ret : Option FieldType} {fr lo : Nat} {sc : Sc}
theorem W.sized {H : Heap} {locs : List Loc} {cells slots : Nat} {g : JFrame} (k : H.size ≤ s.heap.size + cells → W p l e R s m args below meth c H locs cells slots Q g) : W p l e R s m args below meth c H locs cells slots Q g := fun T hT X => k (by rw [← hT]; exact X.heapSize) T hT X
theorem WO.low {S : Sh} {M : Me} {h : Ml} {H : Heap} {locs : List Loc} (hO : WO dC dI cI cO base S M h H) (hS : va_S (fun q => base ≤ q) s.heap H locs) (hbs : base ≤ s.heap.size) : base + S.length ≤ H.size := by
  rcases Nat.eq_zero_or_pos S.length with h0 | h0
  · have := hS.1; omega
  · have h1 : S.length - 1 < S.length := by omega
    have h2 : (zws cI cO base S M h)[S.length - 1]? = some (base + (S.length - 1), zce cI cO base M h (S.length - 1) S[S.length - 1]) := by
      rw [zws_at, List.getElem?_eq_getElem h1]; rfl
    have h3 := (hO.1 _ _ h2).lt
    have h4 : base + (S.length - 1) < H.size := h3
    omega
theorem zce_obj {M : Me} {h : Ml} {k a n : Nat} {rs : List (Option Nat)} (ha : a < 8) : zce cI cO base M h k (a, n, rs) = .inr (a, (zFK a).mapIdx (zfv base M h k rs)) := by
  unfold zce
  rw [if_neg (by show ¬ a = 100; omega), if_neg (by show ¬ a = 101; omega)]
theorem zws_get {S : Sh} {M : Me} {h : Ml} {k : Nat} {q : Nat × Nat × List (Option Nat)} (hz : zgt S k = some q) : (zws cI cO base S M h)[k]? = some (base + k, zce cI cO base M h k q) ∧ k < S.length := by
  rw [zgt_eq] at hz
  exact ⟨by rw [zws_at, hz]; rfl, (List.getElem?_eq_some_iff.mp hz).1⟩
theorem zfs_at {M : Me} {h : Ml} {k : Nat} {rs : List (Option Nat)} {fk : List Nat} {j d : Nat} (hd : zgt fk j = some d) : (fk.mapIdx (zfv base M h k rs))[j]? = some (zfv base M h k rs j d) := by
  rw [zgt_eq] at hd
  rw [List.getElem?_mapIdx, hd]; rfl
theorem zfs_set {M M' : Me} {h h' : Ml} {k : Nat} {rs rs' : List (Option Nat)} {fk : List Nat} {j d : Nat} {v : Value} (hd : zgt fk j = some d) (hv : zfv base M' h' k rs' j d = v) (ho : ∀ i d', i ≠ j → zgt fk i = some d' → zfv base M' h' k rs' i d' = zfv base M h k rs i d') : (fk.mapIdx (zfv base M h k rs)).set j v = fk.mapIdx (zfv base M' h' k rs') := by
  rw [zgt_eq] at hd
  apply List.ext_getElem?
  intro i
  rw [List.getElem?_set, List.getElem?_mapIdx, List.getElem?_mapIdx, List.length_mapIdx]
  by_cases hi : j = i
  · subst hi
    rw [if_pos rfl, if_pos (List.getElem?_eq_some_iff.mp hd).1, hd, ← hv]; rfl
  · rw [if_neg hi]
    cases hc : fk[i]? with
    | none => rfl
    | some d' =>
      have := ho i d' (fun e => hi e.symm) (by rw [zgt_eq]; exact hc)
      simp [this]
theorem zfv_2 {M : Me} {h : Ml} {k : Nat} {rs : List (Option Nat)} {j d : Nat} (d0 : d = 0 → False) (d1 : d = 1 → False) : zfv base M h k rs j d = .long (h k) := by
  rcases d with _ | _ | d
  · exact absurd rfl d0
  · exact absurd rfl d1
  · rfl
theorem zlong : ∀ a, a < 8 → ∀ j, j < 12 → (match zgt (zFK a) j with | some (_ + 2) => decide (a = 8 ∧ j = 9) | _ => true) = true := by decide +kernel
theorem zlong' {a j d : Nat} (ha : a < 8) (h : zgt (zFK a) j = some (d + 2)) : a = 8 ∧ j = 9 := by
  have hj : j < 12 := by
    have h1 : ∀ a, a < 8 → (zFK a).length ≤ 12 := by decide +kernel
    rw [zgt_eq] at h
    have := (List.getElem?_eq_some_iff.mp h).1
    have := h1 a ha
    omega
  have := zlong a ha j hj
  rw [h] at this
  exact of_decide_eq_true this
theorem zd2 {a j d : Nat} {C : String} {T : u_T} {N : Nat} (ha : vwCl[a]? = some (C, T, N)) (h : zgt (zFK a) j = some d) : a < 8 ∧ d ≤ 2 := by
  have h9 : a < 8 := (List.getElem?_eq_some_iff.mp ha).1
  refine ⟨h9, ?_⟩
  have h1 : ∀ a, a < 8 → ∀ d ∈ zFK a, d ≤ 2 := by decide +kernel
  rw [zgt_eq] at h
  exact h1 a h9 d (List.mem_of_getElem? h)
theorem WO.putM {S : Sh} {M M' : Me} {h h' : Ml} {H H1 : Heap} {k : Nat} {s' : Nat × Nat × List (Option Nat)} (hO : WO dC dI cI cO base S M h H) (hk : k < S.length) (hM : ∀ a, a ≠ k → M' a = M a) (hh : ∀ a, a ≠ k → h' a = h a) (hr : ∀ j, zrn (M' k j)) (hP : va_P (dC, dI) vwCl ((zws cI cO base S M h).set k (base + k, zce cI cO base M' h' k s')) H1) : WO dC dI cI cO base (S.set k s') M' h' H1 := by
  refine ⟨by rw [← zws_set hk rfl hM hh]; exact hP, fun a j => ?_, fun a ha => ?_⟩
  · by_cases e : a = k
    · subst e; exact hr j
    · rw [hM a e]; exact hO.2.1 a j
  · rw [List.length_set] at ha
    have e : a ≠ k := by omega
    rw [hM a e, hh a e]
    exact hO.2.2 a ha
theorem zset_self {S : Sh} {k : Nat} {q : Nat × Nat × List (Option Nat)} (h : zgt S k = some q) : S.set k q = S := by
  rw [zgt_eq] at h
  apply List.ext_getElem?
  intro j
  rw [List.getElem?_set]
  by_cases e : k = j
  · subst e
    rw [if_pos rfl, if_pos (List.getElem?_eq_some_iff.mp h).1, h]
  · rw [if_neg e]
set_option maxHeartbeats 1000000 in
theorem zs_arraylength (hC : ZCx p s m args meth c own cc nL isI dC dI cI cO base) (hX : zSc sc b base s) (hR : fr ≤ R.frames ∧ lo ≤ R.locals) {nx a bb d w len pc pc' : Nat} {cv : Int} {L st L' st' : List ZV} {S S' : Sh} {M M' : Me} {h h' : Ml} {cells slots : Nat} (hd : decode cc pc = .ok (.arraylength, len)) (hnx : pc + len = nx) (hk : zchk own nL isI ret fr lo pc len (.arraylength) a bb d cv w = true) (hst : zst sc (.arraylength, nx, a, bb, d, cv, w) L st S M h = some (pc', L', st', S', M', h')) (hrm : cells + (S'.length - S.length) ≤ R.cells ∧ slots + (zsz S' - zsz S) ≤ R.slots) (kk : ZN p l e R s m args below meth c Q dC dI cI cO b base nL pc' L' st' S' M' h' (cells + (S'.length - S.length)) (slots + (zsz S' - zsz S))) : ZN p l e R s m args below meth c Q dC dI cI cO b base nL pc L st S M h cells slots := by
  obtain ⟨hx, hb, hml, hown, hts, hK, hin, hbs⟩ := hC
  have h1 := Nat.eq_of_beq_eq_true hk
  subst h1; subst hnx
  simp only [zst] at hst
  split at hst
  · next k r =>
    split at hst
    · next cl n rs hz =>
      cases hc1 : (Nat.beq cl 100 || Nat.beq cl 101) with
      | false => rw [hc1, cond_false] at hst; cases hst
      | true =>
        cases hc2 : Nat.ble n 100000 with
        | false => rw [hc1, hc2, cond_true, cond_false] at hst; cases hst
        | true =>
          rw [hc1, hc2, cond_true, cond_true] at hst
          cases hst
          intro hz0 H locs ls hO hS hL hr
          have hn := Nat.le_of_ble_eq_true hc2
          have hw := (zws_get (cI := cI) (cO := cO) (base := base) (M := M) (h := h) hz).1
          have fin : W p l e R s m args below meth c H locs cells slots Q (F0 m (pc + 1) ls (.int (Int32.ofInt (n : Int)) :: r.map (zv b base))) := zkk kk hz0 H locs ls hO hS hL (fun v hv => by
      rcases List.mem_cons.mp hv with e2 | e2
      · subst e2; exact zrn_nat hn
      · exact hr v (List.mem_cons_of_mem _ e2))
          rw [Bool.or_eq_true] at hc1
          rcases hc1 with hc1 | hc1
          · have e1 := Nat.eq_of_beq_eq_true hc1
            subst e1
            exact va_alen (ty := .int) hx hb hK.1 hO.1 k 0 hw rfl rfl hd fin
          · have e1 := Nat.eq_of_beq_eq_true hc1
            subst e1
            exact va_alen (ty := .object zOff) hx hb hK.1 hO.1 k 1 hw rfl rfl hd fin
    · cases hst
  · next r =>
    split at hst
    · next n xs =>
      cases hst
      obtain ⟨hXX, hbl, hbb, hxs, hn⟩ := hX
      intro hz0 H locs ls hO hS hL hr
      exact va_slen hx hb hXX hbl (Nat.not_le.mpr hbb) hS hd (zkk kk hz0 H locs ls hO hS hL (fun v hv => by
      rcases List.mem_cons.mp hv with e2 | e2
      · subst e2; exact zrn_nat hn
      · exact hr v (List.mem_cons_of_mem _ e2)))
    · cases hst
  · cases hst

set_option maxHeartbeats 1000000 in
theorem zs_getfield (hC : ZCx p s m args meth c own cc nL isI dC dI cI cO base) (hX : zSc sc b base s) (hR : fr ≤ R.frames ∧ lo ≤ R.locals) {nx a bb d w len pc pc' : Nat} {cv : Int} {L st L' st' : List ZV} {S S' : Sh} {M M' : Me} {h h' : Ml} {cells slots : Nat} {k : Nat} (hd : decode cc pc = .ok (.getfield k, len)) (hnx : pc + len = nx) (hk : zchk own nL isI ret fr lo pc len (.getfield k) a bb d cv w = true) (hst : zst sc (.getfield k, nx, a, bb, d, cv, w) L st S M h = some (pc', L', st', S', M', h')) (hrm : cells + (S'.length - S.length) ≤ R.cells ∧ slots + (zsz S' - zsz S) ≤ R.slots) (kk : ZN p l e R s m args below meth c Q dC dI cI cO b base nL pc' L' st' S' M' h' (cells + (S'.length - S.length)) (slots + (zsz S' - zsz S))) : ZN p l e R s m args below meth c Q dC dI cI cO b base nL pc L st S M h cells slots := by
  obtain ⟨hx, hb, hml, hown, hts, hK, hin, hbs⟩ := hC
  obtain ⟨h1, h2⟩ := zlen1 hk
  subst h1; subst hnx
  split at h2
  · next C T N hcl =>
    simp only [Bool.and_eq_true] at h2
    obtain ⟨⟨h2, h3⟩, h4⟩ := h2
    have h2 := of_decide_eq_true h2
    have h3 := zin_mem h3
    have h4 := of_decide_eq_true h4
    obtain ⟨ty, -, hws, hty, hnm, hlen, htk⟩ := zcls hcl
    obtain ⟨ha9, hd2⟩ := zd2 hcl h4
    simp only [zst] at hst
    split at hst
    · next q r =>
      split at hst
      · next cl n rs hz =>
        cases hc1 : Nat.beq cl a with
        | false => rw [hc1, cond_false] at hst; cases hst
        | true =>
          rw [hc1, cond_true] at hst
          have e1 := Nat.eq_of_beq_eq_true hc1
          subst e1
          have main : ∀ (u : ZV), zv b base u = zfv base M h q rs bb d → ((∀ k j, zrn (M k j)) → zrv u) → (pc + 3, L, u :: r, S, M, h) = (pc', L', st', S', M', h') → ZN p l e R s m args below meth c Q dC dI cI cO b base nL pc L (.inr (.inr (.inl q)) :: r) S M h cells slots := by
            intro u hu hur hst
            cases hst
            intro hz0 H locs ls hO hS hL hr
            have hw := (zws_get (cI := cI) (cO := cO) (base := base) (M := M) (h := h) hz).1
            rw [zce_obj ha9] at hw
            refine va_get (own := own) hx hb hts hws hown hK.1 hO.1 q hw hcl bb h2 (hts _ h3) (fun _ h9 => h9) (zfs_at h4) hd ?_
            rw [← hu]
            exact zkk kk hz0 H locs ls hO hS hL (fun v hv => by
      rcases List.mem_cons.mp hv with e2 | e2
      · subst e2; exact hur hO.2.1
      · exact hr v (List.mem_cons_of_mem _ e2))
          split at hst
          · exact main (.inl (M q bb)) rfl (fun g => g q bb) (Option.some.inj hst)
          · split at hst
            · next q2 hz2 => exact main (.inr (.inr (.inl q2))) (by unfold zfv; rw [hz2]; rfl) (fun _ => trivial) (Option.some.inj hst)
            · cases hst
          · next d0 d1 => exact main (.inr (.inl (h q))) (zfv_2 d0 d1).symm (fun _ => trivial) (Option.some.inj hst)
      · cases hst
    · cases hst
  · cases h2

theorem zsz_set {S : Sh} {k : Nat} {q q' : Nat × Nat × List (Option Nat)} (h : zgt S k = some q) (hq : (if q'.1 = 100 ∨ q'.1 = 101 then q'.2.1 else q'.2.2.length) = if q.1 = 100 ∨ q.1 = 101 then q.2.1 else q.2.2.length) : zsz (S.set k q') = zsz S := by
  unfold zsz
  congr 1
  apply List.ext_getElem?
  intro j
  rw [List.getElem?_map, List.getElem?_map, List.getElem?_set]
  rw [zgt_eq] at h
  by_cases e : k = j
  · subst e
    rw [if_pos rfl, if_pos (List.getElem?_eq_some_iff.mp h).1, h]
    simp only [Option.map_some]
    rw [hq]
  · rw [if_neg e]
theorem zsz_app {S : Sh} {q : Nat × Nat × List (Option Nat)} : zsz (S ++ [q]) = zsz S + if q.1 = 100 ∨ q.1 = 101 then q.2.1 else q.2.2.length := by
  unfold zsz
  rw [List.map_append, List.sum_append]
  simp
theorem zTy0 {t : FieldType} (h : zTyOk 0 t = true) : t = .int := by cases t <;> first | rfl | cases h
theorem zTy2 {t : FieldType} (h : zTyOk 2 t = true) : t = .long := by cases t <;> first | rfl | cases h
theorem zTy1 {t : FieldType} (h : zTyOk 1 t = true) (a : Addr) : narrow t (.ref a) = .ref a ∧ fits t (.ref a) = true ∧ defaultValue t = .null := by cases t <;> first | exact ⟨rfl, rfl, rfl⟩ | cases h
theorem upd2_ne {M : Me} {k j a : Nat} {v : Int} (h : a ≠ k) : upd2 M k j v a = M a := by
  funext i
  unfold upd2
  rw [if_neg (fun q => h q.1)]
theorem upd2_at {M : Me} {k j : Nat} {v : Int} : upd2 M k j v k j = v := by
  unfold upd2
  rw [if_pos ⟨rfl, rfl⟩]
theorem upd2_off {M : Me} {k j i : Nat} {v : Int} (h : i ≠ j) : upd2 M k j v k i = M k i := by
  unfold upd2
  rw [if_neg (fun q => h q.2)]
set_option maxHeartbeats 1000000 in
theorem zs_putfield (hC : ZCx p s m args meth c own cc nL isI dC dI cI cO base) (hX : zSc sc b base s) (hR : fr ≤ R.frames ∧ lo ≤ R.locals) {nx a bb d w len pc pc' : Nat} {cv : Int} {L st L' st' : List ZV} {S S' : Sh} {M M' : Me} {h h' : Ml} {cells slots : Nat} {k : Nat} (hd : decode cc pc = .ok (.putfield k, len)) (hnx : pc + len = nx) (hk : zchk own nL isI ret fr lo pc len (.putfield k) a bb d cv w = true) (hst : zst sc (.putfield k, nx, a, bb, d, cv, w) L st S M h = some (pc', L', st', S', M', h')) (hrm : cells + (S'.length - S.length) ≤ R.cells ∧ slots + (zsz S' - zsz S) ≤ R.slots) (kk : ZN p l e R s m args below meth c Q dC dI cI cO b base nL pc' L' st' S' M' h' (cells + (S'.length - S.length)) (slots + (zsz S' - zsz S))) : ZN p l e R s m args below meth c Q dC dI cI cO b base nL pc L st S M h cells slots := by
  obtain ⟨hx, hb, hml, hown, hts, hK, hin, hbs⟩ := hC
  obtain ⟨h1, h2⟩ := zlen1 hk
  subst h1; subst hnx
  split at h2
  · next C T N hcl =>
    simp only [Bool.and_eq_true] at h2
    obtain ⟨⟨⟨h2, h3⟩, h4⟩, h5⟩ := h2
    have h2 := of_decide_eq_true h2
    have h3 := zin_mem h3
    have h4 := of_decide_eq_true h4
    obtain ⟨ty, -, hws, hty, hnm, hlen, htk⟩ := zcls hcl
    obtain ⟨ha9, hd2⟩ := zd2 hcl h4
    simp only [zst] at hst
    split at hst
    · next v q r =>
      split at hst
      · next cl n rs hz =>
        cases hc1 : Nat.beq cl a with
        | false => rw [hc1, cond_false] at hst; cases hst
        | true =>
          rw [hc1, cond_true] at hst
          have e1 := Nat.eq_of_beq_eq_true hc1
          subst e1
          have hql : q < S.length := (zws_get (cI := cI) (cO := cO) (base := base) (M := M) (h := h) hz).2
          have main : ∀ (M2 : Me) (h2' : Ml) (rs2 : List (Option Nat)), narrow (ty bb) (zv b base v) = zv b base v → fits (ty bb) (zv b base v) = true → zfv base M2 h2' q rs2 bb d = zv b base v → (∀ i d', i ≠ bb → zgt (zFK cl) i = some d' → zfv base M2 h2' q rs2 i d' = zfv base M h q rs i d') → (∀ a, a ≠ q → M2 a = M a) → (∀ a, a ≠ q → h2' a = h a) → ((∀ k j, zrn (M k j)) → zrv v → ∀ j, zrn (M2 q j)) → zsz (S.set q (cl, n, rs2)) = zsz S → (pc + 3, L, r, S.set q (cl, n, rs2), M2, h2') = (pc', L', st', S', M', h') → ZN p l e R s m args below meth c Q dC dI cI cO b base nL pc L (v :: .inr (.inr (.inl q)) :: r) S M h cells slots := by
            intro M2 h2' rs2 g1 g2 g3 g4 g5 g6 g7 g8 hst
            cases hst
            rw [List.length_set, g8] at kk
            intro hz0 H locs ls hO hS hL hr
            have hw := (zws_get (cI := cI) (cO := cO) (base := base) (M := M) (h := h) hz).1
            rw [zce_obj ha9] at hw
            have hfl : bb < ((zFK cl).mapIdx (zfv base M h q rs)).length := by rw [List.length_mapIdx, hlen]; exact h2
            have fin : ∀ (H1 : Heap) (locs1 : List Loc), va_P (dC, dI) vwCl ((zws cI cO base S M h).set q (base + q, .inr (cl, ((zFK cl).mapIdx (zfv base M h q rs)).set bb (zv b base v)))) H1 → va_D (fun q => base ≤ q) ((zws cI cO base S M h).set q (base + q, .inr (cl, ((zFK cl).mapIdx (zfv base M h q rs)).set bb (zv b base v)))) → va_S (fun q => base ≤ q) s.heap H1 locs1 → W p l e R s m args below meth c H1 locs1 cells slots Q (F0 m (pc + 3) ls (st'.map (zv b base))) := by
              intro H1 locs1 hP1 _ hS1
              rw [zfs_set h4 g3 g4, ← zce_obj (n := n) ha9] at hP1
              refine zkk kk (by rw [List.length_set]; exact hz0) H1 locs1 ls (hO.putM hql g5 g6 (g7 hO.2.1 (hr v List.mem_cons_self)) hP1) hS1 hL (fun u hu => hr u (List.mem_cons_of_mem _ (List.mem_cons_of_mem _ hu)))
            cases hf : (T bb).2.2.2 with
            | false => exact va_put (own := own) hx hb hts hws ty hty hnm hown hK.1 hO.1 zD hS q hw hcl bb h2 (hts _ h3) (fun _ h9 => h9) hf (hty bb h2) g1 g2 hfl hd fin
            | true =>
              rw [hf, cond_true, Bool.and_eq_true] at h5
              exact va_putF (own := own) hx hb hts hws ty hty hnm hown hK.1 hO.1 zD hS q hw hcl bb h2 (hts _ h3) (fun _ h9 => h9) hf (hin h5.1) (of_decide_eq_true h5.2) (hty bb h2) g1 g2 hfl hd fin
          have hT := htk bb d h4
          split at hst
          · split at hst
            · next x =>
              have e3 := zTy0 hT
              refine main (upd2 M q bb x) h rs (by rw [e3]; rfl) (by rw [e3]; rfl) (by unfold zfv; rw [upd2_at]; rfl) (fun i d' hi _ => by unfold zfv; rw [upd2_off hi]) (fun a ha => upd2_ne ha) (fun _ _ => rfl) (fun g1 g2 j => ?_) (by rw [zset_self hz]) (by rw [zset_self hz]; exact Option.some.inj hst)
              by_cases hj : j = bb
              · subst hj; rw [upd2_at]; exact g2
              · rw [upd2_off hj]; exact g1 q j
            · cases hst
          · split at hst
            · next q2 =>
              cases hc2 : Nat.ble (bb + 1) rs.length with
              | false => rw [hc2, cond_false] at hst; cases hst
              | true =>
                rw [hc2, cond_true] at hst
                have hlt : bb < rs.length := Nat.le_of_ble_eq_true hc2
                obtain ⟨e3, e4, -⟩ := zTy1 hT (base + q2)
                have hset : ∀ i, i ≠ bb → zgt (rs.set bb (some q2)) i = zgt rs i := fun i hi => by rw [zgt_eq, zgt_eq, List.getElem?_set_ne (Ne.symm hi)]
                refine main M h (rs.set bb (some q2)) e3 e4 (by unfold zfv; rw [zgt_eq, List.getElem?_set_self hlt]; rfl) (fun i d' hi _ => by unfold zfv; rw [hset i hi]) (fun _ _ => rfl) (fun _ _ => rfl) (fun g1 _ j => g1 q j) ?_ (Option.some.inj hst)
                exact zsz_set hz (by show (if cl = 100 ∨ cl = 101 then n else (rs.set bb (some q2)).length) = if cl = 100 ∨ cl = 101 then n else rs.length; rw [List.length_set])
            · cases hst
          · next d0 d1 =>
            split at hst
            · next y =>
              have hdd : d = 2 := by
                rcases d with _ | _ | _ | d
                · exact absurd rfl d0
                · exact absurd rfl d1
                · rfl
                · omega
              subst hdd
              have e3 := zTy2 hT
              obtain ⟨ec, eb⟩ := zlong' ha9 h4
              refine main M (updl h q y) rs (by rw [e3]; rfl) (by rw [e3]; rfl) (by show Value.long (updl h q y q) = _; unfold updl; rw [if_pos rfl]; rfl) (fun i d' hi hd' => ?_) (fun _ _ => rfl) (fun a ha => by unfold updl; rw [if_neg ha]) (fun g1 _ j => g1 q j) (by rw [zset_self hz]) (by rw [zset_self hz]; exact Option.some.inj hst)
              rcases d' with _ | _ | d'
              · rfl
              · rfl
              · have := zlong' ha9 hd'
                omega
            · cases hst
      · cases hst
    · cases hst
  · cases h2

end ZBR
