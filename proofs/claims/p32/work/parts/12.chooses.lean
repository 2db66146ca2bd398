section ZCH
variable {p : Program} {l : Launch} {e : Env} {R : Room} {s : State} {m : MethodId} {args : Array Value} {below : List Frame} {meth : Method} {c : Code} {Q : State → Prop} {dC : Nat → ClassId} {dI : Nat → Nat → Nat} {cI cO : ClassId} {b base : Nat} {own : String} {cc : ByteArray} {nL : Nat} {isI : Bool} {ret : Option FieldType} {fr lo : Nat} {sc : Sc}
set_option maxHeartbeats 1000000 in
theorem zs_if_icmp (hC : ZCx p s m args meth c own cc nL isI dC dI cI cO base) (hX : zSc sc b base s) (hR : fr ≤ R.frames ∧ lo ≤ R.locals) {nx a bb d w len pc pc' : Nat} {cv : Int} {L st L' st' : List ZV} {S S' : Sh} {M M' : Me} {h h' : Ml} {cells slots : Nat} {q : Jvm.ClassFile.Cond} {off : Int} (hd : decode cc pc = .ok (.if_icmp q off, len)) (hnx : pc + len = nx) (hk : zchk own nL isI ret fr lo pc len (.if_icmp q off) a bb d cv w = true) (hst : zbr sc (.if_icmp q off, nx, a, bb, d, cv, w) L st S M h = some (pc', L', st', S', M', h')) (hrm : cells + (S'.length - S.length) ≤ R.cells ∧ slots + (zsz S' - zsz S) ≤ R.slots) (kk : ZN p l e R s m args below meth c Q dC dI cI cO b base nL pc' L' st' S' M' h' (cells + (S'.length - S.length)) (slots + (zsz S' - zsz S))) : ZN p l e R s m args below meth c Q dC dI cI cO b base nL pc L st S M h cells slots := by
  obtain ⟨hx, hb, hml, hown, hts, hK, hin, hbs⟩ := hC
  obtain ⟨h1, h2⟩ := zlen1 hk
  have h2 := of_decide_eq_true h2
  subst h1; subst hnx
  simp only [zbr] at hst
  split at hst
  · next y x r =>
    split at hst
    · cases hst
      intro hz0 H locs ls hO hS hL hr
      have hx1 : zrn x := hr (.inl x) (List.mem_cons_of_mem _ List.mem_cons_self)
      have hy1 : zrn y := hr (.inl y) List.mem_cons_self
      refine lv_icmp_eq hx hb hd h2 (fun g => ?_) (fun g => ?_)
      · rw [if_pos ((zI_inj hx1 hy1).mp g)] at kk
        exact zkk kk hz0 H locs ls hO hS hL (fun v hv => hr v (List.mem_cons_of_mem _ (List.mem_cons_of_mem _ hv)))
      · rw [if_neg (fun q => g ((zI_inj hx1 hy1).mpr q))] at kk
        exact zkk kk hz0 H locs ls hO hS hL (fun v hv => hr v (List.mem_cons_of_mem _ (List.mem_cons_of_mem _ hv)))
    · cases hst
      intro hz0 H locs ls hO hS hL hr
      have hx1 : zrn x := hr (.inl x) (List.mem_cons_of_mem _ List.mem_cons_self)
      have hy1 : zrn y := hr (.inl y) List.mem_cons_self
      refine lv_icmp_ne hx hb hd h2 (fun g => ?_) (fun g => ?_)
      · rw [if_pos (fun q => g ((zI_inj hx1 hy1).mpr q))] at kk
        exact zkk kk hz0 H locs ls hO hS hL (fun v hv => hr v (List.mem_cons_of_mem _ (List.mem_cons_of_mem _ hv)))
      · rw [if_neg (fun q => q ((zI_inj hx1 hy1).mp g))] at kk
        exact zkk kk hz0 H locs ls hO hS hL (fun v hv => hr v (List.mem_cons_of_mem _ (List.mem_cons_of_mem _ hv)))
    · cases hst
      intro hz0 H locs ls hO hS hL hr
      have hx1 : zrn x := hr (.inl x) (List.mem_cons_of_mem _ List.mem_cons_self)
      have hy1 : zrn y := hr (.inl y) List.mem_cons_self
      refine lv_icmp_lt hx hb hd h2 (fun g => ?_) (fun g => ?_)
      · rw [if_pos ((zI_lt hx1 hy1).mp g)] at kk
        exact zkk kk hz0 H locs ls hO hS hL (fun v hv => hr v (List.mem_cons_of_mem _ (List.mem_cons_of_mem _ hv)))
      · rw [if_neg (fun q => g ((zI_lt hx1 hy1).mpr q))] at kk
        exact zkk kk hz0 H locs ls hO hS hL (fun v hv => hr v (List.mem_cons_of_mem _ (List.mem_cons_of_mem _ hv)))
    · cases hst
      intro hz0 H locs ls hO hS hL hr
      have hx1 : zrn x := hr (.inl x) (List.mem_cons_of_mem _ List.mem_cons_self)
      have hy1 : zrn y := hr (.inl y) List.mem_cons_self
      refine lv_icmp_ge hx hb hd h2 (fun g => ?_) (fun g => ?_)
      · rw [if_pos ((zI_le hy1 hx1).mp g)] at kk
        exact zkk kk hz0 H locs ls hO hS hL (fun v hv => hr v (List.mem_cons_of_mem _ (List.mem_cons_of_mem _ hv)))
      · rw [if_neg (fun q => g ((zI_le hy1 hx1).mpr q))] at kk
        exact zkk kk hz0 H locs ls hO hS hL (fun v hv => hr v (List.mem_cons_of_mem _ (List.mem_cons_of_mem _ hv)))
    · cases hst
      intro hz0 H locs ls hO hS hL hr
      have hx1 : zrn x := hr (.inl x) (List.mem_cons_of_mem _ List.mem_cons_self)
      have hy1 : zrn y := hr (.inl y) List.mem_cons_self
      refine lv_icmp_gt hx hb hd h2 (fun g => ?_) (fun g => ?_)
      · rw [if_pos ((zI_lt hy1 hx1).mp g)] at kk
        exact zkk kk hz0 H locs ls hO hS hL (fun v hv => hr v (List.mem_cons_of_mem _ (List.mem_cons_of_mem _ hv)))
      · rw [if_neg (fun q => g ((zI_lt hy1 hx1).mpr q))] at kk
        exact zkk kk hz0 H locs ls hO hS hL (fun v hv => hr v (List.mem_cons_of_mem _ (List.mem_cons_of_mem _ hv)))
    · cases hst
      intro hz0 H locs ls hO hS hL hr
      have hx1 : zrn x := hr (.inl x) (List.mem_cons_of_mem _ List.mem_cons_self)
      have hy1 : zrn y := hr (.inl y) List.mem_cons_self
      refine lv_icmp_le hx hb hd h2 (fun g => ?_) (fun g => ?_)
      · rw [if_pos ((zI_le hx1 hy1).mp g)] at kk
        exact zkk kk hz0 H locs ls hO hS hL (fun v hv => hr v (List.mem_cons_of_mem _ (List.mem_cons_of_mem _ hv)))
      · rw [if_neg (fun q => g ((zI_le hx1 hy1).mpr q))] at kk
        exact zkk kk hz0 H locs ls hO hS hL (fun v hv => hr v (List.mem_cons_of_mem _ (List.mem_cons_of_mem _ hv)))
  · cases hst

set_option maxHeartbeats 1000000 in
theorem zs_ifCond (hC : ZCx p s m args meth c own cc nL isI dC dI cI cO base) (hX : zSc sc b base s) (hR : fr ≤ R.frames ∧ lo ≤ R.locals) {nx a bb d w len pc pc' : Nat} {cv : Int} {L st L' st' : List ZV} {S S' : Sh} {M M' : Me} {h h' : Ml} {cells slots : Nat} {q : Jvm.ClassFile.Cond} {off : Int} (hd : decode cc pc = .ok (.ifCond q off, len)) (hnx : pc + len = nx) (hk : zchk own nL isI ret fr lo pc len (.ifCond q off) a bb d cv w = true) (hst : zbr sc (.ifCond q off, nx, a, bb, d, cv, w) L st S M h = some (pc', L', st', S', M', h')) (hrm : cells + (S'.length - S.length) ≤ R.cells ∧ slots + (zsz S' - zsz S) ≤ R.slots) (kk : ZN p l e R s m args below meth c Q dC dI cI cO b base nL pc' L' st' S' M' h' (cells + (S'.length - S.length)) (slots + (zsz S' - zsz S))) : ZN p l e R s m args below meth c Q dC dI cI cO b base nL pc L st S M h cells slots := by
  obtain ⟨hx, hb, hml, hown, hts, hK, hin, hbs⟩ := hC
  obtain ⟨h1, h2⟩ := zlen1 hk
  have h2 := of_decide_eq_true h2
  subst h1; subst hnx
  simp only [zbr] at hst
  split at hst
  · next x r =>
    split at hst
    · cases hst
      intro hz0 H locs ls hO hS hL hr
      have hx1 : zrn x := hr (.inl x) List.mem_cons_self
      refine lv_if_eq hx hb hd h2 (fun g => ?_) (fun g => ?_)
      · rw [if_pos ((zI_eq0 hx1).mp g)] at kk
        exact zkk kk hz0 H locs ls hO hS hL (fun v hv => hr v (List.mem_cons_of_mem _ hv))
      · rw [if_neg (fun q => g ((zI_eq0 hx1).mpr q))] at kk
        exact zkk kk hz0 H locs ls hO hS hL (fun v hv => hr v (List.mem_cons_of_mem _ hv))
    · cases hst
      intro hz0 H locs ls hO hS hL hr
      have hx1 : zrn x := hr (.inl x) List.mem_cons_self
      refine lv_if_ne hx hb hd h2 (fun g => ?_) (fun g => ?_)
      · rw [if_pos (fun q => g ((zI_eq0 hx1).mpr q))] at kk
        exact zkk kk hz0 H locs ls hO hS hL (fun v hv => hr v (List.mem_cons_of_mem _ hv))
      · rw [if_neg (fun q => q ((zI_eq0 hx1).mp g))] at kk
        exact zkk kk hz0 H locs ls hO hS hL (fun v hv => hr v (List.mem_cons_of_mem _ hv))
    · cases hst
      intro hz0 H locs ls hO hS hL hr
      have hx1 : zrn x := hr (.inl x) List.mem_cons_self
      refine lv_if_lt hx hb hd h2 (fun g => ?_) (fun g => ?_)
      · rw [if_pos ((zI_lt0 hx1).mp g)] at kk
        exact zkk kk hz0 H locs ls hO hS hL (fun v hv => hr v (List.mem_cons_of_mem _ hv))
      · rw [if_neg (fun q => g ((zI_lt0 hx1).mpr q))] at kk
        exact zkk kk hz0 H locs ls hO hS hL (fun v hv => hr v (List.mem_cons_of_mem _ hv))
    · cases hst
      intro hz0 H locs ls hO hS hL hr
      have hx1 : zrn x := hr (.inl x) List.mem_cons_self
      refine lv_if_ge hx hb hd h2 (fun g => ?_) (fun g => ?_)
      · rw [if_pos ((zI_ge0 hx1).mp g)] at kk
        exact zkk kk hz0 H locs ls hO hS hL (fun v hv => hr v (List.mem_cons_of_mem _ hv))
      · rw [if_neg (fun q => g ((zI_ge0 hx1).mpr q))] at kk
        exact zkk kk hz0 H locs ls hO hS hL (fun v hv => hr v (List.mem_cons_of_mem _ hv))
    · cases hst
      intro hz0 H locs ls hO hS hL hr
      have hx1 : zrn x := hr (.inl x) List.mem_cons_self
      refine lv_if_gt hx hb hd h2 (fun g => ?_) (fun g => ?_)
      · rw [if_pos ((zI_gt0 hx1).mp g)] at kk
        exact zkk kk hz0 H locs ls hO hS hL (fun v hv => hr v (List.mem_cons_of_mem _ hv))
      · rw [if_neg (fun q => g ((zI_gt0 hx1).mpr q))] at kk
        exact zkk kk hz0 H locs ls hO hS hL (fun v hv => hr v (List.mem_cons_of_mem _ hv))
    · cases hst
      intro hz0 H locs ls hO hS hL hr
      have hx1 : zrn x := hr (.inl x) List.mem_cons_self
      refine lv_if_le hx hb hd h2 (fun g => ?_) (fun g => ?_)
      · rw [if_pos ((zI_le0 hx1).mp g)] at kk
        exact zkk kk hz0 H locs ls hO hS hL (fun v hv => hr v (List.mem_cons_of_mem _ hv))
      · rw [if_neg (fun q => g ((zI_le0 hx1).mpr q))] at kk
        exact zkk kk hz0 H locs ls hO hS hL (fun v hv => hr v (List.mem_cons_of_mem _ hv))
  · cases hst

set_option maxHeartbeats 1000000 in
theorem zs_idiv (hC : ZCx p s m args meth c own cc nL isI dC dI cI cO base) (hX : zSc sc b base s) (hR : fr ≤ R.frames ∧ lo ≤ R.locals) {nx a bb d w len pc pc' : Nat} {cv : Int} {L st L' st' : List ZV} {S S' : Sh} {M M' : Me} {h h' : Ml} {cells slots : Nat} (hd : decode cc pc = .ok (.idiv, len)) (hnx : pc + len = nx) (hk : zchk own nL isI ret fr lo pc len (.idiv) a bb d cv w = true) (hst : zbr sc (.idiv, nx, a, bb, d, cv, w) L st S M h = some (pc', L', st', S', M', h')) (hrm : cells + (S'.length - S.length) ≤ R.cells ∧ slots + (zsz S' - zsz S) ≤ R.slots) (kk : ZN p l e R s m args below meth c Q dC dI cI cO b base nL pc' L' st' S' M' h' (cells + (S'.length - S.length)) (slots + (zsz S' - zsz S))) : ZN p l e R s m args below meth c Q dC dI cI cO b base nL pc L st S M h cells slots := by
  obtain ⟨hx, hb, hml, hown, hts, hK, hin, hbs⟩ := hC
  have h1 := Nat.eq_of_beq_eq_true hk
  subst h1; subst hnx
  simp only [zbr] at hst
  split at hst
  · next y x r =>
    split at hst
    · next hn =>
      cases hst
      intro hz0 H locs ls hO hS hL hr
      have hx1 : zrn x := hr (.inl x) (List.mem_cons_of_mem _ List.mem_cons_self)
      have hy1 : zrn y := hr (.inl y) List.mem_cons_self
      obtain ⟨e1, e3⟩ := zI_div hx1 hy1 hn.1 hn.2
      refine lv_idiv hx hb hd (fun g => ?_) ?_
      · have := (zI_eq0 hy1).mp g
        omega
      · rw [← e1]
        exact zkk kk hz0 H locs ls hO hS hL (fun v hv => by
          rcases List.mem_cons.mp hv with e2 | e2
          · subst e2; exact e3
          · exact hr v (List.mem_cons_of_mem _ (List.mem_cons_of_mem _ e2)))
    · cases hst
  · cases hst

set_option maxHeartbeats 1000000 in
theorem zs_irem (hC : ZCx p s m args meth c own cc nL isI dC dI cI cO base) (hX : zSc sc b base s) (hR : fr ≤ R.frames ∧ lo ≤ R.locals) {nx a bb d w len pc pc' : Nat} {cv : Int} {L st L' st' : List ZV} {S S' : Sh} {M M' : Me} {h h' : Ml} {cells slots : Nat} (hd : decode cc pc = .ok (.irem, len)) (hnx : pc + len = nx) (hk : zchk own nL isI ret fr lo pc len (.irem) a bb d cv w = true) (hst : zbr sc (.irem, nx, a, bb, d, cv, w) L st S M h = some (pc', L', st', S', M', h')) (hrm : cells + (S'.length - S.length) ≤ R.cells ∧ slots + (zsz S' - zsz S) ≤ R.slots) (kk : ZN p l e R s m args below meth c Q dC dI cI cO b base nL pc' L' st' S' M' h' (cells + (S'.length - S.length)) (slots + (zsz S' - zsz S))) : ZN p l e R s m args below meth c Q dC dI cI cO b base nL pc L st S M h cells slots := by
  obtain ⟨hx, hb, hml, hown, hts, hK, hin, hbs⟩ := hC
  have h1 := Nat.eq_of_beq_eq_true hk
  subst h1; subst hnx
  simp only [zbr] at hst
  split at hst
  · next y x r =>
    split at hst
    · next hn =>
      cases hst
      intro hz0 H locs ls hO hS hL hr
      have hx1 : zrn x := hr (.inl x) (List.mem_cons_of_mem _ List.mem_cons_self)
      have hy1 : zrn y := hr (.inl y) List.mem_cons_self
      obtain ⟨e1, e3⟩ := zI_rem hx1 hy1 hn.1 hn.2
      refine lv_irem hx hb hd (fun g => ?_) ?_
      · have := (zI_eq0 hy1).mp g
        omega
      · rw [← e1]
        exact zkk kk hz0 H locs ls hO hS hL (fun v hv => by
          rcases List.mem_cons.mp hv with e2 | e2
          · subst e2; exact e3
          · exact hr v (List.mem_cons_of_mem _ (List.mem_cons_of_mem _ e2)))
    · cases hst
  · cases hst

set_option maxHeartbeats 1000000 in
theorem zs_iaload (hC : ZCx p s m args meth c own cc nL isI dC dI cI cO base) (hX : zSc sc b base s) (hR : fr ≤ R.frames ∧ lo ≤ R.locals) {nx a bb d w len pc pc' : Nat} {cv : Int} {L st L' st' : List ZV} {S S' : Sh} {M M' : Me} {h h' : Ml} {cells slots : Nat} (hd : decode cc pc = .ok (.iaload, len)) (hnx : pc + len = nx) (hk : zchk own nL isI ret fr lo pc len (.iaload) a bb d cv w = true) (hst : zbr sc (.iaload, nx, a, bb, d, cv, w) L st S M h = some (pc', L', st', S', M', h')) (hrm : cells + (S'.length - S.length) ≤ R.cells ∧ slots + (zsz S' - zsz S) ≤ R.slots) (kk : ZN p l e R s m args below meth c Q dC dI cI cO b base nL pc' L' st' S' M' h' (cells + (S'.length - S.length)) (slots + (zsz S' - zsz S))) : ZN p l e R s m args below meth c Q dC dI cI cO b base nL pc L st S M h cells slots := by
  obtain ⟨hx, hb, hml, hown, hts, hK, hin, hbs⟩ := hC
  have h1 := Nat.eq_of_beq_eq_true hk
  subst h1; subst hnx
  simp only [zbr] at hst
  split at hst
  · next j k r =>
    split at hst
    · next cl n rs hz =>
      split at hst
      · next hn =>
        obtain ⟨hn1, hn2, hn3⟩ := hn
        subst hn1
        cases hst
        intro hz0 H locs ls hO hS hL hr
        have hj : zrn j := hr (.inl j) List.mem_cons_self
        have hw := (zws_get (cI := cI) (cO := cO) (base := base) (M := M) (h := h) hz).1
        refine va_iald (cA := cI) (n := n) (f := fun j => Int32.ofInt (M k j)) hx hb hK.1 hO.1 k 0 hw rfl (zI_vp hj hn2 hn3) hd ?_
        rw [zI_cl hj]
        exact zkk kk hz0 H locs ls hO hS hL (fun v hv => by
          rcases List.mem_cons.mp hv with e2 | e2
          · subst e2; exact hO.2.1 _ _
          · exact hr v (List.mem_cons_of_mem _ (List.mem_cons_of_mem _ e2)))
      · cases hst
    · cases hst
  · next j r =>
    split at hst
    · next n xs =>
      split at hst
      · next hn =>
        cases hst
        obtain ⟨hXX, hbl, hbb, hxs, hn9⟩ := hX
        intro hz0 H locs ls hO hS hL hr
        have hj : zrn j := hr (.inl j) List.mem_cons_self
        refine va_sld hx hb hXX hbl (Nat.not_le.mpr hbb) hS (zI_vp hj hn.1 hn.2) hd ?_
        rw [zI_cl hj]
        exact zkk kk hz0 H locs ls hO hS hL (fun v hv => by
          rcases List.mem_cons.mp hv with e2 | e2
          · subst e2; exact hxs _
          · exact hr v (List.mem_cons_of_mem _ (List.mem_cons_of_mem _ e2)))
      · cases hst
    · cases hst
  · cases hst

theorem zce100 {M : Me} {h : Ml} {k n : Nat} {rs : List (Option Nat)} : zce cI cO base M h k (100, n, rs) = .inl (cI, n, .inl (fun j => Int32.ofInt (M k j))) := rfl
theorem zce101 {M : Me} {h : Ml} {k n : Nat} {rs : List (Option Nat)} : zce cI cO base M h k (101, n, rs) = .inl (cO, n, .inr (.inr (.inr (.inr (fun j => zvo base (zgt rs j)))))) := rfl
set_option maxHeartbeats 1000000 in
theorem zs_iastore (hC : ZCx p s m args meth c own cc nL isI dC dI cI cO base) (hX : zSc sc b base s) (hR : fr ≤ R.frames ∧ lo ≤ R.locals) {nx a bb d w len pc pc' : Nat} {cv : Int} {L st L' st' : List ZV} {S S' : Sh} {M M' : Me} {h h' : Ml} {cells slots : Nat} (hd : decode cc pc = .ok (.iastore, len)) (hnx : pc + len = nx) (hk : zchk own nL isI ret fr lo pc len (.iastore) a bb d cv w = true) (hst : zbr sc (.iastore, nx, a, bb, d, cv, w) L st S M h = some (pc', L', st', S', M', h')) (hrm : cells + (S'.length - S.length) ≤ R.cells ∧ slots + (zsz S' - zsz S) ≤ R.slots) (kk : ZN p l e R s m args below meth c Q dC dI cI cO b base nL pc' L' st' S' M' h' (cells + (S'.length - S.length)) (slots + (zsz S' - zsz S))) : ZN p l e R s m args below meth c Q dC dI cI cO b base nL pc L st S M h cells slots := by
  obtain ⟨hx, hb, hml, hown, hts, hK, hin, hbs⟩ := hC
  have h1 := Nat.eq_of_beq_eq_true hk
  subst h1; subst hnx
  simp only [zbr] at hst
  split at hst
  · next x j k r =>
    split at hst
    · next cl n rs hz =>
      split at hst
      · next hn =>
        obtain ⟨hn1, hn2, hn3⟩ := hn
        subst hn1
        cases hst
        intro hz0 H locs ls hO hS hL hr
        have hx1 : zrn x := hr (.inl x) List.mem_cons_self
        have hj : zrn j := hr (.inl j) (List.mem_cons_of_mem _ List.mem_cons_self)
        obtain ⟨hw, hkl⟩ := zws_get (cI := cI) (cO := cO) (base := base) (M := M) (h := h) hz
        refine va_iast (cA := cI) (n := n) (f := fun j => Int32.ofInt (M k j)) hx hb hK.1 hO.1 zD hS k 0 hw rfl (zI_vp hj hn2 hn3) hd (fun H1 locs1 hP1 _ hS1 => ?_)
        rw [zI_cl hj] at hP1
        have e3 : (upd (fun j => Int32.ofInt (M k j)) j.toNat (Int32.ofInt x)) = fun i => Int32.ofInt (upd2 M k j.toNat x k i) := by
          funext i
          unfold upd
          by_cases hi : i = j.toNat
          · subst hi
            rw [if_pos rfl, upd2_at]
          · rw [if_neg hi, upd2_off hi]
        rw [e3, ← zce100 (cO := cO) (base := base) (h := h) (rs := rs)] at hP1
        have hO1 := hO.putM hkl (fun a ha => upd2_ne ha) (fun _ _ => rfl) (fun i => by
          by_cases hi : i = j.toNat
          · subst hi; rw [upd2_at]; exact hx1
          · rw [upd2_off hi]; exact hO.2.1 k i) hP1
        rw [zset_self hz] at hO1
        exact zkk kk hz0 H1 locs1 ls hO1 hS1 hL (fun v hv => hr v (List.mem_cons_of_mem _ (List.mem_cons_of_mem _ (List.mem_cons_of_mem _ hv))))
      · cases hst
    · cases hst
  · cases hst

set_option maxHeartbeats 1000000 in
theorem zs_aaload (hC : ZCx p s m args meth c own cc nL isI dC dI cI cO base) (hX : zSc sc b base s) (hR : fr ≤ R.frames ∧ lo ≤ R.locals) {nx a bb d w len pc pc' : Nat} {cv : Int} {L st L' st' : List ZV} {S S' : Sh} {M M' : Me} {h h' : Ml} {cells slots : Nat} (hd : decode cc pc = .ok (.aaload, len)) (hnx : pc + len = nx) (hk : zchk own nL isI ret fr lo pc len (.aaload) a bb d cv w = true) (hst : zbr sc (.aaload, nx, a, bb, d, cv, w) L st S M h = some (pc', L', st', S', M', h')) (hrm : cells + (S'.length - S.length) ≤ R.cells ∧ slots + (zsz S' - zsz S) ≤ R.slots) (kk : ZN p l e R s m args below meth c Q dC dI cI cO b base nL pc' L' st' S' M' h' (cells + (S'.length - S.length)) (slots + (zsz S' - zsz S))) : ZN p l e R s m args below meth c Q dC dI cI cO b base nL pc L st S M h cells slots := by
  obtain ⟨hx, hb, hml, hown, hts, hK, hin, hbs⟩ := hC
  have h1 := Nat.eq_of_beq_eq_true hk
  subst h1; subst hnx
  simp only [zbr] at hst
  split at hst
  · next j k r =>
    split at hst
    · next cl n rs hz =>
      split at hst
      · next hn =>
        obtain ⟨hn1, hn2, hn3⟩ := hn
        subst hn1
        split at hst
        · next q hz2 =>
          cases hst
          intro hz0 H locs ls hO hS hL hr
          have hj : zrn j := hr (.inl j) List.mem_cons_self
          have hw := (zws_get (cI := cI) (cO := cO) (base := base) (M := M) (h := h) hz).1
          refine va_aldq (cA := cO) (C := zOff) (n := n) (f := fun j => zvo base (zgt rs j)) hx hb hK.1 hO.1 k 1 hw rfl (zI_vp hj hn2 hn3) hd ?_
          rw [zI_cl hj, hz2]
          exact zkk kk hz0 H locs ls hO hS hL (fun v hv => by
            rcases List.mem_cons.mp hv with e2 | e2
            · subst e2; exact trivial
            · exact hr v (List.mem_cons_of_mem _ (List.mem_cons_of_mem _ e2)))
        · cases hst
      · cases hst
    · cases hst
  · cases hst

set_option maxHeartbeats 1000000 in
theorem zs_aastore (hC : ZCx p s m args meth c own cc nL isI dC dI cI cO base) (hX : zSc sc b base s) (hR : fr ≤ R.frames ∧ lo ≤ R.locals) {nx a bb d w len pc pc' : Nat} {cv : Int} {L st L' st' : List ZV} {S S' : Sh} {M M' : Me} {h h' : Ml} {cells slots : Nat} (hd : decode cc pc = .ok (.aastore, len)) (hnx : pc + len = nx) (hk : zchk own nL isI ret fr lo pc len (.aastore) a bb d cv w = true) (hst : zbr sc (.aastore, nx, a, bb, d, cv, w) L st S M h = some (pc', L', st', S', M', h')) (hrm : cells + (S'.length - S.length) ≤ R.cells ∧ slots + (zsz S' - zsz S) ≤ R.slots) (kk : ZN p l e R s m args below meth c Q dC dI cI cO b base nL pc' L' st' S' M' h' (cells + (S'.length - S.length)) (slots + (zsz S' - zsz S))) : ZN p l e R s m args below meth c Q dC dI cI cO b base nL pc L st S M h cells slots := by
  obtain ⟨hx, hb, hml, hown, hts, hK, hin, hbs⟩ := hC
  have h1 := Nat.eq_of_beq_eq_true hk
  subst h1; subst hnx
  simp only [zbr] at hst
  split at hst
  · next q j k r =>
    split at hst
    · next cl n rs hz =>
      split at hst
      · next cq nq rq hzq =>
        split at hst
        · next hn =>
          obtain ⟨hn1, hn2, hn3, hn4, hn5⟩ := hn
          subst hn1; subst hn4
          cases hst
          have g8 : zsz (S.set k (101, n, rs.set j.toNat (some q))) = zsz S := zsz_set hz rfl
          rw [List.length_set, g8] at kk
          intro hz0 H locs ls hO hS hL hr
          have hj : zrn j := hr (.inl j) (List.mem_cons_of_mem _ List.mem_cons_self)
          obtain ⟨hw, hkl⟩ := zws_get (cI := cI) (cO := cO) (base := base) (M := M) (h := h) hz
          have hwq := (zws_get (cI := cI) (cO := cO) (base := base) (M := M) (h := h) hzq).1
          rw [zce_obj (by omega)] at hwq
          refine va_astq (cA := cO) (r := (RX3, TX3, 11)) (n := n) (f := fun j => zvo base (zgt rs j)) hx hb hK.1 hO.1 zD hS k 1 q 3 hw rfl hwq rfl (zI_vp hj hn2 hn3) hd (fun H1 locs1 hP1 _ hS1 => ?_)
          rw [zI_cl hj] at hP1
          have e3 : (va_up (fun j => zvo base (zgt rs j)) j.toNat (some (base + q))) = fun i => zvo base (zgt (rs.set j.toNat (some q)) i) := by
            funext i
            unfold va_up
            rw [zgt_eq, List.getElem?_set]
            by_cases hi : i = j.toNat
            · subst hi
              rw [if_pos rfl, if_pos rfl, if_pos hn5]; rfl
            · rw [if_neg hi, if_neg (fun e => hi e.symm), ← zgt_eq]
          rw [e3, ← zce101 (cI := cI) (M := M) (h := h) (k := k)] at hP1
          have hO1 := hO.putM (h' := h) hkl (fun _ _ => rfl) (fun _ _ => rfl) (fun i => hO.2.1 k i) hP1
          exact zkk kk (by rw [List.length_set]; exact hz0) H1 locs1 ls hO1 hS1 hL (fun v hv => hr v (List.mem_cons_of_mem _ (List.mem_cons_of_mem _ (List.mem_cons_of_mem _ hv))))
        · cases hst
      · cases hst
    · cases hst
  · cases hst

set_option maxHeartbeats 1000000 in
theorem zs_tableswitch (hC : ZCx p s m args meth c own cc nL isI dC dI cI cO base) (hX : zSc sc b base s) (hR : fr ≤ R.frames ∧ lo ≤ R.locals) {nx a bb d w len pc pc' : Nat} {cv : Int} {L st L' st' : List ZV} {S S' : Sh} {M M' : Me} {h h' : Ml} {cells slots : Nat} {df lw hi : Int} {offs : Array Int} (hd : decode cc pc = .ok (.tableswitch df lw hi offs, len)) (hnx : pc + len = nx) (hk : zchk own nL isI ret fr lo pc len (.tableswitch df lw hi offs) a bb d cv w = true) (hst : zbr sc (.tableswitch df lw hi offs, nx, a, bb, d, cv, w) L st S M h = some (pc', L', st', S', M', h')) (hrm : cells + (S'.length - S.length) ≤ R.cells ∧ slots + (zsz S' - zsz S) ≤ R.slots) (kk : ZN p l e R s m args below meth c Q dC dI cI cO b base nL pc' L' st' S' M' h' (cells + (S'.length - S.length)) (slots + (zsz S' - zsz S))) : ZN p l e R s m args below meth c Q dC dI cI cO b base nL pc L st S M h cells slots := by
  obtain ⟨hx, hb, hml, hown, hts, hK, hin, hbs⟩ := hC
  simp only [zchk, Bool.and_eq_true] at hk
  obtain ⟨⟨h1, h2⟩, h3⟩ := hk
  have h1 := of_decide_eq_true h1
  have h2 := of_decide_eq_true h2
  subst h1
  simp only [zbr] at hst
  split at hst
  · next x r =>
    split at hst
    · next hn =>
      cases hst
      intro hz0 H locs ls hO hS hL hr
      have hx1 : zrn x := hr (.inl x) List.mem_cons_self
      refine lv_tableOut hx hb hd (by rw [zI_in hx1]; exact hn) (Int.toNat_of_nonneg h2).symm ?_
      exact zkk kk hz0 H locs ls hO hS hL (fun v hv => hr v (List.mem_cons_of_mem _ hv))
    · next hn =>
      split at hst
      · next off hoff =>
        cases hst
        intro hz0 H locs ls hO hS hL hr
        have hx1 : zrn x := hr (.inl x) List.mem_cons_self
        rw [zgt_eq] at hoff
        have h4 := of_decide_eq_true (List.all_eq_true.mp h3 off (List.mem_of_getElem? hoff))
        refine lv_tableIn hx hb hd (off := off) (by rw [zI_in hx1]; omega) (by rw [zI_in hx1]; omega) (by rw [zI_in hx1, ← Array.getElem?_toList]; exact hoff) (Int.toNat_of_nonneg h4).symm ?_
        exact zkk kk hz0 H locs ls hO hS hL (fun v hv => hr v (List.mem_cons_of_mem _ hv))
      · cases hst
  · cases hst

set_option maxHeartbeats 1000000 in
theorem zs_acopy (hC : ZCx p s m args meth c own cc nL isI dC dI cI cO base) (hX : zSc sc b base s) (hR : fr ≤ R.frames ∧ lo ≤ R.locals) {nx a bb d w len pc pc' : Nat} {cv : Int} {L st L' st' : List ZV} {S S' : Sh} {M M' : Me} {h h' : Ml} {cells slots : Nat} {k : Nat} (hd : decode cc pc = .ok (.invokestatic k, len)) (hnx : pc + len = nx) (hk : zchk own nL isI ret fr lo pc len (.invokestatic k) a bb d cv w = true) (hst : zbr sc (.invokestatic k, nx, a, bb, d, cv, w) L st S M h = some (pc', L', st', S', M', h')) (hrm : cells + (S'.length - S.length) ≤ R.cells ∧ slots + (zsz S' - zsz S) ≤ R.slots) (kk : ZN p l e R s m args below meth c Q dC dI cI cO b base nL pc' L' st' S' M' h' (cells + (S'.length - S.length)) (slots + (zsz S' - zsz S))) : ZN p l e R s m args below meth c Q dC dI cI cO b base nL pc L st S M h cells slots := by
  obtain ⟨hx, hb, hml, hown, hts, hK, hin, hbs⟩ := hC
  obtain ⟨h1, h2⟩ := zlen1 hk
  subst h1; subst hnx
  simp only [zbr] at hst
  split at hst
  · split at hst
    · next n dp k2 sp k1 r =>
      simp only [Bool.and_eq_true] at h2
      obtain ⟨⟨h2, h3⟩, h4⟩ := h2
      have h2 := of_decide_eq_true h2
      have h3 := of_decide_eq_true h3
      have h4 := zin_mem h4
      split at hst
      · next c1 n1 r1 hz1 =>
        split at hst
        · next c2 n2 r2 hz2 =>
          split at hst
          · next hn =>
            obtain ⟨hn1, hn2, hn3, hn4, hn5, hn6, hn7, hn8⟩ := hn
            subst hn1; subst hn2
            cases hst
            intro hz0 H locs ls hO hS hL hr
            have rn : zrn n := hr (.inl n) List.mem_cons_self
            have rd : zrn dp := hr (.inl dp) (List.mem_cons_of_mem _ List.mem_cons_self)
            have rs : zrn sp := hr (.inl sp) (List.mem_cons_of_mem _ (List.mem_cons_of_mem _ (List.mem_cons_of_mem _ List.mem_cons_self)))
            have hw1 := (zws_get (cI := cI) (cO := cO) (base := base) (M := M) (h := h) hz1).1
            obtain ⟨hw2, hkl⟩ := zws_get (cI := cI) (cO := cO) (base := base) (M := M) (h := h) hz2
            refine va_copyi (own := own) (c0 := cI) (c1 := cI) (n0 := n1) (n1 := n2) (f := fun j => Int32.ofInt (M k1 j)) (g := fun j => Int32.ofInt (M k2 j)) (ty := .int) hx hb (by rw [hml]; exact hL.size.symm) hown (hts _ h4) (hts _ zg12) (hts _ zg11) (hts _ zg1) hK.1 hO.1 zD hS k1 k2 0 0 hw1 hw2 rfl rfl rfl (by rw [zI_lt0 rs]; omega) (by rw [zI_lt0 rd]; omega) (by rw [zI_lt0 rn]; omega) (by rw [zI_cl rs, zI_cl rn]; omega) (by rw [zI_cl rd, zI_cl rn]; omega) (fun i _ => rfl) (by omega) (by rw [zv_wt]; show zwt st' + 18 ≤ _; omega) hd (fun H1 locs1 hP1 _ hS1 => ?_)
            rw [zI_cl rs, zI_cl rd, zI_cl rn] at hP1
            have e3 : va_cpy (fun j => Int32.ofInt (M k1 j)) (fun j => Int32.ofInt (M k2 j)) sp.toNat dp.toNat n.toNat = fun i => Int32.ofInt (cpy2 M k1 k2 sp.toNat dp.toNat n.toNat k2 i) := by
              funext i
              unfold va_cpy cpy2
              by_cases hi : dp.toNat ≤ i ∧ i < dp.toNat + n.toNat
              · rw [if_pos hi, if_pos ⟨rfl, hi.1, hi.2⟩]
              · rw [if_neg hi, if_neg (fun q => hi q.2)]
            rw [e3, ← zce100 (cO := cO) (base := base) (h := h) (rs := r2)] at hP1
            have hO1 := hO.putM hkl (fun a ha => by
              funext i
              unfold cpy2
              rw [if_neg (fun q => ha q.1)]) (fun _ _ => rfl) (fun i => by
              unfold cpy2
              split
              · exact hO.2.1 _ _
              · exact hO.2.1 _ _) hP1
            rw [zset_self hz2] at hO1
            exact zkk kk hz0 H1 locs1 ls hO1 hS1 hL (fun v hv => hr v (List.mem_cons_of_mem _ (List.mem_cons_of_mem _ (List.mem_cons_of_mem _ (List.mem_cons_of_mem _ (List.mem_cons_of_mem _ hv))))))
          · cases hst
        · cases hst
      · cases hst
    · cases hst
  · cases hst

end ZCH
