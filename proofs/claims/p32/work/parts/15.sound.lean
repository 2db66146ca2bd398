theorem run_succ {n : Nat} {T : CT} {sc : Sc} {pc : Nat} {L st : List ZV} {S : Sh} {M : Me} {h : Ml} : run (n + 1) T sc pc L st S M h = (match look2 T pc with
    | none => none
    | some e => match zst sc e L st S M h with
      | some (pc', L', st', S', M', h') => run n T sc pc' L' st' S' M' h'
      | none => match zbr sc e L st S M h with
        | some (pc', L', st', S', M', h') => run n T sc pc' L' st' S' M' h'
        | none => match zca e st S with
          | some (T', L0, nx, r) => (match run n T' sc 0 L0 [] S M h with
            | some (v, S', M', h') => run n T sc nx L (zpush v r) S' M' h'
            | none => none)
          | none => match zre e st with
            | some v => some (v, S, M, h)
            | none => none) := rfl
/-- what one row of the run can be -/
theorem run_cases {n : Nat} {T : CT} {sc : Sc} {pc : Nat} {L st : List ZV} {S : Sh} {M : Me} {h : Ml} {z : Zr} (hr : run (n + 1) T sc pc L st S M h = some z) : ∃ e, look2 T pc = some e ∧
    ((∃ pc' L' st' S' M' h', (zst sc e L st S M h = some (pc', L', st', S', M', h') ∨ (zst sc e L st S M h = none ∧ zbr sc e L st S M h = some (pc', L', st', S', M', h'))) ∧ run n T sc pc' L' st' S' M' h' = some z) ∨
     (zst sc e L st S M h = none ∧ zbr sc e L st S M h = none ∧ ∃ T' L0 nx r v S' M' h', zca e st S = some (T', L0, nx, r) ∧ run n T' sc 0 L0 [] S M h = some (v, S', M', h') ∧ run n T sc nx L (zpush v r) S' M' h' = some z) ∨
     (zst sc e L st S M h = none ∧ zbr sc e L st S M h = none ∧ zca e st S = none ∧ ∃ v, zre e st = some v ∧ z = (v, S, M, h))) := by
  rw [run_succ] at hr
  split at hr
  · cases hr
  · next e he =>
    refine ⟨e, he, ?_⟩
    split at hr
    · next pc' L' st' S' M' h' hz => exact Or.inl ⟨pc', L', st', S', M', h', Or.inl hz, hr⟩
    · next hz =>
      split at hr
      · next pc' L' st' S' M' h' hz2 => exact Or.inl ⟨pc', L', st', S', M', h', Or.inr ⟨hz, hz2⟩, hr⟩
      · next hz2 =>
        split at hr
        · next T' L0 nx r hz3 =>
          split at hr
          · next v S' M' h' hz4 => exact Or.inr (Or.inl ⟨hz, hz2, T', L0, nx, r, v, S', M', h', hz3, hz4, hr⟩)
          · cases hr
        · next hz3 =>
          split at hr
          · next v hz4 => exact Or.inr (Or.inr ⟨hz, hz2, hz3, v, hz4, (Option.some.inj hr).symm⟩)
          · cases hr
theorem run_st {n : Nat} {T : CT} {sc : Sc} {pc : Nat} {L st : List ZV} {S : Sh} {M : Me} {h : Ml} {e : En} {pc' : Nat} {L' st' : List ZV} {S' : Sh} {M' : Me} {h' : Ml} (he : look2 T pc = some e) (hz : zst sc e L st S M h = some (pc', L', st', S', M', h')) : run (n + 1) T sc pc L st S M h = run n T sc pc' L' st' S' M' h' := by
  rw [run_succ, he]; dsimp only; rw [hz]
theorem run_br {n : Nat} {T : CT} {sc : Sc} {pc : Nat} {L st : List ZV} {S : Sh} {M : Me} {h : Ml} {e : En} {pc' : Nat} {L' st' : List ZV} {S' : Sh} {M' : Me} {h' : Ml} (he : look2 T pc = some e) (hz0 : zst sc e L st S M h = none) (hz : zbr sc e L st S M h = some (pc', L', st', S', M', h')) : run (n + 1) T sc pc L st S M h = run n T sc pc' L' st' S' M' h' := by
  rw [run_succ, he]; dsimp only; rw [hz0]; dsimp only; rw [hz]
theorem run_ca {n : Nat} {T : CT} {sc : Sc} {pc : Nat} {L st : List ZV} {S : Sh} {M : Me} {h : Ml} {e : En} {T' : CT} {L0 r : List ZV} {nx : Nat} {v : Option ZV} {S' : Sh} {M' : Me} {h' : Ml} (he : look2 T pc = some e) (hz0 : zst sc e L st S M h = none) (hz1 : zbr sc e L st S M h = none) (hz : zca e st S = some (T', L0, nx, r)) (hr : run n T' sc 0 L0 [] S M h = some (v, S', M', h')) : run (n + 1) T sc pc L st S M h = run n T sc nx L (zpush v r) S' M' h' := by
  rw [run_succ, he]; dsimp only; rw [hz0]; dsimp only; rw [hz1]; dsimp only; rw [hz]; dsimp only; rw [hr]
theorem run_re {n : Nat} {T : CT} {sc : Sc} {pc : Nat} {L st : List ZV} {S : Sh} {M : Me} {h : Ml} {e : En} {v : Option ZV} (he : look2 T pc = some e) (hz0 : zst sc e L st S M h = none) (hz1 : zbr sc e L st S M h = none) (hz2 : zca e st S = none) (hz : zre e st = some v) : run (n + 1) T sc pc L st S M h = some (v, S, M, h) := by
  rw [run_succ, he]; dsimp only; rw [hz0]; dsimp only; rw [hz1]; dsimp only; rw [hz2]; dsimp only; rw [hz]
theorem run_up1 : ∀ {n : Nat} {T : CT} {sc : Sc} {pc : Nat} {L st : List ZV} {S : Sh} {M : Me} {h : Ml} {z : Zr}, run n T sc pc L st S M h = some z → run (n + 1) T sc pc L st S M h = some z := by
  intro n
  induction n with
  | zero => intro T sc pc L st S M h z hr; cases hr
  | succ n ih =>
    intro T sc pc L st S M h z hr
    obtain ⟨e, he, h1 | h1 | h1⟩ := run_cases hr
    · obtain ⟨pc', L', st', S', M', h', hz, h2⟩ := h1
      rcases hz with hz | ⟨hz0, hz⟩
      · rw [run_st he hz]; exact ih h2
      · rw [run_br he hz0 hz]; exact ih h2
    · obtain ⟨hz0, hz1, T', L0, nx, r, v, S', M', h', hz, h2, h3⟩ := h1
      rw [run_ca he hz0 hz1 hz (ih h2)]
      exact ih h3
    · obtain ⟨hz0, hz1, hz2, v, hz, rfl⟩ := h1
      rw [run_re he hz0 hz1 hz2 hz]
theorem run_up {n k : Nat} {T : CT} {sc : Sc} {pc : Nat} {L st : List ZV} {S : Sh} {M : Me} {h : Ml} {z : Zr} (hr : run n T sc pc L st S M h = some z) : run (n + k) T sc pc L st S M h = some z := by
  induction k with
  | zero => exact hr
  | succ k ih => exact run_up1 ih
theorem run_mono : ∀ {n : Nat} {T : CT} {sc : Sc} {pc : Nat} {L st : List ZV} {S : Sh} {M : Me} {h : Ml} {v : Option ZV} {S' : Sh} {M' : Me} {h' : Ml}, run n T sc pc L st S M h = some (v, S', M', h') → S.length ≤ S'.length ∧ zsz S ≤ zsz S' := by
  intro n
  induction n with
  | zero => intro T sc pc L st S M h v S' M' h' hr; cases hr
  | succ n ih =>
    intro T sc pc L st S M h v S' M' h' hr
    obtain ⟨⟨i, nx, a, bb, d, cv, w⟩, he, h1 | h1 | h1⟩ := run_cases hr
    · obtain ⟨pc1, L1, st1, S1, M1, h1, hz, h2⟩ := h1
      have g := ih h2
      rcases hz with hz | ⟨hz0, hz⟩
      · have := zst_mono hz; omega
      · have := zbr_mono hz; omega
    · obtain ⟨hz0, hz1, T1, L0, nx, r, v1, S1, M1, h1, hz, h2, h3⟩ := h1
      have g := ih h2
      have g2 := ih h3
      omega
    · obtain ⟨hz0, hz1, hz2, v1, hz, h2⟩ := h1
      cases h2
      omega
/-- an end: with this instruction, of this kind -/
def zrt (ret : Option FieldType) (rv : Option ZV) (i : Instr) : Prop := match rv with
  | none => i = .return_ ∧ ret = none
  | some (.inl x) => i = .ireturn ∧ (ret = some .int ∨ (ret = some .boolean ∧ (x = 0 ∨ x = 1)))
  | some (.inr (.inl _)) => i = .lreturn ∧ ret = some .long
  | some (.inr (.inr _)) => False
def ZF (n : Nat) : Prop := ∀ {T : CT} {sc : Sc} {pc : Nat} {L st : List ZV} {S : Sh} {M : Me} {h : Ml} {rv : Option ZV} {S' : Sh} {M' : Me} {h' : Ml}, run n T sc pc L st S M h = some (rv, S', M', h') →
  ∀ {p : Program} {l : Launch} {e : Env} {R : Room} {s : State} {m : MethodId} {args : Array Value} {below : List Frame} {meth : Method} {c : Code} {Q : State → Prop} {dC : Nat → ClassId} {dI : Nat → Nat → Nat} {cI cO : ClassId} {b base : Nat} {own : String} {cc : ByteArray} {nL : Nat} {isI : Bool} {ret : Option FieldType} {fr lo cells slots : Nat},
  ZCx p s m args meth c own cc nL isI dC dI cI cO base → zSc sc b base s → zchkT own cc nL isI ret fr lo T = true → fr ≤ R.frames ∧ lo ≤ R.locals → cells + (S'.length - S.length) ≤ R.cells ∧ slots + (zsz S' - zsz S) ≤ R.slots →
  (∀ (H : Heap) (locs : List Loc) (ls : Array Slot) (pc' : Nat) (i : Instr), WO dC dI cI cO base S' M' h' H → va_S (fun q => base ≤ q) s.heap H locs → decode cc pc' = .ok (i, 1) → zrt ret rv i → (∀ v, rv = some v → zrv v) → W p l e R s m args below meth c H locs (cells + (S'.length - S.length)) (slots + (zsz S' - zsz S)) Q (F0 m pc' ls (rv.map (zv b base)).toList)) →
  ZN p l e R s m args below meth c Q dC dI cI cO b base nL pc L st S M h cells slots
def ZG (n : Nat) : Prop := ∀ {sc : Sc} {k : Nat} {rc : Mr} {as : List ZV} {S : Sh} {M : Me} {h : Ml} {rv : Option ZV} {S' : Sh} {M' : Me} {h' : Ml}, zgt zMRs k = some rc → (zex as).length ≤ rc.2.1 → (∀ v ∈ as, zrv v) → run n rc.1 sc 0 (zpad rc.2.1 (zex as)) [] S M h = some (rv, S', M', h') → ZM sc rc as S M h rv S' M' h'
theorem zre_ok {own : String} {nL : Nat} {isI : Bool} {ret : Option FieldType} {fr lo pc len : Nat} {i : Instr} {nx a bb d w : Nat} {cv : Int} {st : List ZV} {v : Option ZV} {b base : Nat} (hk : zchk own nL isI ret fr lo pc len i a bb d cv w = true) (hr : ∀ u ∈ st, zrv u) (hz : zre (i, nx, a, bb, d, cv, w) st = some v) : len = 1 ∧ zrt ret v i ∧ (∀ u, v = some u → zrv u) ∧ st.map (zv b base) = (v.map (zv b base)).toList := by
  cases i
  case ireturn =>
    obtain ⟨h1, h2⟩ := zlen1 hk
    simp only [zre] at hz
    split at hz
    · next x =>
      split at hz
      · cases hz
        exact ⟨h1, ⟨rfl, Or.inl (of_decide_eq_true h2)⟩, fun u hu => by cases hu; exact hr _ List.mem_cons_self, rfl⟩
      · next d0 =>
        split at hz
        · next hx =>
          cases hz
          refine ⟨h1, ⟨rfl, Or.inr ⟨?_, hx⟩⟩, fun u hu => by cases hu; exact hr _ List.mem_cons_self, rfl⟩
          split at h2
          · next => exact absurd rfl d0
          · exact of_decide_eq_true h2
        · cases hz
    · cases hz
  case lreturn =>
    obtain ⟨h1, h2⟩ := zlen1 hk
    simp only [zre] at hz
    split at hz
    · cases hz
      exact ⟨h1, ⟨rfl, of_decide_eq_true h2⟩, fun u hu => by cases hu; exact trivial, rfl⟩
    · cases hz
  case return_ =>
    obtain ⟨h1, h2⟩ := zlen1 hk
    simp only [zre] at hz
    split at hz
    · cases hz
      exact ⟨h1, ⟨rfl, of_decide_eq_true h2⟩, (fun u hu => by cases hu), rfl⟩
    · cases hz
  all_goals (simp only [zre, reduceCtorEq] at hz)
theorem zF_succ {n : Nat} (hok : ∀ {k : Nat} {r : Mr}, zgt zMRs k = some r → zchkM r = true) (hF : ZF n) (hG : ZG n) : ZF (n + 1) := by
  intro T sc pc L st S M h rv S' M' h' hr p l e R s m args below meth c Q dC dI cI cO b base own cc nL isI ret fr lo cells slots hC hX hT hR hrm hret
  obtain ⟨⟨i, nx, a, bb, d, cv, w⟩, he, h1 | h1 | h1⟩ := run_cases hr
  · obtain ⟨pc1, L1, st1, S1, M1, h1, hz, h2⟩ := h1
    obtain ⟨len, hd, hnx, hk⟩ := zchkT_at hT he
    have hm2 := run_mono h2
    rcases hz with hz | ⟨hz0, hz⟩
    · have hm1 := zst_mono hz
      refine zst_ok hC hX hR hd hnx hk hz (by omega) (hF h2 hC hX hT hR (by omega) (fun H locs ls pc' i' hO hS hd' hrt hrv => ?_))
      have := hret H locs ls pc' i' hO hS hd' hrt hrv
      rw [show cells + (S1.length - S.length) + (S'.length - S1.length) = cells + (S'.length - S.length) by omega, show slots + (zsz S1 - zsz S) + (zsz S' - zsz S1) = slots + (zsz S' - zsz S) by omega]
      exact this
    · have hm1 := zbr_mono hz
      refine zbr_ok hC hX hR hd hnx hk hz (by omega) (hF h2 hC hX hT hR (by omega) (fun H locs ls pc' i' hO hS hd' hrt hrv => ?_))
      have := hret H locs ls pc' i' hO hS hd' hrt hrv
      rw [show cells + (S1.length - S.length) + (S'.length - S1.length) = cells + (S'.length - S.length) by omega, show slots + (zsz S1 - zsz S) + (zsz S' - zsz S1) = slots + (zsz S' - zsz S) by omega]
      exact this
  · obtain ⟨hz0, hz1, T1, L0, nx1, r, v1, S1, M1, h1, hz, h2, h3⟩ := h1
    obtain ⟨len, hd, hnx, hk⟩ := zchkT_at hT he
    have hm1 := run_mono h2
    have hm2 := run_mono h3
    refine zca_ok hC hX hR hd hnx hk hz (fun k rc as hrc hT1 hlen hL0 hra => ⟨hG hrc hlen hra (by rw [hT1, ← hL0]; exact h2), hok hrc⟩) (by omega) hm1.1 (hF h3 hC hX hT hR (by omega) (fun H locs ls pc' i' hO hS hd' hrt hrv => ?_))
    have := hret H locs ls pc' i' hO hS hd' hrt hrv
    rw [show cells + (S1.length - S.length) + (S'.length - S1.length) = cells + (S'.length - S.length) by omega, show slots + (zsz S1 - zsz S) + (zsz S' - zsz S1) = slots + (zsz S' - zsz S) by omega]
    exact this
  · obtain ⟨hz0, hz1, hz2, v1, hz, h2⟩ := h1
    cases h2
    obtain ⟨len, hd, hnx, hk⟩ := zchkT_at hT he
    intro hz9 H locs ls hO hS hL hrg
    obtain ⟨e1, e2, e3, e4⟩ := zre_ok (b := b) (base := base) hk hrg hz
    subst e1
    rw [e4]
    have := hret H locs ls pc i hO hS hd e2 e3
    rw [Nat.sub_self, Nat.sub_self, Nat.add_zero, Nat.add_zero] at this
    exact this
theorem zG_of {n : Nat} (hok : ∀ {k : Nat} {r : Mr}, zgt zMRs k = some r → zchkM r = true) (hF : ZF n) : ZG n := by
  intro sc k rc as S M h rv S' M' h' hrc hlen hra hr l dC dI cI cO b base
  obtain ⟨T, nl, y, cc, ret, fr, lo, pl⟩ := rc
  have hmc := hok hrc
  unfold zchkM at hmc
  split at hmc
  · next heq =>
    cases heq
    simp only [Bool.and_eq_true] at hmc
    obtain ⟨⟨⟨hT, m1⟩, m2⟩, m3⟩ := hmc
    unfold zplain at m3
    simp only [Bool.and_eq_true] at m3
    obtain ⟨⟨m3, m4⟩, m5⟩ := m3
    refine Met.ofW (cc := cc) (maxL := nl) (ret := ret) m3 rfl ?_
    intro p e s m args below meth c s₁ B hml hv
    obtain ⟨hargs, hSc, hO, hsz, hK⟩ := hv
    subst hargs
    have hx := B.exec
    have hb := B.bytes
    have hrt := B.returns
    have hlk := B.notSynchronized
    have hts : ∀ w ∈ TB, w.before (as.map (zv b base)).toArray s = true := fun w hw => atoms_spec (ws := .code y cc nl ret :: TB) B.pre w (List.mem_cons_of_mem _ hw)
    have hown : s.vm.findClass y.cls = some m.cls := findClass_of_methodNamed B.named
    have hnm : meth.name = y.name := (name_of_methodNamed B.named B.method).1
    rw [lg_entry_eq]
    have hC : ZCx p s m (as.map (zv b base)).toArray meth c y.cls cc nl (decide (y.name = "<init>")) dC dI cI cO base := ⟨hx, hb, hml, hown, hts, hK, fun hd => hnm.trans (of_decide_eq_true hd), by omega⟩
    have hmono := run_mono hr
    refine hF (sc := sc) (cells := 0) (slots := 0) (b := b) hr hC hSc hT ⟨Nat.le_refl _, Nat.le_refl _⟩ (by
      rw [Nat.zero_add, Nat.zero_add]
      exact ⟨Nat.le_refl _, Nat.le_refl _⟩) (fun H locs ls pc' i hO1 hS1 hd1 hrt1 hrv1 => ?_) hsz.symm s.heap [] _ hO va_S.rf (zentry hlen hra) (fun v hv => by cases hv)
    rw [Nat.zero_add, Nat.zero_add]
    have hq : ∀ t : State, t.heap = H → s.WarmedH t.vm → ZQc dC dI cI cO b base rv S' M' h' (as.map (zv b base)).toArray s (.returned (rv.map (zv b base))) t := fun t ht hW => ⟨⟨rfl, hrv1, by rw [ht]; exact hO1⟩, hS1.F ht⟩
    rcases rv with _ | ⟨x | y1 | q1⟩
    · obtain ⟨e1, e2⟩ := hrt1
      subst e1; subst e2
      exact W.vret hx hb hrt hq hS1.2.2 hd1
    · obtain ⟨e1, e2⟩ := hrt1
      subst e1
      rcases e2 with e2 | ⟨e2, e3⟩
      · subst e2
        exact W.iret (v := Int32.ofInt x) hx hb hrt hq hS1.2.2 hd1
      · subst e2
        refine W.zret (v := Int32.ofInt x) (ty := .boolean) hx hb hrt ?_ hq hS1.2.2 hd1
        rcases e3 with e3 | e3
        · subst e3; rfl
        · subst e3; rfl
    · obtain ⟨e1, e2⟩ := hrt1
      subst e1; subst e2
      exact W.lret (v := y1) hx hb hrt hq hS1.2.2 hd1
    · exact hrt1.elim
  · cases hmc
/-- WHAT THE SMALL MACHINE ANSWERS THE REAL ONE ANSWERS -/
theorem zsound (hok : ∀ {k : Nat} {r : Mr}, zgt zMRs k = some r → zchkM r = true) (n : Nat) : ZF n := by
  induction n with
  | zero => intro T sc pc L st S M h rv S' M' h' hr; cases hr
  | succ n ih => exact zF_succ hok ih (zG_of hok ih)
