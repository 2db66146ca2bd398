section ZCA
variable {p : Program} {l : Launch} {e : Env} {R : Room} {s : State} {m : MethodId} {args : Array Value} {below : List Frame} {meth : Method} {c : Code} {Q : State → Prop} {dC : Nat → ClassId} {dI : Nat → Nat → Nat} {cI cO : ClassId} {b base : Nat} {own : String} {cc : ByteArray} {nL : Nat} {isI : Bool} {ret : Option FieldType} {fr lo : Nat} {sc : Sc}
theorem zca2_spec : ∀ {n : Nat} {st acc as r : List ZV}, zca2 n st acc = some (as, r) → ∃ pre, st = pre ++ r ∧ as = pre.reverse ++ acc ∧ pre.length = n := by
  intro n
  induction n with
  | zero => intro st acc as r h; cases h; exact ⟨[], rfl, rfl, rfl⟩
  | succ n ih =>
    intro st acc as r h
    cases st with
    | nil => cases h
    | cons v st =>
      obtain ⟨pre, h1, h2, h3⟩ := ih (st := st) (acc := v :: acc) h
      refine ⟨v :: pre, by rw [h1]; rfl, ?_, by rw [List.length_cons, h3]⟩
      rw [h2, List.reverse_cons, List.append_assoc]; rfl
theorem zpad_len : ∀ (n : Nat) (l : List ZV), l.length ≤ n → (zpad n l).length = n := by
  intro n
  induction n with
  | zero => intro l h; cases l with
    | nil => rfl
    | cons a l => exact absurd h (Nat.not_succ_le_zero _)
  | succ n ih =>
    intro l h
    cases l with
    | nil => show (zpad n []).length + 1 = n + 1; rw [ih [] (Nat.zero_le _)]
    | cons a l => show (zpad n l).length + 1 = n + 1; rw [ih l (Nat.le_of_succ_le_succ h)]
theorem zpad_at : ∀ (n : Nat) (l : List ZV) (j : Nat) (v : ZV), (zpad n l)[j]? = some v → v ≠ zn → l[j]? = some v := by
  intro n
  induction n with
  | zero => intro l j v h _; cases l <;> exact h
  | succ n ih =>
    intro l j v h hn
    cases l with
    | nil =>
      cases j with
      | zero => exact absurd (Option.some.inj h).symm hn
      | succ j => exact absurd (ih [] j v h hn) (by simp)
    | cons a l =>
      cases j with
      | zero => exact h
      | succ j => exact ih l j v h hn
theorem zpad_all : ∀ (n : Nat) (l : List ZV), (∀ v ∈ l, zrv v) → ∀ v ∈ zpad n l, zrv v := by
  intro n
  induction n with
  | zero => intro l h; cases l <;> exact h
  | succ n ih =>
    intro l h v hv
    cases l with
    | nil =>
      rcases List.mem_cons.mp hv with e1 | e1
      · subst e1; exact trivial
      · exact ih [] h v e1
    | cons a l =>
      rcases List.mem_cons.mp hv with e1 | e1
      · subst e1; exact h _ List.mem_cons_self
      · exact ih l (fun u hu => h u (List.mem_cons_of_mem _ hu)) v e1
theorem zex_all : ∀ (l : List ZV), (∀ v ∈ l, zrv v) → ∀ v ∈ zex l, zrv v := by
  intro l
  induction l with
  | nil => intro _ v hv; cases hv
  | cons a l ih =>
    intro h v hv
    have ih' := ih (fun u hu => h u (List.mem_cons_of_mem _ hu))
    rcases a with x | y | q
    · rcases List.mem_cons.mp hv with e1 | e1
      · subst e1; exact h _ List.mem_cons_self
      · exact ih' v e1
    · rcases List.mem_cons.mp hv with e1 | e1
      · subst e1; exact trivial
      rcases List.mem_cons.mp e1 with e1 | e1
      · subst e1; exact trivial
      · exact ih' v e1
    · rcases List.mem_cons.mp hv with e1 | e1
      · subst e1; exact trivial
      · exact ih' v e1
theorem zex_len : ∀ (l : List ZV), (lg_sl (l.map (zv b base))).length = (zex l).length := by
  intro l
  induction l with
  | nil => rfl
  | cons a l ih =>
    unfold lg_sl at ih ⊢
    rw [List.map_cons, List.flatMap_cons, List.length_append, ih, zv_cat]
    rcases a with x | y | q
    · show 1 + (zex l).length = (zex l).length + 1; omega
    · show 2 + (zex l).length = (zex l).length + 1 + 1; omega
    · show 1 + (zex l).length = (zex l).length + 1; omega
theorem zex_at : ∀ (l : List ZV) (i j : Nat) (v : ZV), (zex l)[j]? = some v → v ≠ zn → (i + j, zv b base v) ∈ lv_args i (l.map (zv b base)) := by
  intro l
  induction l with
  | nil => intro i j v h; cases h
  | cons a l ih =>
    intro i j v h hn
    rw [List.map_cons]
    unfold lv_args
    rw [zv_cat]
    rcases a with x | y | q
    · cases j with
      | zero => cases h; exact List.mem_cons_self
      | succ j =>
        have := ih (i + 1) j v h hn
        rw [show i + 1 + j = i + (j + 1) by omega] at this
        exact List.mem_cons_of_mem _ this
    · cases j with
      | zero => cases h; exact List.mem_cons_self
      | succ j =>
        cases j with
        | zero => exact absurd (Option.some.inj h).symm hn
        | succ j =>
          have := ih (i + 2) j v h hn
          rw [show i + 2 + j = i + (j + 1 + 1) by omega] at this
          exact List.mem_cons_of_mem _ this
    · cases j with
      | zero => cases h; exact List.mem_cons_self
      | succ j =>
        have := ih (i + 1) j v h hn
        rw [show i + 1 + j = i + (j + 1) by omega] at this
        exact List.mem_cons_of_mem _ this
theorem zentry {as : List ZV} {nl : Nat} (h : (zex as).length ≤ nl) (hr : ∀ v ∈ as, zrv v) : RelL b base ((lg_sl (as.map (zv b base)) ++ List.replicate (nl - (lg_sl (as.map (zv b base))).length) Slot.unset).toArray) nl (zpad nl (zex as)) := by
  have h1 := lv_entry (as.map (zv b base)) (n := nl) (by rw [zex_len]; exact h)
  refine ⟨zpad_len nl _ h, ⟨h1.1, h1.2.1, ?_⟩, zpad_all nl _ (zex_all as hr)⟩
  rintro ⟨j, u⟩ hq
  obtain ⟨v, hv, hn, rfl⟩ := asL_mem.mp hq
  have := zex_at (b := b) (base := base) as 0 j v (zpad_at nl _ j v hv hn) hn
  rw [Nat.zero_add] at this
  exact h1.2.2 (j, zv b base v) this
theorem ZK.warm {U : State} (h : ZK dC dI cI cO s) (hW : s.WarmedH U.vm) : ZK dC dI cI cO U := ⟨va_K.moved hW.alike h.1, va_Nw.warmM hW h.2.1, va_Nw.warmM hW h.2.2.1, va_AO.moved hW.alike h.2.2.2⟩
def ZPc (sc : Sc) (dC : Nat → ClassId) (dI : Nat → Nat → Nat) (cI cO : ClassId) (b base : Nat) (as : List ZV) (S : Sh) (M : Me) (h : Ml) : Array Value → State → Prop := va_Pc (as.map (zv b base)) (fun U => zSc sc b base U ∧ WO dC dI cI cO base S M h U.heap ∧ U.heap.size = base + S.length ∧ ZK dC dI cI cO U)
def ZQc (dC : Nat → ClassId) (dI : Nat → Nat → Nat) (cI cO : ClassId) (b base : Nat) (rv : Option ZV) (S : Sh) (M : Me) (h : Ml) : Array Value → State → Outcome → State → Prop := fun _ st o t => (o = .returned (rv.map (zv b base)) ∧ (∀ v, rv = some v → zrv v) ∧ WO dC dI cI cO base S M h t.heap) ∧ va_F (fun q => base ≤ q) st t
theorem ZPc.blind {as : List ZV} {S : Sh} {M : Me} {h : Ml} : FrameBlind (ZPc sc dC dI cI cO b base as S M h) := fun a U g mk q => ⟨q.1, zSc.call (U := U) (U' := U.calling g mk a) q.2.1 (Vm.Alike.refl U.vm) rfl, q.2.2.1, q.2.2.2.1, va_K.moved (u := U) (U := U.calling g mk a) (Vm.Alike.refl U.vm) q.2.2.2.2.1, va_Nw.same rfl rfl q.2.2.2.2.2.1, va_Nw.same rfl rfl q.2.2.2.2.2.2.1, va_AO.moved (u := U) (U := U.calling g mk a) (Vm.Alike.refl U.vm) q.2.2.2.2.2.2.2⟩
theorem TB.good {w : Cond} (h : w ∈ TB) : ((w.onTables && w.keeps) = true ∨ ∃ ty, w = .arrayClass ty) := good_of_word (List.mem_filter.mp h).2
theorem zpay {w0 : Cond} (h0 : w0 ∈ TB) (hts : ∀ w ∈ TB, w.before args s = true) : ∀ w ∈ w0 :: TB, ∀ (a' : Array Value) (U : State), s.WarmedH U.vm → w.before a' U = true :=
  pay_in hts (fun w hw => by
    rcases List.mem_cons.mp hw with e1 | e1
    · subst e1; exact ⟨h0, TB.good h0⟩
    · exact ⟨e1, TB.good e1⟩)
/-- behind a call -/
theorem zback {H : Heap} {locs : List Loc} {cells slots mc ms pc : Nat} {ls : Array Slot} {st0 rest : List Value} {rv : Option ZV} {S : Sh} {M : Me} {h : Ml} {a : Array Value} (hr : va_Run p l e R s m args below meth c H locs cells slots mc ms (F0 m pc ls st0) rest (ZQc dC dI cI cO b base rv S M h a) (fun q => base ≤ q)) (hS : va_S (fun q => base ≤ q) s.heap H locs)
    (kk : ∀ (H1 : Heap) (locs1 : List Loc), WO dC dI cI cO base S M h H1 → (∀ v, rv = some v → zrv v) → va_S (fun q => base ≤ q) s.heap H1 locs1 → W p l e R s m args below meth c H1 locs1 (cells + mc) (slots + ms) Q (F0 m (pc + 3) ls ((rv.map (zv b base)).toList ++ rest))) : W p l e R s m args below meth c H locs cells slots Q (F0 m pc ls st0) := by
  intro T hT X
  obtain ⟨v, st₀, t, T', L, h0, X', hL, e1, e2, ⟨⟨hv, hvr, hb⟩, hz, hk⟩, st⟩ := hr T hT X
  cases hv
  rw [h0] at hz hk
  obtain ⟨t2, a1, b1⟩ := kk T'.heap (locs ++ L) (by rw [e1]; exact hb) hvr ⟨Nat.le_trans hS.1 (by rw [e1]; exact hz), fun q h1 h2 => by rw [e1, hk q (Nat.lt_of_lt_of_le h1 hS.1) h2]; exact hS.2.1 q h1 h2, fun q hq => by
      rcases List.mem_append.mp hq with h | h
      · exact hS.2.2 q h
      · exact hL q h⟩ T' rfl X'
  exact ⟨t2, st t2 a1, b1⟩
/-- a method's contract, of the small machine's answer -/
def ZM (sc : Sc) (r : Mr) (as : List ZV) (S : Sh) (M : Me) (h : Ml) (rv : Option ZV) (S' : Sh) (M' : Me) (h' : Ml) : Prop := ∀ (l : Launch) (dC : Nat → ClassId) (dI : Nat → Nat → Nat) (cI cO : ClassId) (b base : Nat), Met l r.2.2.1 (.code r.2.2.1 r.2.2.2.1 r.2.1 r.2.2.2.2.1 :: TB) ({ frames := r.2.2.2.2.2.1, cells := S'.length - S.length, slots := zsz S' - zsz S, locals := r.2.2.2.2.2.2.1 }) (ZPc sc dC dI cI cO b base as S M h) (ZQc dC dI cI cO b base rv S' M' h') (S'.length - S.length) (zsz S' - zsz S) (fun q => base ≤ q)
theorem zns_len {y : MethodName} {n x : Nat} (h : Nat.beq (zns y + x) n = true) (sig : MethodDescriptor) (hp : parseMethodDescriptor y.desc = some sig) : n = sig.parameters.length + x := by
  have h1 := Nat.eq_of_beq_eq_true h
  unfold zns at h1
  rw [hp] at h1
  exact h1.symm
set_option maxHeartbeats 4000000 in
theorem zca_ok {i : Instr} (hC : ZCx p s m args meth c own cc nL isI dC dI cI cO base) (hX : zSc sc b base s) (hR : fr ≤ R.frames ∧ lo ≤ R.locals) {nx a bb d w len pc nx' : Nat} {cv : Int} {L st L0 r : List ZV} {S S' : Sh} {M M' : Me} {h h' : Ml} {T' : CT} {rv : Option ZV} {cells slots : Nat} (hd : decode cc pc = .ok (i, len)) (hnx : pc + len = nx) (hk : zchk own nL isI ret fr lo pc len i a bb d cv w = true) (hca : zca (i, nx, a, bb, d, cv, w) st S = some (T', L0, nx', r))
    (hcal : ∀ (k : Nat) (rc : Mr) (as : List ZV), zgt zMRs k = some rc → rc.1 = T' → (zex as).length ≤ rc.2.1 → L0 = zpad rc.2.1 (zex as) → (∀ v ∈ as, zrv v) → ZM sc rc as S M h rv S' M' h' ∧ zchkM rc = true)
    (hrm : cells + (S'.length - S.length) ≤ R.cells ∧ slots + (zsz S' - zsz S) ≤ R.slots) (hsl : S.length ≤ S'.length) (kk : ZN p l e R s m args below meth c Q dC dI cI cO b base nL nx' L (zpush rv r) S' M' h' (cells + (S'.length - S.length)) (slots + (zsz S' - zsz S))) : ZN p l e R s m args below meth c Q dC dI cI cO b base nL pc L st S M h cells slots := by
  obtain ⟨hx, hb, hml, hown, hts, hK, hin, hbs⟩ := hC
  have key : ∀ (a0 : Nat), zcl (a0 + 1) bb nx st = some (T', L0, nx', r) → (∀ (rc : Mr) (as : List ZV), zgt zMRs a0 = some rc → st = as.reverse ++ r → as.length = bb → zwt r ≤ 8 → (∀ v ∈ st, zrv v) → nx' = nx → ZM sc rc as S M h rv S' M' h' → zchkM rc = true → ∀ (H : Heap) (locs : List Loc) (ls : Array Slot), WO dC dI cI cO base S M h H → H.size = base + S.length → va_S (fun q => base ≤ q) s.heap H locs → RelL b base ls nL L → ∃ a, va_Run p l e R s m args below meth c H locs cells slots (S'.length - S.length) (zsz S' - zsz S) (F0 m pc ls (st.map (zv b base))) (r.map (zv b base)) (ZQc dC dI cI cO b base rv S' M' h' a) (fun q => base ≤ q)) → pc + 3 = nx → ZN p l e R s m args below meth c Q dC dI cI cO b base nL pc L st S M h cells slots := by
    intro a0 hcl hrun h3
    unfold zcl at hcl
    split at hcl
    · next h0 => exact absurd h0 (Nat.succ_ne_zero _)
    · next a1 h0 =>
      cases Nat.succ.inj h0
      split at hcl
      · next T1 nl rest hrc =>
        split at hcl
        · next as r1 has =>
          cases hc1 : Nat.ble (zwt r1) 8 with
          | false => rw [hc1, cond_false] at hcl; cases hcl
          | true =>
          cases hc2 : Nat.ble (zex as).length nl with
          | false => rw [hc1, hc2, cond_true, cond_false] at hcl; cases hcl
          | true =>
          rw [hc1, hc2, cond_true, cond_true] at hcl
          cases hcl
          obtain ⟨pre, hs1, hs2, hs3⟩ := zca2_spec has
          rw [List.append_nil] at hs2
          have hst : st = as.reverse ++ r := by rw [hs2, List.reverse_reverse]; exact hs1
          have hasl : as.length = bb := by rw [hs2, List.length_reverse]; exact hs3
          intro hz0 H locs ls hO hS hL hr
          have hra : ∀ v ∈ as, zrv v := fun v hv => hr v (by rw [hst]; exact List.mem_append_left _ (List.mem_reverse.mpr hv))
          obtain ⟨hM, hmc⟩ := hcal a0 _ as hrc rfl (Nat.le_of_ble_eq_true hc2) rfl hra
          refine W.sized fun hsz => ?_
          have hlow := hO.low hS hbs
          obtain ⟨a9, hrun'⟩ := hrun _ as hrc hst hasl (Nat.le_of_ble_eq_true hc1) hr rfl hM hmc H locs ls hO (by omega) hS hL
          refine zback hrun' hS (fun H1 locs1 hO1 hvr hS1 => ?_)
          have e1 : (rv.map (zv b base)).toList ++ r.map (zv b base) = (zpush rv r).map (zv b base) := by
            cases rv <;> rfl
          rw [e1, h3]
          refine kk (by omega) H1 locs1 ls hO1 hS1 hL (fun v hv => ?_)
          cases rv with
          | none => exact hr v (by rw [hst]; exact List.mem_append_right _ hv)
          | some u =>
            rcases List.mem_cons.mp hv with e2 | e2
            · subst e2; exact hvr _ rfl
            · exact hr v (by rw [hst]; exact List.mem_append_right _ e2)
        · cases hcl
      · cases hcl
  have pre : ∀ (as : List ZV) (H : Heap) (locs : List Loc), va_S (fun q => base ≤ q) s.heap H locs → WO dC dI cI cO base S M h H → H.size = base + S.length → ∀ U : State, U.heap = H → s.WarmedH U.vm → ZPc sc dC dI cI cO b base as S M h (as.map (zv b base)).toArray U := by
    intro as H locs hS hO hsz U hU hW
    exact ⟨rfl, hX.at hS hU hW, by rw [hU]; exact hO, by rw [hU]; exact hsz, hK.warm hW⟩
  cases i
  case invokevirtual k =>
    obtain ⟨h1, h2⟩ := zlen1 hk
    subst h1
    simp only [zca] at hca
    cases hcr : zrc S st bb d with
    | false => rw [hcr, cond_false] at hca; cases hca
    | true =>
    rw [hcr, cond_true] at hca
    split at h2
    · cases h2
    · next a0 =>
      split at h2
      · next rc hrc =>
        refine key a0 hca (fun rc' as hrc' hst hasl hwt hr hnx2 hM hmc H locs ls hO hsz hS hL => ?_) hnx
        cases hrc.symm.trans hrc'
        obtain ⟨T1, nl, y, cb, rt, fr', lo', pl⟩ := rc
        unfold zcallee at h2
        split at h2
        · next heq =>
          cases heq
          simp only [Bool.and_eq_true] at h2
          obtain ⟨⟨⟨g1, g2⟩, g3⟩, ⟨⟨g4, g5⟩, g6⟩, g7⟩ := h2
          have g1 := of_decide_eq_true g1
          have g2 := of_decide_eq_true g2
          unfold zchkM at hmc
          simp only [Bool.and_eq_true] at hmc
          obtain ⟨⟨⟨-, m1⟩, m2⟩, m3⟩ := hmc
          unfold zplain at m3
          simp only [Bool.and_eq_true] at m3
          obtain ⟨⟨m3, m4⟩, m5⟩ := m3
          split at g7
          · next C T N hcl =>
            have g7 := of_decide_eq_true g7
            cases as with
            | nil => cases hasl; unfold zrc at hcr; cases hcr
            | cons v0 as0 =>
              have hv0 : st[as0.length]? = some v0 := by
                rw [hst, List.reverse_cons, List.append_assoc, List.getElem?_append_right (by rw [List.length_reverse]; exact Nat.le_refl _), List.length_reverse, Nat.sub_self]; rfl
              unfold zrc at hcr
              split at hcr
              · cases hcr
              · next b1 =>
                have hb1 : b1 = as0.length := by rw [List.length_cons] at hasl; omega
                subst hb1
                rw [zgt_eq, hv0] at hcr
                split at hcr
                · next q heq =>
                  cases heq
                  split at hcr
                  · next cl n rs hz =>
                    have e4 := Nat.eq_of_beq_eq_true hcr
                    subst e4
                    have hw := (zws_get (cI := cI) (cO := cO) (base := base) (M := M) (h := h) hz).1
                    have h9 : cl < 8 := (List.getElem?_eq_some_iff.mp hcl).1
                    rw [zce_obj h9] at hw
                    refine ⟨_, va_runV (As := as0.map (zv b base)) (rest := r.map (zv b base)) (C := y.cls) (nL := nL) ⟨hx, hb, hml, hown, hts⟩ (hM l dC dI cI cO b base) ⟨⟨rfl, rfl, Nat.le_trans g1 hR.1, Nat.le_trans g2 hR.2, zpay (zin_mem m1) hts, List.mem_cons_self, hts _ (zin_mem m1), hts _ (zin_mem m2), ⟨of_decide_eq_true m4, of_decide_eq_true m5⟩, fun sig hsig => ?_, hts _ (zin_mem g4)⟩, hts _ (zin_mem g5), hts _ (zin_mem g6)⟩ ⟨ZPc.blind, ?_, fun U hU hW => pre _ H locs hS hO hsz U hU hW⟩ rfl (by rw [List.length_map]) hL.size ?_ (by rw [zv_wt]; show 2 * 0 + _ ≤ 8; omega) hd hrm⟩
                    · have := zns_len g3 sig hsig
                      omega
                    · rw [g7]
                      exact va_recv hK.1 hO.1 hcl hw
                    · show st.map (zv b base) = _
                      rw [hst]
                      simp [zv]
                  · cases hcr
                · cases hcr
          · cases g7
        · cases h2
      · cases h2
  case invokespecial k =>
    obtain ⟨h1, h2⟩ := zlen1 hk
    subst h1
    simp only [zca] at hca
    cases hcr : zrr st bb with
    | false => rw [hcr, cond_false] at hca; cases hca
    | true =>
    rw [hcr, cond_true] at hca
    split at h2
    · unfold zcl at hca; cases hca
    · next a0 =>
      split at h2
      · next rc hrc =>
        refine key a0 hca (fun rc' as hrc' hst hasl hwt hr hnx2 hM hmc H locs ls hO hsz hS hL => ?_) hnx
        cases hrc.symm.trans hrc'
        obtain ⟨T1, nl, y, cb, rt, fr', lo', pl⟩ := rc
        rw [Bool.and_eq_true] at h2
        obtain ⟨h2, g8⟩ := h2
        have g8 : rt = none := of_decide_eq_true g8
        subst g8
        unfold zcallee at h2
        split at h2
        · next heq =>
          cases heq
          simp only [Bool.and_eq_true] at h2
          obtain ⟨⟨⟨g1, g2⟩, g3⟩, ⟨g4, g5⟩, g6⟩ := h2
          have g1 := of_decide_eq_true g1
          have g2 := of_decide_eq_true g2
          have g6 := of_decide_eq_true g6
          unfold zchkM at hmc
          simp only [Bool.and_eq_true] at hmc
          obtain ⟨⟨⟨-, m1⟩, m2⟩, m3⟩ := hmc
          unfold zplain at m3
          simp only [Bool.and_eq_true] at m3
          obtain ⟨⟨m3, m4⟩, m5⟩ := m3
          cases as with
          | nil => cases hasl; unfold zrr at hcr; cases hcr
          | cons v0 as0 =>
            have hv0 : st[as0.length]? = some v0 := by
              rw [hst, List.reverse_cons, List.append_assoc, List.getElem?_append_right (by rw [List.length_reverse]; exact Nat.le_refl _), List.length_reverse, Nat.sub_self]; rfl
            unfold zrr at hcr
            split at hcr
            · cases hcr
            · next b1 =>
              have hb1 : b1 = as0.length := by rw [List.length_cons] at hasl; omega
              subst hb1
              rw [zgt_eq, hv0] at hcr
              split at hcr
              · next q heq =>
                cases heq
                refine ⟨_, va_runI (b := base + q) (As := as0.map (zv b base)) (rest := r.map (zv b base)) (nL := nL) ⟨hx, hb, hml, hown, hts⟩ (hM l dC dI cI cO b base) ⟨⟨rfl, rfl, Nat.le_trans g1 hR.1, Nat.le_trans g2 hR.2, zpay (zin_mem m1) hts, List.mem_cons_self, hts _ (zin_mem m1), hts _ (zin_mem m2), ⟨of_decide_eq_true m4, of_decide_eq_true m5⟩, fun sig hsig => ?_, hts _ (zin_mem g4)⟩, g6, hts _ (zin_mem g5)⟩ ⟨ZPc.blind, fun U hU hW => pre _ H locs hS hO hsz U hU hW⟩ rfl (by rw [List.length_map]) hL.size ?_ (by rw [zv_wt]; show 2 * 0 + _ ≤ 8; omega) hd hrm⟩
                · have := zns_len g3 sig hsig
                  omega
                · show st.map (zv b base) = _
                  rw [hst]
                  simp [zv]
              · cases hcr
        · cases h2
      · cases h2
  case invokestatic k =>
    obtain ⟨h1, h2⟩ := zlen1 hk
    subst h1
    simp only [zca] at hca
    split at h2
    · unfold zcl at hca; cases hca
    · next a0 =>
      split at h2
      · next rc hrc =>
        refine key a0 hca (fun rc' as hrc' hst hasl hwt hr hnx2 hM hmc H locs ls hO hsz hS hL => ?_) hnx
        cases hrc.symm.trans hrc'
        obtain ⟨T1, nl, y, cb, rt, fr', lo', pl⟩ := rc
        unfold zcallee at h2
        split at h2
        · next heq =>
          cases heq
          simp only [Bool.and_eq_true] at h2
          obtain ⟨⟨⟨g1, g2⟩, g3⟩, g4, g5⟩ := h2
          have g1 := of_decide_eq_true g1
          have g2 := of_decide_eq_true g2
          unfold zchkM at hmc
          simp only [Bool.and_eq_true] at hmc
          obtain ⟨⟨⟨-, m1⟩, m2⟩, m3⟩ := hmc
          unfold zplain at m3
          simp only [Bool.and_eq_true] at m3
          obtain ⟨⟨m3, m4⟩, m5⟩ := m3
          have hlen : ∀ sig, parseMethodDescriptor y.desc = some sig → as.length = sig.parameters.length := fun sig hsig => by
            have := zns_len g3 sig hsig
            omega
          have hstk : (F0 m pc ls (st.map (zv b base))).stack = (as.map (zv b base)).reverse ++ r.map (zv b base) := by
            show st.map (zv b base) = _
            rw [hst]
            simp
          have nest : ∀ (w0 : Cond), w0 = nest1 ∨ w0 = nest2 → Cond.methodLinkNest own k y "LuggageTracing" = w0 → ∃ a, va_Run p l e R s m args below meth c H locs cells slots (S'.length - S.length) (zsz S' - zsz S) (F0 m pc ls (st.map (zv b base))) (r.map (zv b base)) (ZQc dC dI cI cO b base rv S' M' h' a) (fun q => base ≤ q) := by
            intro w0 hw0 he
            have hn : (Cond.methodLinkNest own k y "LuggageTracing").before args s = true := by
              rw [he]
              rcases hw0 with e5 | e5
              · rw [e5]; exact va_Nw.use rfl hK.2.1
              · rw [e5]; exact va_Nw.use rfl hK.2.2.1
            exact ⟨_, va_runSN (host := "LuggageTracing") (As := as.map (zv b base)) (rest := r.map (zv b base)) (nL := nL) (n := as.length) ⟨hx, hb, hml, hown, hts⟩ (hM l dC dI cI cO b base) ⟨⟨⟨rfl, rfl, Nat.le_trans g1 hR.1, Nat.le_trans g2 hR.2, zpay (zin_mem m1) hts, List.mem_cons_self⟩, hts _ (zin_mem m1), hts _ (zin_mem m2), ⟨of_decide_eq_true m4, of_decide_eq_true m5⟩, hlen, hn⟩, hts _ (zin_mem g4), trivial⟩ ⟨ZPc.blind, fun U hU hW => pre _ H locs hS hO hsz U hU hW⟩ rfl (by rw [List.length_map]) hL.size hstk (by rw [zv_wt]; show 2 * 0 + _ ≤ 8; omega) hd hrm⟩
          split at g5
          · exact ⟨_, va_runS (As := as.map (zv b base)) (rest := r.map (zv b base)) (nL := nL) (n := as.length) ⟨hx, hb, hml, hown, hts⟩ (hM l dC dI cI cO b base) ⟨⟨rfl, rfl, Nat.le_trans g1 hR.1, Nat.le_trans g2 hR.2, zpay (zin_mem m1) hts, List.mem_cons_self, hts _ (zin_mem m1), hts _ (zin_mem m2), ⟨of_decide_eq_true m4, of_decide_eq_true m5⟩, hlen, hts _ (zin_mem g5)⟩, hts _ (zin_mem g4)⟩ ⟨ZPc.blind, fun U hU hW => pre _ H locs hS hO hsz U hU hW⟩ rfl (by rw [List.length_map]) hL.size hstk (by rw [zv_wt]; show 2 * 0 + _ ≤ 8; omega) hd hrm⟩
          · exact nest nest1 (Or.inl rfl) (of_decide_eq_true g5)
          · exact nest nest2 (Or.inr rfl) (of_decide_eq_true g5)
        · cases h2
      · cases h2
  all_goals (simp only [zca, reduceCtorEq] at hca)
end ZCA
