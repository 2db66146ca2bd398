/-! the whole state, and the calls that change a setting -/
abbrev At : Type := ((Nat → Int) × Nat × Nat) × (Nat × (Nat → Nat → Int)) × (Nat × (Nat → Int)) × (Int × Int × Int)
abbrev At.V (a : At) : Nat → Int := a.1.1
abbrev At.nb (a : At) : Nat := a.1.2.1
abbrev At.nc (a : At) : Nat := a.1.2.2
abbrev At.kn (a : At) : Nat := a.2.1.1
abbrev At.P (a : At) : Nat → Nat → Int := a.2.1.2
abbrev At.len (a : At) : Nat := a.2.2.1.1
abbrev At.tx (a : At) : Nat → Int := a.2.2.1.2
abbrev At.p0 (a : At) : Int := a.2.2.2.1
abbrev At.p1 (a : At) : Int := a.2.2.2.2.1
abbrev At.p2 (a : At) : Int := a.2.2.2.2.2
def CR (M : Me) (a : At) : Prop := CRel M a.V a.nb a.nc a.kn a.P a.len a.tx a.p0 a.p1 a.p2
def MR (M : Me) (a : At) : Prop := MRel M a.V a.kn a.P a.len a.tx a.p0 a.p1 a.p2
def SO (a : At) (t : Nat) : Prop := SOK a.V a.nb a.nc a.kn a.P a.len a.tx t
abbrev Cs (x : Int × At) (M : Me) (h : Ml) : Option ZV → Me → Ml → Prop := fun v M' h' => v = some (zi x.1) ∧ h' = h ∧ (∀ k, 74 ≤ k → M' k = M k) ∧ CR M' x.2
def sv (a : At) : At := (a.1, (svK a.kn, svP a.kn a.V a.P), a.2.2)
def up (V : Nat → Int) (k : Nat) (x : Int) : Nat → Int := fun j => if j = k then x else V j
theorem up_at {V : Nat → Int} {k : Nat} {x : Int} : up V k x k = x := by unfold up; rw [if_pos rfl]
theorem up_off {V : Nat → Int} {k j : Nat} {x : Int} (h : j ≠ k) : up V k x j = V j := by unfold up; rw [if_neg h]
theorem CR.cs {M : Me} {a : At} {t : Nat} (hC : CR M a) (hS : SO a t) : CS M a.V a.nb a.nc t := ⟨hC.1, hC.2.1.1, hC.2.1.2, hS.1⟩
theorem CR.kept {M M' : Me} {a : At} (hC : CR M a) (hk : ∀ k, k < 61 ∨ k = 71 → M' k = M k) : CR M' a := CRel.kept hC hk
/-- a question changes nothing -/
theorem Cs.of {T : CT} {sc : Sc} {pc : Nat} {L st : List ZV} {M : Me} {h : Ml} {r : Int} {a : At} (hC : CR M a) (k : Wp zS0 T sc pc L st M h (Qr r M h)) : Wp zS0 T sc pc L st M h (Cs (r, a) M h) :=
  k.imp (fun _ _ _ q => ⟨q.1, q.2.1, fun k g => q.2.2 k (by omega), hC.kept (fun k g => q.2.2 k (by omega))⟩)
theorem Cs.no {T : CT} {sc : Sc} {pc : Nat} {L st : List ZV} {M : Me} {h : Ml} {r : Int} {a : At} (hC : CR M a) (k : Wp zS0 T sc pc L st M h (Ri r M h)) : Wp zS0 T sc pc L st M h (Cs (r, a) M h) := Cs.of hC (Qr.of k)
theorem cw_congr {V V' : Nat → Int} {nc r : Nat} (hr : V' (18 + 8 * r) = V (18 + 8 * r)) (h9 : ∀ c, c < nc → V' (114 + 10 * c + 9) = V (114 + 10 * c + 9)) (h0 : ∀ c, c < nc → V' (114 + 10 * c) = V (114 + 10 * c)) : cw V' nc r = cw V nc r := by
  have e : fnd (fun c => V' (114 + 10 * c + 9)) (V' (18 + 8 * r)) nc = fnd (fun c => V (114 + 10 * c + 9)) (V (18 + 8 * r)) nc := by rw [hr]; exact fnd_congr h9
  unfold cw
  rw [e]
  by_cases g : fnd (fun c => V (114 + 10 * c + 9)) (V (18 + 8 * r)) nc < nc
  · rw [if_pos g, if_pos g, h0 _ g]
  · rw [if_neg g, if_neg g]
theorem pt_congr {V V' : Nat → Int} {r : Nat} (h : V' (114 + 10 * r + 9) = V (114 + 10 * r + 9)) : pt V' r = pt V r := by unfold pt; rw [h]
/-- only what stands ahead of the rows has changed -/
theorem OfRel.head {M M' : Me} {V V' : Nat → Int} {nb nc : Nat} (h : OfRel M 1 V nb nc) (hk : ∀ k, 1 < k → k < 8 → M' k = M k) (hV : ∀ j, 18 ≤ j → V' j = V j) (h11 : V' 11 = V 11) (h13 : V' 13 = V 13)
    (hf : M' 1 3 = V' 0 ∧ M' 1 4 = V' 1 ∧ M' 1 5 = V' 2 ∧ M' 1 6 = V' 3 ∧ M' 1 7 = V' 14 ∧ M' 1 8 = V' 15 ∧ M' 1 9 = V' 16 ∧ M' 1 10 = V' 17) (hw : ∀ i, i < 6 → M' 8 i = V' (4 + i)) : OfRel M' 1 V' nb nc := by
  obtain ⟨-, -, h1, h2, h3⟩ := h
  have k2 := hk 2 (by omega) (by omega)
  have k3 := hk 3 (by omega) (by omega)
  have k4 := hk 4 (by omega) (by omega)
  have k5 := hk 5 (by omega) (by omega)
  have k6 := hk 6 (by omega) (by omega)
  have k7 := hk 7 (by omega) (by omega)
  refine ⟨hf, hw, ?_, fun r hr => ?_, fun r hr => ?_⟩
  · rw [show 1 + 1 = 2 from rfl, show 1 + 4 = 5 from rfl, k2, k5, h11, h13]; exact h1
  · obtain ⟨g1, g2, g3⟩ := h2 r hr
    rw [show 1 + 2 = 3 from rfl, show 1 + 3 = 4 from rfl, k3, k4, hV _ (by omega), cw_congr (hV _ (by omega)) (fun c _ => hV _ (by omega)) (fun c _ => hV _ (by omega))]
    exact ⟨g1, fun c hc => by rw [hV _ (by omega)]; exact g2 c hc, g3⟩
  · obtain ⟨g1, g2, g3⟩ := h3 r hr
    rw [show 1 + 5 = 6 from rfl, show 1 + 6 = 7 from rfl, k6, k7, hV _ (by omega), pt_congr (hV _ (by omega))]
    exact ⟨g1, fun c hc => by rw [hV _ (by omega)]; exact g2 c hc, g3⟩
theorem CR.office {M M' : Me} {a : At} (hC : CR M a) (hk : ∀ k, (9 ≤ k ∧ k < 61) ∨ k = 71 → M' k = M k) {V' : Nat → Int} {nb' nc' : Nat} (h0 : M' 2 0 = M 2 0) (h5 : M' 5 0 = M 5 0) (hO : OfRel M' 1 V' nb' nc') : CR M' ((V', nb', nc'), a.2) := by
  obtain ⟨h1, h2, h3, h4, h6⟩ := hC
  refine ⟨hO, ?_, h3.kept (fun k g1 g2 => hk k (by omega)), ?_, ?_⟩
  · rw [h0, h5]; exact h2
  · rw [hk 59 (by omega), hk 60 (by omega)]; exact h4
  · rw [hk 71 (by omega)]; exact h6
theorem WF.mono {V : Nat → Int} {nb nc t t' : Nat} (h : WF V nb nc t) (ht : t ≤ t') : WF V nb nc t' := by
  obtain ⟨h1, ⟨v0, v1, v2, v3, v4, v5, v6⟩, h3⟩ := h
  exact ⟨h1, ⟨v0, v1, v2, v3, v4, ⟨v5.1, by omega⟩, v6.1, by omega⟩, h3⟩
theorem WF.head {V V' : Nat → Int} {nb nc t t' : Nat} (h : WF V nb nc t) (ht : t ≤ t') (hV : ∀ j, 18 ≤ j → V' j = V j) (h10 : V' 10 = V 10) (h11 : V' 11 = V 11) (h12 : V' 12 = V 12) (h13 : V' 13 = V 13)
    (hr : (0 ≤ V' 0 ∧ V' 0 ≤ 9999) ∧ (0 ≤ V' 1 ∧ V' 1 ≤ 200) ∧ (0 ≤ V' 2 ∧ V' 2 ≤ 500) ∧ (0 ≤ V' 3 ∧ V' 3 ≤ 9999) ∧ (∀ i, i < 6 → 0 ≤ V' (4 + i) ∧ V' (4 + i) ≤ 50)) : WF V' nb nc t' := by
  obtain ⟨⟨a1, a2, a3⟩, ⟨-, -, -, -, -, v5, v6⟩, b1, b2, b3, b4, b5⟩ := h
  refine ⟨⟨by rw [h10]; exact a1, by rw [h12]; exact a2, a3⟩, ⟨hr.1, hr.2.1, hr.2.2.1, hr.2.2.2.1, hr.2.2.2.2, by rw [h11]; omega, by rw [h13]; omega⟩, fun r g => ?_, fun r g => ?_, fun r q g1 g2 => ?_, fun r g => ?_, fun r q g1 g2 => ?_⟩
  · have := b1 r g
    unfold BOK at this ⊢
    rw [h11]
    repeat rw [hV _ (by omega)]
    exact this
  · have := b2 r g
    unfold COK at this ⊢
    rw [h11, h13]
    repeat rw [hV _ (by omega)]
    exact this
  · rw [hV _ (by omega), hV _ (by omega)]; exact b3 r q g1 g2
  · rw [hV _ (by omega)]
    intro hz
    obtain ⟨b, e1, e2⟩ := b4 r g hz
    exact ⟨b, e1, by rw [hV _ (by omega)]; exact e2⟩
  · rw [hV _ (by omega), hV _ (by omega)]; exact b5 r q g1 g2
theorem SO.sv {a : At} {t t' : Nat} (h : SO a t) (ht : t ≤ t') {V' : Nat → Int} {nb' nc' : Nat} (hW : WF V' nb' nc' t') : SO ((V', nb', nc'), (sv a).2) t' := by
  obtain ⟨h1, h2, h3, h4, h5⟩ := h
  refine ⟨hW, ?_, ?_, h4, h5⟩
  · show svK a.kn ≤ 6
    unfold svK; split <;> omega
  · intro c hc
    have hc : c < svK a.kn := hc
    show ∃ nb'' nc'' : Nat, WF (svP a.kn a.V a.P c) nb'' nc'' t'
    unfold svP
    unfold svK at hc
    split
    · split
      · obtain ⟨x, y, e⟩ := h3 (c + 1) (by omega)
        exact ⟨x, y, e.mono ht⟩
      · exact ⟨_, _, h1.mono ht⟩
    · split
      · obtain ⟨x, y, e⟩ := h3 c (by omega)
        exact ⟨x, y, e.mono ht⟩
      · exact ⟨_, _, h1.mono ht⟩
theorem SO.mono {a : At} {t t' : Nat} (h : SO a t) (ht : t ≤ t') : SO a t' := ⟨h.1.mono ht, h.2.1, fun c hc => by obtain ⟨x, y, e⟩ := h.2.2.1 c hc; exact ⟨x, y, e.mono ht⟩, h.2.2.2⟩
theorem cr_save {M : Me} {h : Ml} {a : At} {t : Nat} (hC : CR M a) (hS : SO a t) : Wp zS0 tX2_save none 0 [zr 9, zr 1] [] M h (fun v M' h' => v = none ∧ h' = h ∧ (∀ k, 74 ≤ k → M' k = M k) ∧ CR M' (sv a)) := c_save hC hS.1
def sWeight (a : At) (x y : Int) : Int × At := if x < 0 ∨ 5 < x then (-10001, a) else if y < 0 ∨ 50 < y then (-10002, a) else (a.V (4 + x.toNat), ((up a.V (4 + x.toNat) y, a.nb, a.nc), (sv a).2))
theorem c_setWeight {M : Me} {h : Ml} {a : At} {t : Nat} (hC : CR M a) (hS : SO a t) (x y : Int) : Wp zS0 tX8_setWeight none 0 [zr 0, zi x, zi y, zn] [] M h (Cs (sWeight a x y) M h) := by
  unfold sWeight
  by_cases hx : x < 0 ∨ 5 < x
  · rw [if_pos hx]
    refine Wp.g1 rfl ?_
    refine Wp.br rfl (fun c0 => ?_) (fun c0 => ?_)
    · refine Wp.g1 rfl ?_
      exact Cs.no hC (Wp.rei rfl rfl rfl rfl)
    · refine Wp.g1 rfl ?_
      refine Wp.brf rfl (by omega) ?_
      refine Wp.g1 rfl ?_
      exact Cs.no hC (Wp.rei rfl rfl rfl rfl)
  · rw [if_neg hx]
    obtain ⟨i, rfl⟩ := Int.eq_ofNat_of_zero_le (show 0 ≤ x by omega)
    refine Wp.g1 rfl ?_
    refine Wp.brf rfl (by omega) ?_
    refine Wp.g1 rfl ?_
    refine Wp.brt rfl (by omega) ?_
    refine Wp.g1 rfl ?_
    refine Wp.calli rfl (m_outside _ _ _ M h) ?_
    by_cases hy : y < 0 ∨ 50 < y
    · rw [if_pos hy, if_pos hy]
      refine Wp.brf rfl (by decide) ?_
      refine Wp.g1 rfl ?_
      exact Cs.no hC (Wp.rei rfl rfl rfl rfl)
    · rw [if_neg hy, if_neg hy]
      refine Wp.brt rfl (by decide) ?_
      refine Wp.g1 rfl ?_
      refine Wp.call rfl (cr_save hC hS) (fun v M1 h1 q => ?_)
      obtain ⟨rfl, rfl, q1, q2⟩ := q
      have hR : OfRel M1 1 a.V a.nb a.nc := q2.1
      refine Wp.g1 rfl ?_
      refine Wp.ld rfl rfl i rfl (by omega) ?_
      refine Wp.g1 rfl ?_
      refine Wp.sto rfl rfl i rfl (by omega) ?_
      refine Wp.g1 rfl ?_
      refine Wp.re rfl ⟨?_, rfl, fun k g => by rw [upd2_ne (by omega)]; exact q1 k g, ?_⟩
      · show _ = some (zi (a.V (4 + (i : Int).toNat)))
        rw [Int.toNat_natCast, ← hR.2.1 i (by omega)]
      · refine CR.office q2 (fun k g => by rw [upd2_ne (by omega)]) (by rw [upd2_ne (by decide)]) (by rw [upd2_ne (by decide)]) ?_
        refine hR.head (fun k g1 g2 => by rw [upd2_ne (by omega)]) (fun j g => up_off (by omega)) (up_off (by omega)) (up_off (by omega)) ?_ (fun j hj => ?_)
        · have := hR.1
          rw [upd2_ne (by decide)]
          repeat rw [up_off (by omega)]
          exact this
        · rw [Int.toNat_natCast]
          by_cases e : j = i
          · subst e; rw [upd2_at, up_at]
          · rw [upd2_off e, up_off (by omega)]
            exact hR.2.1 j hj
theorem s_weight {a : At} {t t' : Nat} (hS : SO a t) (ht : t ≤ t') (x y : Int) : SO (sWeight a x y).2 t' := by
  unfold sWeight
  by_cases hx : x < 0 ∨ 5 < x
  · rw [if_pos hx]; exact hS.mono ht
  · rw [if_neg hx]
    by_cases hy : y < 0 ∨ 50 < y
    · rw [if_pos hy]; exact hS.mono ht
    · rw [if_neg hy]
      refine SO.sv hS ht (hS.1.head ht (fun j g => up_off (by omega)) (up_off (by omega)) (up_off (by omega)) (up_off (by omega)) (up_off (by omega)) ?_)
      obtain ⟨v0, v1, v2, v3, v4, -⟩ := hS.1.2.1
      rw [up_off (by omega), up_off (by omega), up_off (by omega), up_off (by omega)]
      refine ⟨v0, v1, v2, v3, fun i hi => ?_⟩
      by_cases e : 4 + i = 4 + x.toNat
      · rw [e, up_at]; omega
      · rw [up_off e]; exact v4 i hi
