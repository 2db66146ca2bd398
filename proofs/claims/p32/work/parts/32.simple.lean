/-! the simple calls that change the state -/
def sThreshold (a : At) (x : Int) : Int × At := if x < 0 ∨ 200 < x then (-10002, a) else (a.V 1, ((up a.V 1 x, a.nb, a.nc), (sv a).2))
def sMoney (a : At) (x y : Int) : Int × At := if (x < 0 ∨ 500 < x) ∨ (y < 0 ∨ 9999 < y) then (-10002, a) else (a.V 2, ((up (up a.V 2 x) 3 y, a.nb, a.nc), (sv a).2))
def sPass (a : At) (x : Int) : Int × At := if x < 1 ∨ 400 < x then (-10002, a) else if 9999 < a.V 0 + x then (-10004, a) else (a.V 0 + x, ((up a.V 0 (a.V 0 + x), a.nb, a.nc), (sv a).2))
def sProblem (a : At) (x : Int) : Int × At := (if x = 0 then a.p0 else if x = 1 then a.p1 else if x = 2 then a.p2 else -10002, a)
def sType (a : At) (x : Int) : Int × At := if x < 33 ∨ 126 < x then (-10002, a) else if a.len = 80 then (-10004, a) else ((a.len : Int) + 1, (a.1, a.2.1, (a.len + 1, up a.tx a.len x), a.2.2.2))
def sClear (a : At) : Int × At := ((a.len : Int), (a.1, a.2.1, (0, a.tx), a.2.2.2))
def sUndo (a : At) : Int × At := if a.kn = 0 then (-10003, a) else (((a.kn - 1 : Nat) : Int), ((a.P (a.kn - 1), (a.P (a.kn - 1) 10).toNat, (a.P (a.kn - 1) 12).toNat), (a.kn - 1, a.P), a.2.2))
section SIMPLE
variable {M : Me} {h : Ml} {a : At} {t : Nat}
theorem c_setThreshold (hC : CR M a) (hS : SO a t) (x : Int) : Wp zS0 tX8_setThreshold none 0 [zr 0, zi x, zn] [] M h (Cs (sThreshold a x) M h) := by
  unfold sThreshold
  refine Wp.g1 rfl ?_
  refine Wp.calli rfl (m_outside _ _ _ M h) ?_
  by_cases hx : x < 0 ∨ 200 < x
  · rw [if_pos hx, if_pos hx]
    refine Wp.brf rfl (by decide) ?_
    refine Wp.g1 rfl ?_
    exact Cs.no hC (Wp.rei rfl rfl rfl rfl)
  · rw [if_neg hx, if_neg hx]
    refine Wp.brt rfl (by decide) ?_
    refine Wp.g1 rfl ?_
    refine Wp.call rfl (cr_save hC hS) (fun v M1 h1 q => ?_)
    obtain ⟨rfl, rfl, q1, q2⟩ := q
    have hR : OfRel M1 1 a.V a.nb a.nc := q2.1
    refine Wp.g1 rfl ?_
    refine Wp.re rfl ⟨?_, rfl, fun k g => by rw [upd2_ne (by omega)]; exact q1 k g, ?_⟩
    · show _ = some (zi (a.V 1))
      rw [← hR.1.2.1]
    · refine CR.office q2 (fun k g => by rw [upd2_ne (by omega)]) (by rw [upd2_ne (by decide)]) (by rw [upd2_ne (by decide)]) ?_
      refine hR.head (fun k g1 g2 => by rw [upd2_ne (by omega)]) (fun j g => up_off (by omega)) (up_off (by omega)) (up_off (by omega)) ?_ (fun j hj => ?_)
      · obtain ⟨f0, f1, f2⟩ := hR.1
        rw [upd2_at, up_at]
        repeat rw [upd2_off (by omega)]
        repeat rw [up_off (by omega)]
        exact ⟨f0, rfl, f2⟩
      · rw [upd2_ne (by decide), up_off (by omega)]
        exact hR.2.1 j hj
theorem s_threshold {t' : Nat} (hS : SO a t) (ht : t ≤ t') (x : Int) : SO (sThreshold a x).2 t' := by
  unfold sThreshold
  by_cases hx : x < 0 ∨ 200 < x
  · rw [if_pos hx]; exact hS.mono ht
  · rw [if_neg hx]
    refine SO.sv hS ht (hS.1.head ht (fun j g => up_off (by omega)) (up_off (by omega)) (up_off (by omega)) (up_off (by omega)) (up_off (by omega)) ?_)
    obtain ⟨v0, v1, v2, v3, v4, -⟩ := hS.1.2.1
    rw [up_at, up_off (by omega), up_off (by omega), up_off (by omega)]
    exact ⟨v0, by omega, v2, v3, fun i hi => by rw [up_off (by omega)]; exact v4 i hi⟩
theorem s_money {t' : Nat} (hS : SO a t) (ht : t ≤ t') (x y : Int) : SO (sMoney a x y).2 t' := by
  unfold sMoney
  by_cases hx : (x < 0 ∨ 500 < x) ∨ (y < 0 ∨ 9999 < y)
  · rw [if_pos hx]; exact hS.mono ht
  · rw [if_neg hx]
    refine SO.sv hS ht (hS.1.head ht (fun j g => by rw [up_off (by omega), up_off (by omega)]) (by rw [up_off (by omega), up_off (by omega)]) (by rw [up_off (by omega), up_off (by omega)]) (by rw [up_off (by omega), up_off (by omega)]) (by rw [up_off (by omega), up_off (by omega)]) ?_)
    obtain ⟨v0, v1, v2, v3, v4, -⟩ := hS.1.2.1
    rw [up_at, up_off (by omega), up_off (by omega), up_off (by omega), up_off (by omega), up_off (by omega), up_at]
    exact ⟨v0, v1, by omega, by omega, fun i hi => by rw [up_off (by omega), up_off (by omega)]; exact v4 i hi⟩
theorem c_pass (hC : CR M a) (hS : SO a t) (x : Int) : Wp zS0 tX8_pass none 0 [zr 0, zi x] [] M h (Cs (sPass a x) M h) := by
  have hR0 : OfRel M 1 a.V a.nb a.nc := hC.1
  obtain ⟨v0, -⟩ := hS.1.2.1
  unfold sPass
  refine Wp.g1 rfl ?_
  refine Wp.calli rfl (m_outside _ _ _ M h) ?_
  by_cases hx : x < 1 ∨ 400 < x
  · rw [if_pos hx, if_pos hx]
    refine Wp.brf rfl (by decide) ?_
    refine Wp.g1 rfl ?_
    exact Cs.no hC (Wp.rei rfl rfl rfl rfl)
  · rw [if_neg hx, if_neg hx]
    refine Wp.brt rfl (by decide) ?_
    refine Wp.g1 rfl ?_
    have e : w32 (a.V 0 + x) = a.V 0 + x := w32_id ⟨by omega, by omega⟩
    rw [hR0.1.1, e]
    by_cases hy : 9999 < a.V 0 + x
    · rw [if_pos hy]
      refine Wp.brf rfl (by omega) ?_
      refine Wp.g1 rfl ?_
      exact Cs.no hC (Wp.rei rfl rfl rfl rfl)
    · rw [if_neg hy]
      refine Wp.brt rfl (by omega) ?_
      refine Wp.g1 rfl ?_
      refine Wp.call rfl (cr_save hC hS) (fun v M1 h1 q => ?_)
      obtain ⟨rfl, rfl, q1, q2⟩ := q
      have hR : OfRel M1 1 a.V a.nb a.nc := q2.1
      refine Wp.g1 rfl ?_
      rw [hR.1.1, e]
      refine Wp.re rfl ⟨?_, rfl, fun k g => by rw [upd2_ne (by omega)]; exact q1 k g, ?_⟩
      · show _ = some (zi (a.V 0 + x))
        rw [upd2_at]
      · refine CR.office q2 (fun k g => by rw [upd2_ne (by omega)]) (by rw [upd2_ne (by decide)]) (by rw [upd2_ne (by decide)]) ?_
        refine hR.head (fun k g1 g2 => by rw [upd2_ne (by omega)]) (fun j g => up_off (by omega)) (up_off (by omega)) (up_off (by omega)) ?_ (fun j hj => ?_)
        · obtain ⟨f0, f1⟩ := hR.1
          rw [upd2_at, up_at]
          repeat rw [upd2_off (by omega)]
          repeat rw [up_off (by omega)]
          exact ⟨rfl, f1⟩
        · rw [upd2_ne (by decide), up_off (by omega)]
          exact hR.2.1 j hj
theorem s_pass {t' : Nat} (hS : SO a t) (ht : t ≤ t') (x : Int) : SO (sPass a x).2 t' := by
  unfold sPass
  by_cases hx : x < 1 ∨ 400 < x
  · rw [if_pos hx]; exact hS.mono ht
  · rw [if_neg hx]
    by_cases hy : 9999 < a.V 0 + x
    · rw [if_pos hy]; exact hS.mono ht
    · rw [if_neg hy]
      refine SO.sv hS ht (hS.1.head ht (fun j g => up_off (by omega)) (up_off (by omega)) (up_off (by omega)) (up_off (by omega)) (up_off (by omega)) ?_)
      obtain ⟨v0, v1, v2, v3, v4, -⟩ := hS.1.2.1
      rw [up_at, up_off (by omega), up_off (by omega), up_off (by omega)]
      exact ⟨by omega, v1, v2, v3, fun i hi => by rw [up_off (by omega)]; exact v4 i hi⟩
theorem CR.text {M M' : Me} {a : At} (hC : CR M a) (hk : ∀ k, k < 59 ∨ k = 71 → M' k = M k) {n : Nat} {f : Nat → Int} (h1 : M' 59 1 = (n : Int)) (h2 : ∀ i, i < n → M' 60 i = f i) : CR M' (a.1, a.2.1, (n, f), a.2.2.2) := by
  obtain ⟨g1, g2, g3, g4, g5⟩ := hC
  refine ⟨g1.kept (fun k _ g => hk k (by omega)), ?_, g3.kept (fun k _ g => hk k (by omega)), ⟨h1, h2⟩, ?_⟩
  · rw [hk 2 (by omega), hk 5 (by omega)]; exact g2
  · rw [hk 71 (by omega)]; exact g5
theorem s_type {t' : Nat} (hS : SO a t) (ht : t ≤ t') (x : Int) : SO (sType a x).2 t' := by
  unfold sType
  by_cases hx : x < 33 ∨ 126 < x
  · rw [if_pos hx]; exact hS.mono ht
  · rw [if_neg hx]
    by_cases hy : a.len = 80
    · rw [if_pos hy]; exact hS.mono ht
    · rw [if_neg hy]
      obtain ⟨h1, h2, h3, h4, h5⟩ := hS.mono ht
      refine ⟨h1, h2, h3, by show a.len + 1 ≤ 80; omega, fun i hi => ?_⟩
      have hi : i < a.len + 1 := hi
      show 33 ≤ up a.tx a.len x i ∧ up a.tx a.len x i ≤ 126
      by_cases e : i = a.len
      · rw [e, up_at]; omega
      · rw [up_off e]; exact h5 i (by show i < a.len; omega)
theorem s_clear {t' : Nat} (hS : SO a t) (ht : t ≤ t') : SO (sClear a).2 t' := by
  obtain ⟨h1, h2, h3, h4, h5⟩ := hS.mono ht
  exact ⟨h1, h2, h3, Nat.zero_le _, fun i hi => absurd (show i < 0 from hi) (by omega)⟩
theorem m_saved (M : Me) (h : Ml) : Wp zS0 tX2_saved none 0 [zr 9] [] M h (Ri (M 9 2) M h) := by
  refine Wp.g1 rfl ?_
  exact Wp.rei rfl rfl rfl rfl
theorem c_undo (hC : CR M a) (hS : SO a t) : Wp zS0 tX8_undo none 0 [zr 0] [] M h (Cs (sUndo a) M h) := by
  have hk : M 9 2 = (a.kn : Int) := by
    obtain ⟨-, -, ⟨nx, -, -, g, -⟩, -⟩ := hC
    exact g
  unfold sUndo
  refine Wp.g1 rfl ?_
  refine Wp.calli rfl (m_saved M h) ?_
  rw [hk]
  by_cases h0 : a.kn = 0
  · rw [if_pos h0]
    refine Wp.brf rfl (by omega) ?_
    refine Wp.g1 rfl ?_
    exact Cs.no hC (Wp.rei rfl rfl rfl rfl)
  · rw [if_neg h0]
    refine Wp.brt rfl (by omega) ?_
    refine Wp.g1 rfl ?_
    obtain ⟨nb', nc', hW⟩ := hS.2.2.1 (a.kn - 1) (by show a.kn - 1 < a.kn; omega)
    have e1 : (a.P (a.kn - 1) 10).toNat = nb' := by
      have : a.P (a.kn - 1) 10 = (nb' : Int) := hW.1.1
      rw [this, Int.toNat_natCast]
    have e2 : (a.P (a.kn - 1) 12).toNat = nc' := by
      have : a.P (a.kn - 1) 12 = (nc' : Int) := hW.1.2.1
      rw [this, Int.toNat_natCast]
    rw [e1, e2]
    refine Wp.call rfl (c_restore hC (by omega) hW) (fun v M1 h1 q => ?_)
    obtain ⟨rfl, rfl, q1, q2⟩ := q
    refine Wp.g1 rfl ?_
    refine Wp.calli rfl (m_saved M1 _) ?_
    have hk2 : M1 9 2 = ((a.kn - 1 : Nat) : Int) := by
      obtain ⟨-, -, ⟨nx, -, -, g, -⟩, -⟩ := q2
      exact g
    rw [hk2]
    exact Wp.re rfl ⟨rfl, rfl, q1, q2⟩
theorem s_undo {t' : Nat} (hS : SO a t) (ht : t ≤ t') : SO (sUndo a).2 t' := by
  unfold sUndo
  by_cases h0 : a.kn = 0
  · rw [if_pos h0]; exact hS.mono ht
  · rw [if_neg h0]
    obtain ⟨h1, h2, h3, h4, h5⟩ := hS.mono ht
    obtain ⟨nb', nc', hW⟩ := h3 (a.kn - 1) (by show a.kn - 1 < a.kn; omega)
    have h2 : a.kn ≤ 6 := h2
    have e1 : (a.P (a.kn - 1) 10).toNat = nb' := by
      have : a.P (a.kn - 1) 10 = (nb' : Int) := hW.1.1
      rw [this, Int.toNat_natCast]
    have e2 : (a.P (a.kn - 1) 12).toNat = nc' := by
      have : a.P (a.kn - 1) 12 = (nc' : Int) := hW.1.2.1
      rw [this, Int.toNat_natCast]
    rw [e1, e2]
    exact ⟨hW, by show a.kn - 1 ≤ 6; omega, fun c hc => h3 c (by show c < a.kn; have : c < a.kn - 1 := hc; omega), h4, h5⟩
end SIMPLE
