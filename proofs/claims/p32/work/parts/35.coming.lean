/-! bags and claims come -/
section COMING
variable {M : Me} {h : Ml} {a : At} {V : Nat → Int} {nb nc t : Nat}
abbrev Of (M : Me) (h : Ml) (r : Int) (V' : Nat → Int) (nb' nc' : Nat) : Option ZV → Me → Ml → Prop := fun v M' h' => v = some (zi r) ∧ h' = h ∧ (∀ k, 9 ≤ k → M' k = M k) ∧ M' 2 0 = M 2 0 ∧ M' 5 0 = M 5 0 ∧ OfRel M' 1 V' nb' nc'
theorem o_addBag (hR : OfRel M 1 V nb nc) (hw : M 2 0 = 8) (hW : WF V nb nc t) (hn : nb < 12) (ht : V 11 ≤ 1000000) (x0 x1 x2 x3 x4 x5 : Int) (h1 : 0 ≤ x1 ∧ x1 ≤ 999999) : Wp zS0 tX3_addBag none 0 [zr 1, zi x0, zi x1, zi x2, zi x3, zi x4, zi x5, zn] [] M h (Of M h (V 11 + 1) (nBag V nb x0 (leg x1 x2) x2 x3 x4 x5) (nb + 1) nc) := by
  have v11 := hW.2.1.2.2.2.2.2.1
  have e11 : w32 (V 11 + 1) = V 11 + 1 := w32_id ⟨by omega, by omega⟩
  refine Wp.g1 rfl ?_
  refine Wp.calli rfl (m2_append nb M h hw hR.2.2.1.1 hn) ?_
  rw [show M 2 4 = V 11 from hR.2.2.1.2.1, e11]
  have f1 : ∀ k, k ≠ 2 → k ≠ 3 → k ≠ 4 → upd2 (upd2 (upd2 (upd2 M 2 3 ((nb + 1 : Nat) : Int)) 2 4 (V 11 + 1)) 3 nb (V 11 + 1)) 4 (8 * nb + 7) (-10006) k = M k := fun k g1 g2 g3 => by rw [upd2_ne g3, upd2_ne g2, upd2_ne g1, upd2_ne g1]
  have f2 : upd2 (upd2 (upd2 (upd2 M 2 3 ((nb + 1 : Nat) : Int)) 2 4 (V 11 + 1)) 3 nb (V 11 + 1)) 4 (8 * nb + 7) (-10006) 2 3 = ((nb + 1 : Nat) : Int) := by simp [upd2]
  have f3 : upd2 (upd2 (upd2 (upd2 M 2 3 ((nb + 1 : Nat) : Int)) 2 4 (V 11 + 1)) 3 nb (V 11 + 1)) 4 (8 * nb + 7) (-10006) 2 4 = V 11 + 1 := by simp [upd2]
  have f0 : upd2 (upd2 (upd2 (upd2 M 2 3 ((nb + 1 : Nat) : Int)) 2 4 (V 11 + 1)) 3 nb (V 11 + 1)) 4 (8 * nb + 7) (-10006) 2 0 = 8 := by simp [upd2, hw]
  have f4 : upd2 (upd2 (upd2 (upd2 M 2 3 ((nb + 1 : Nat) : Int)) 2 4 (V 11 + 1)) 3 nb (V 11 + 1)) 4 (8 * nb + 7) (-10006) 3 nb = V 11 + 1 := by simp [upd2]
  have f5 : ∀ r, r ≠ nb → upd2 (upd2 (upd2 (upd2 M 2 3 ((nb + 1 : Nat) : Int)) 2 4 (V 11 + 1)) 3 nb (V 11 + 1)) 4 (8 * nb + 7) (-10006) 3 r = M 3 r := fun r g => by simp [upd2, g]
  have f6 : upd2 (upd2 (upd2 (upd2 M 2 3 ((nb + 1 : Nat) : Int)) 2 4 (V 11 + 1)) 3 nb (V 11 + 1)) 4 (8 * nb + 7) (-10006) 4 (8 * nb + 7) = -10006 := by simp [upd2]
  have f7 : ∀ i, i ≠ 8 * nb + 7 → upd2 (upd2 (upd2 (upd2 M 2 3 ((nb + 1 : Nat) : Int)) 2 4 (V 11 + 1)) 3 nb (V 11 + 1)) 4 (8 * nb + 7) (-10006) 4 i = M 4 i := fun i g => by simp [upd2, g]
  generalize upd2 (upd2 (upd2 (upd2 M 2 3 ((nb + 1 : Nat) : Int)) 2 4 (V 11 + 1)) 3 nb (V 11 + 1)) 4 (8 * nb + 7) (-10006) = N at *
  have pw : ∀ (N' : Me) (i : Nat) (x : Int), N' 2 = N 2 → upd2 N' 4 i x 2 = N 2 := fun N' i x g => by rw [upd2_ne (by decide)]; exact g
  refine Wp.g1 rfl ?_
  refine Wp.callv rfl (m2_put nb 0 (nb + 1) x0 N h f0 f2 (by omega) (by omega) (by omega)) ?_
  have p1 : ∀ (N' : Me), N' 2 = N 2 → N' 2 0 = 8 ∧ N' 2 3 = ((nb + 1 : Nat) : Int) := fun N' g => by rw [g]; exact ⟨f0, f2⟩
  have q1 := pw N (8 * nb + 0) x0 rfl
  refine Wp.g1 rfl ?_
  refine Wp.calli rfl (m_legible x1 x2 h1 _ h) ?_
  refine Wp.callv rfl (m2_put nb 1 (nb + 1) (leg x1 x2) _ h (p1 _ q1).1 (p1 _ q1).2 (by omega) (by omega) (by omega)) ?_
  have q2 := pw _ (8 * nb + 1) (leg x1 x2) q1
  refine Wp.g1 rfl ?_
  refine Wp.callv rfl (m2_put nb 2 (nb + 1) x2 _ h (p1 _ q2).1 (p1 _ q2).2 (by omega) (by omega) (by omega)) ?_
  have q3 := pw _ (8 * nb + 2) x2 q2
  refine Wp.g1 rfl ?_
  refine Wp.callv rfl (m2_put nb 3 (nb + 1) x3 _ h (p1 _ q3).1 (p1 _ q3).2 (by omega) (by omega) (by omega)) ?_
  have q4 := pw _ (8 * nb + 3) x3 q3
  refine Wp.g1 rfl ?_
  refine Wp.callv rfl (m2_put nb 4 (nb + 1) x4 _ h (p1 _ q4).1 (p1 _ q4).2 (by omega) (by omega) (by omega)) ?_
  have q5 := pw _ (8 * nb + 4) x4 q4
  refine Wp.g1 rfl ?_
  refine Wp.callv rfl (m2_put nb 5 (nb + 1) x5 _ h (p1 _ q5).1 (p1 _ q5).2 (by omega) (by omega) (by omega)) ?_
  have q6 := pw _ (8 * nb + 5) x5 q5
  refine Wp.g1 rfl ?_
  rw [show upd2 (upd2 (upd2 (upd2 (upd2 (upd2 N 4 (8 * nb + 0) x0) 4 (8 * nb + 1) (leg x1 x2)) 4 (8 * nb + 2) x2) 4 (8 * nb + 3) x3) 4 (8 * nb + 4) x4) 4 (8 * nb + 5) x5 1 3 = V 0 by
    rw [upd2_ne (by decide), upd2_ne (by decide), upd2_ne (by decide), upd2_ne (by decide), upd2_ne (by decide), upd2_ne (by decide), f1 1 (by decide) (by decide) (by decide)]; exact hR.1.1]
  refine Wp.callv rfl (m2_put nb 6 (nb + 1) (V 0) _ h (p1 _ q6).1 (p1 _ q6).2 (by omega) (by omega) (by omega)) ?_
  have q7 := pw _ (8 * nb + 6) (V 0) q6
  refine Wp.g1 rfl ?_
  refine Wp.calli rfl (m2_numberOf nb (nb + 1) _ h (p1 _ q7).2 (by omega) (by omega)) ?_
  have z : ∀ k, k ≠ 4 → upd2 (upd2 (upd2 (upd2 (upd2 (upd2 (upd2 N 4 (8 * nb + 0) x0) 4 (8 * nb + 1) (leg x1 x2)) 4 (8 * nb + 2) x2) 4 (8 * nb + 3) x3) 4 (8 * nb + 4) x4) 4 (8 * nb + 5) x5) 4 (8 * nb + 6) (V 0) k = N k := fun k g => by repeat rw [upd2_ne g]
  refine Wp.re rfl ⟨by rw [z 3 (by decide), f4], rfl, fun k g => by rw [z k (by omega), f1 k (by omega) (by omega) (by omega)], ?_, ?_, ?_⟩
  · rw [z 2 (by decide), f0, hw]
  · rw [z 5 (by decide), f1 5 (by decide) (by decide) (by decide)]
  · refine hR.addB hW hn (fun k g1 g2 g3 => by rw [z k g3, f1 k g1 g2 g3]) (by rw [z 2 (by decide), f2]) (by rw [z 2 (by decide), f3]) (by rw [z 3 (by decide), f4]) (fun r g => by rw [z 3 (by decide), f5 r g]) (fun i hi => ?_) ⟨?_, ?_, ?_, ?_, ?_, ?_, ?_, ?_⟩
    · repeat rw [upd2_off (by omega)]
      exact f7 i (by omega)
    all_goals (repeat rw [upd2_off (by omega)])
    · exact upd2_at
    · exact upd2_at
    · exact upd2_at
    · exact upd2_at
    · exact upd2_at
    · exact upd2_at
    · exact upd2_at
    · exact f6
def sFound (a : At) (x0 x1 x2 x3 x4 x5 : Int) : Int × At := if (x0 < 0 ∨ 7 < x0) ∨ (x1 < 0 ∨ 999999 < x1) ∨ (x2 < 0 ∨ 63 < x2) ∨ (x3 < 0 ∨ 7 < x3) ∨ (x4 < 0 ∨ 11 < x4) ∨ (x5 < 0 ∨ 255 < x5) then (-10002, a) else if a.nb = 12 then (-10004, a) else (a.V 11 + 1, ((nBag a.V a.nb x0 (leg x1 x2) x2 x3 x4 x5, a.nb + 1, a.nc), (sv a).2))
theorem Of.done {M M1 : Me} {h : Ml} {a : At} {T : CT} {sc : Sc} {pc : Nat} {L st : List ZV} {r : Int} {V' : Nat → Int} {nb' nc' : Nat} (hk : ∀ k, 74 ≤ k → M1 k = M k) (hC : CR M1 a) (k : Wp zS0 T sc pc L st M1 h (Of M1 h r V' nb' nc')) : Wp zS0 T sc pc L st M1 h (Cs (r, ((V', nb', nc'), a.2)) M h) :=
  k.imp (fun _ _ _ q => ⟨q.1, q.2.1, fun k g => (q.2.2.1 k (by omega)).trans (hk k g), CR.office hC (fun k g => q.2.2.1 k (by omega)) q.2.2.2.1 q.2.2.2.2.1 q.2.2.2.2.2⟩)
theorem c_found (hC : CR M a) (hS : SO a t) (ht : t ≤ 600) (x0 x1 x2 x3 x4 x5 : Int) : Wp zS0 tX8_found none 0 [zr 0, zi x0, zi x1, zi x2, zi x3, zi x4, zi x5] [] M h (Cs (sFound a x0 x1 x2 x3 x4 x5) M h) := by
  have hR0 : OfRel M 1 a.V a.nb a.nc := hC.1
  have hW := hS.1
  have hnb : a.nb ≤ 12 := hW.1.2.2.1
  have h11 := hW.2.1.2.2.2.2.2.1.2
  unfold sFound
  refine Wp.g1 rfl ?_
  refine Wp.calli rfl (m_outside _ _ _ M h) ?_
  by_cases b0 : x0 < 0 ∨ 7 < x0
  · rw [if_pos b0, if_pos (Or.inl b0)]
    refine Wp.brt rfl (by decide) ?_
    refine Wp.g1 rfl ?_
    exact Cs.no hC (Wp.rei rfl rfl rfl rfl)
  rw [if_neg b0]
  refine Wp.brf rfl (by decide) ?_
  refine Wp.g1 rfl ?_
  refine Wp.calli rfl (m_outside _ _ _ M h) ?_
  by_cases b1 : x1 < 0 ∨ 999999 < x1
  · rw [if_pos b1, if_pos (Or.inr (Or.inl b1))]
    refine Wp.brt rfl (by decide) ?_
    refine Wp.g1 rfl ?_
    exact Cs.no hC (Wp.rei rfl rfl rfl rfl)
  rw [if_neg b1]
  refine Wp.brf rfl (by decide) ?_
  refine Wp.g1 rfl ?_
  refine Wp.calli rfl (m_outside _ _ _ M h) ?_
  by_cases b2 : x2 < 0 ∨ 63 < x2
  · rw [if_pos b2, if_pos (Or.inr (Or.inr (Or.inl b2)))]
    refine Wp.brt rfl (by decide) ?_
    refine Wp.g1 rfl ?_
    exact Cs.no hC (Wp.rei rfl rfl rfl rfl)
  rw [if_neg b2]
  refine Wp.brf rfl (by decide) ?_
  refine Wp.g1 rfl ?_
  refine Wp.calli rfl (m_outside _ _ _ M h) ?_
  by_cases b3 : x3 < 0 ∨ 7 < x3
  · rw [if_pos b3, if_pos (Or.inr (Or.inr (Or.inr (Or.inl b3))))]
    refine Wp.brt rfl (by decide) ?_
    refine Wp.g1 rfl ?_
    exact Cs.no hC (Wp.rei rfl rfl rfl rfl)
  rw [if_neg b3]
  refine Wp.brf rfl (by decide) ?_
  refine Wp.g1 rfl ?_
  refine Wp.calli rfl (m_outside _ _ _ M h) ?_
  by_cases b4 : x4 < 0 ∨ 11 < x4
  · rw [if_pos b4, if_pos (Or.inr (Or.inr (Or.inr (Or.inr (Or.inl b4)))))]
    refine Wp.brt rfl (by decide) ?_
    refine Wp.g1 rfl ?_
    exact Cs.no hC (Wp.rei rfl rfl rfl rfl)
  rw [if_neg b4]
  refine Wp.brf rfl (by decide) ?_
  refine Wp.g1 rfl ?_
  refine Wp.calli rfl (m_outside _ _ _ M h) ?_
  by_cases b5 : x5 < 0 ∨ 255 < x5
  · rw [if_pos b5, if_pos (Or.inr (Or.inr (Or.inr (Or.inr (Or.inr b5)))))]
    refine Wp.brf rfl (by decide) ?_
    refine Wp.g1 rfl ?_
    exact Cs.no hC (Wp.rei rfl rfl rfl rfl)
  rw [if_neg b5, if_neg (c := (x0 < 0 ∨ 7 < x0) ∨ (x1 < 0 ∨ 999999 < x1) ∨ (x2 < 0 ∨ 63 < x2) ∨ (x3 < 0 ∨ 7 < x3) ∨ (x4 < 0 ∨ 11 < x4) ∨ (x5 < 0 ∨ 255 < x5)) (by omega)]
  refine Wp.brt rfl (by decide) ?_
  refine Wp.g1 rfl ?_
  refine Wp.calli rfl (m2_isFull a.nb M h hR0.2.2.1.1) ?_
  by_cases hn : a.nb = 12
  · rw [if_pos hn, if_pos (by omega)]
    refine Wp.brf rfl (by decide) ?_
    refine Wp.g1 rfl ?_
    exact Cs.no hC (Wp.rei rfl rfl rfl rfl)
  rw [if_neg hn, if_neg (by omega)]
  refine Wp.brt rfl (by decide) ?_
  refine Wp.g1 rfl ?_
  refine Wp.call rfl (cr_save hC hS) (fun v M1 h1 q => ?_)
  obtain ⟨rfl, rfl, q1, q2⟩ := q
  have hR : OfRel M1 1 a.V a.nb a.nc := q2.1
  refine Wp.g1 rfl ?_
  refine Wp.call rfl (o_addBag hR q2.2.1.1 hW (by omega) (by omega) x0 x1 x2 x3 x4 x5 (by omega)) (fun v M2 h2 q => ?_)
  obtain ⟨rfl, rfl, q3, q4, q5, q6⟩ := q
  exact Wp.re rfl ⟨rfl, rfl, fun k g => (q3 k (by omega)).trans (q1 k g), CR.office q2 (fun k g => q3 k (by omega)) q4 q5 q6⟩
theorem leg_rn {x y : Int} (h : 0 ≤ x ∧ x ≤ 999999) : 0 ≤ leg x y ∧ leg x y ≤ 999999 := by
  have := lq_rn (ill := y) h.1 6 (by omega)
  unfold leg
  omega
theorem s_found {t' : Nat} (hS : SO a t) (ht : t + 1 ≤ t') (x0 x1 x2 x3 x4 x5 : Int) : SO (sFound a x0 x1 x2 x3 x4 x5).2 t' := by
  unfold sFound
  by_cases b : (x0 < 0 ∨ 7 < x0) ∨ (x1 < 0 ∨ 999999 < x1) ∨ (x2 < 0 ∨ 63 < x2) ∨ (x3 < 0 ∨ 7 < x3) ∨ (x4 < 0 ∨ 11 < x4) ∨ (x5 < 0 ∨ 255 < x5)
  · rw [if_pos b]; exact hS.mono (by omega)
  rw [if_neg b]
  by_cases hn : a.nb = 12
  · rw [if_pos hn]; exact hS.mono (by omega)
  rw [if_neg hn]
  have hnb : a.nb ≤ 12 := hS.1.1.2.2.1
  have h11 := hS.1.2.1.2.2.2.2.2.1.2
  exact SO.sv hS (by omega) (hS.1.addB (by omega) (by omega) (by omega) (by omega) (leg_rn (by omega)) (by omega) (by omega) (by omega) (by omega))
end COMING
