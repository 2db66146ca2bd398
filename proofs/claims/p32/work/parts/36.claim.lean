/-! claims come -/
section CLAIM
variable {M : Me} {h : Ml} {a : At} {V : Nat → Int} {nb nc t : Nat}
def sClaim (a : At) (x0 x1 x2 x3 x4 x5 x6 x7 : Int) : Int × At := if (x0 < 0 ∨ 999999 < x0) ∨ (x1 < 0 ∨ 7 < x1) ∨ (x2 < 0 ∨ 11 < x2) ∨ (x3 < 0 ∨ 255 < x3) ∨ (x4 < 1 ∨ 255 < x4) ∨ (x5 < 1 ∨ 99999 < x5) ∨ (x6 < 0 ∨ 20 < x6) ∨ (x7 < 0 ∨ 30 < x7) then (-10002, a) else if a.nc = 10 then (-10004, a) else (a.V 13 + 1, ((nClm a.V a.nc x0 x1 x2 x3 x4 x5 x6 (a.V 0 - x7), a.nb, a.nc + 1), (sv a).2))
theorem c_claim (hC : CR M a) (hS : SO a t) (ht : t ≤ 600) (x0 x1 x2 x3 x4 x5 x6 x7 : Int) : Wp zS0 tX8_claim none 0 [zr 0, zi x0, zi x1, zi x2, zi x3, zi x4, zi x5, zi x6, zi x7, zn, zn] [] M h (Cs (sClaim a x0 x1 x2 x3 x4 x5 x6 x7) M h) := by
  have hR0 : OfRel M 1 a.V a.nb a.nc := hC.1
  have hW := hS.1
  have hnc : a.nc ≤ 10 := hW.1.2.2.2
  have v13 := hW.2.1.2.2.2.2.2.2
  have v0 := hW.2.1.1
  unfold sClaim
  refine Wp.g1 rfl ?_
  refine Wp.calli rfl (m_outside _ _ _ M h) ?_
  by_cases b0 : x0 < 0 ∨ 999999 < x0
  · rw [if_pos b0, if_pos (Or.inl b0)]
    refine Wp.brt rfl (by decide) ?_
    refine Wp.g1 rfl ?_
    exact Cs.no hC (Wp.rei rfl rfl rfl rfl)
  rw [if_neg b0]
  refine Wp.brf rfl (by decide) ?_
  refine Wp.g1 rfl ?_
  refine Wp.calli rfl (m_outside _ _ _ M h) ?_
  by_cases b1 : x1 < 0 ∨ 7 < x1
  · rw [if_pos b1, if_pos (Or.inr (Or.inl b1))]
    refine Wp.brt rfl (by decide) ?_
    refine Wp.g1 rfl ?_
    exact Cs.no hC (Wp.rei rfl rfl rfl rfl)
  rw [if_neg b1]
  refine Wp.brf rfl (by decide) ?_
  refine Wp.g1 rfl ?_
  refine Wp.calli rfl (m_outside _ _ _ M h) ?_
  by_cases b2 : x2 < 0 ∨ 11 < x2
  · rw [if_pos b2, if_pos (Or.inr (Or.inr (Or.inl b2)))]
    refine Wp.brt rfl (by decide) ?_
    refine Wp.g1 rfl ?_
    exact Cs.no hC (Wp.rei rfl rfl rfl rfl)
  rw [if_neg b2]
  refine Wp.brf rfl (by decide) ?_
  refine Wp.g1 rfl ?_
  refine Wp.calli rfl (m_outside _ _ _ M h) ?_
  by_cases b3 : x3 < 0 ∨ 255 < x3
  · rw [if_pos b3, if_pos (Or.inr (Or.inr (Or.inr (Or.inl b3))))]
    refine Wp.brt rfl (by decide) ?_
    refine Wp.g1 rfl ?_
    exact Cs.no hC (Wp.rei rfl rfl rfl rfl)
  rw [if_neg b3]
  refine Wp.brf rfl (by decide) ?_
  refine Wp.g1 rfl ?_
  refine Wp.calli rfl (m_outside _ _ _ M h) ?_
  by_cases b4 : x4 < 1 ∨ 255 < x4
  · rw [if_pos b4, if_pos (Or.inr (Or.inr (Or.inr (Or.inr (Or.inl b4)))))]
    refine Wp.brt rfl (by decide) ?_
    refine Wp.g1 rfl ?_
    exact Cs.no hC (Wp.rei rfl rfl rfl rfl)
  rw [if_neg b4]
  refine Wp.brf rfl (by decide) ?_
  refine Wp.g1 rfl ?_
  refine Wp.calli rfl (m_outside _ _ _ M h) ?_
  by_cases b5 : x5 < 1 ∨ 99999 < x5
  · rw [if_pos b5, if_pos (Or.inr (Or.inr (Or.inr (Or.inr (Or.inr (Or.inl b5))))))]
    refine Wp.brt rfl (by decide) ?_
    refine Wp.g1 rfl ?_
    exact Cs.no hC (Wp.rei rfl rfl rfl rfl)
  rw [if_neg b5]
  refine Wp.brf rfl (by decide) ?_
  refine Wp.g1 rfl ?_
  refine Wp.calli rfl (m_outside _ _ _ M h) ?_
  by_cases b6 : x6 < 0 ∨ 20 < x6
  · rw [if_pos b6, if_pos (Or.inr (Or.inr (Or.inr (Or.inr (Or.inr (Or.inr (Or.inl b6)))))))]
    refine Wp.brt rfl (by decide) ?_
    refine Wp.g1 rfl ?_
    exact Cs.no hC (Wp.rei rfl rfl rfl rfl)
  rw [if_neg b6]
  refine Wp.brf rfl (by decide) ?_
  refine Wp.g1 rfl ?_
  refine Wp.calli rfl (m_outside _ _ _ M h) ?_
  by_cases b7 : x7 < 0 ∨ 30 < x7
  · rw [if_pos b7, if_pos (Or.inr (Or.inr (Or.inr (Or.inr (Or.inr (Or.inr (Or.inr b7)))))))]
    refine Wp.brf rfl (by decide) ?_
    refine Wp.g1 rfl ?_
    exact Cs.no hC (Wp.rei rfl rfl rfl rfl)
  rw [if_neg b7]
  rw [if_neg (c := (x0 < 0 ∨ 999999 < x0) ∨ (x1 < 0 ∨ 7 < x1) ∨ (x2 < 0 ∨ 11 < x2) ∨ (x3 < 0 ∨ 255 < x3) ∨ (x4 < 1 ∨ 255 < x4) ∨ (x5 < 1 ∨ 99999 < x5) ∨ (x6 < 0 ∨ 20 < x6) ∨ (x7 < 0 ∨ 30 < x7)) (by omega)]
  refine Wp.brt rfl (by decide) ?_
  refine Wp.g1 rfl ?_
  refine Wp.calli rfl (m5_isFull a.nc M h hR0.2.2.1.2.2.1) ?_
  by_cases hn : a.nc = 10
  · rw [if_pos hn, if_pos (by omega)]
    refine Wp.brf rfl (by decide) ?_
    refine Wp.g1 rfl ?_
    exact Cs.no hC (Wp.rei rfl rfl rfl rfl)
  rw [if_neg hn, if_neg (by omega)]
  refine Wp.brt rfl (by decide) ?_
  refine Wp.g1 rfl ?_
  refine Wp.call rfl (cr_save hC hS) (fun v M1 h1 q => ?_)
  obtain ⟨rfl, rfl, q1, q2⟩ := q
  have hR : OfRel M1 1 a.V a.nb a.nc := q2.1
  have hw : M1 5 0 = 9 := q2.2.1.2
  have e13 : w32 (a.V 13 + 1) = a.V 13 + 1 := w32_id ⟨by omega, by omega⟩
  refine Wp.g1 rfl ?_
  refine Wp.calli rfl (m5_append a.nc M1 _ hw hR.2.2.1.2.2.1 (by omega)) ?_
  rw [show M1 5 4 = a.V 13 from hR.2.2.1.2.2.2, e13]
  have f1 : ∀ k, k ≠ 5 → k ≠ 6 → k ≠ 7 → (upd2 (upd2 (upd2 (upd2 M1 5 3 ((a.nc + 1 : Nat) : Int)) 5 4 (a.V 13 + 1)) 6 a.nc (a.V 13 + 1)) 7 (9 * a.nc + 8) (-10006)) k = M1 k := fun k g1 g2 g3 => by rw [upd2_ne g3, upd2_ne g2, upd2_ne g1, upd2_ne g1]
  have f2 : (upd2 (upd2 (upd2 (upd2 M1 5 3 ((a.nc + 1 : Nat) : Int)) 5 4 (a.V 13 + 1)) 6 a.nc (a.V 13 + 1)) 7 (9 * a.nc + 8) (-10006)) 5 3 = ((a.nc + 1 : Nat) : Int) := by simp [upd2]
  have f3 : (upd2 (upd2 (upd2 (upd2 M1 5 3 ((a.nc + 1 : Nat) : Int)) 5 4 (a.V 13 + 1)) 6 a.nc (a.V 13 + 1)) 7 (9 * a.nc + 8) (-10006)) 5 4 = a.V 13 + 1 := by simp [upd2]
  have f0 : (upd2 (upd2 (upd2 (upd2 M1 5 3 ((a.nc + 1 : Nat) : Int)) 5 4 (a.V 13 + 1)) 6 a.nc (a.V 13 + 1)) 7 (9 * a.nc + 8) (-10006)) 5 0 = 9 := by simp [upd2, hw]
  have f4 : (upd2 (upd2 (upd2 (upd2 M1 5 3 ((a.nc + 1 : Nat) : Int)) 5 4 (a.V 13 + 1)) 6 a.nc (a.V 13 + 1)) 7 (9 * a.nc + 8) (-10006)) 6 a.nc = a.V 13 + 1 := by simp [upd2]
  have f5 : ∀ r, r ≠ a.nc → (upd2 (upd2 (upd2 (upd2 M1 5 3 ((a.nc + 1 : Nat) : Int)) 5 4 (a.V 13 + 1)) 6 a.nc (a.V 13 + 1)) 7 (9 * a.nc + 8) (-10006)) 6 r = M1 6 r := fun r g => by simp [upd2, g]
  have f6 : (upd2 (upd2 (upd2 (upd2 M1 5 3 ((a.nc + 1 : Nat) : Int)) 5 4 (a.V 13 + 1)) 6 a.nc (a.V 13 + 1)) 7 (9 * a.nc + 8) (-10006)) 7 (9 * a.nc + 8) = -10006 := by simp [upd2]
  have f7 : ∀ i, i ≠ 9 * a.nc + 8 → (upd2 (upd2 (upd2 (upd2 M1 5 3 ((a.nc + 1 : Nat) : Int)) 5 4 (a.V 13 + 1)) 6 a.nc (a.V 13 + 1)) 7 (9 * a.nc + 8) (-10006)) 7 i = M1 7 i := fun i g => by simp [upd2, g]
  generalize (upd2 (upd2 (upd2 (upd2 M1 5 3 ((a.nc + 1 : Nat) : Int)) 5 4 (a.V 13 + 1)) 6 a.nc (a.V 13 + 1)) 7 (9 * a.nc + 8) (-10006)) = N at *
  have pw : ∀ (N' : Me) (i : Nat) (x : Int), N' 5 = N 5 → upd2 N' 7 i x 5 = N 5 := fun N' i x g => by rw [upd2_ne (by decide)]; exact g
  have p1 : ∀ (N' : Me), N' 5 = N 5 → N' 5 0 = 9 ∧ N' 5 3 = ((a.nc + 1 : Nat) : Int) := fun N' g => by rw [g]; exact ⟨f0, f2⟩
  have q1' : N 5 = N 5 := rfl
  refine Wp.g1 rfl ?_
  refine Wp.callv rfl (m5_put a.nc 0 (a.nc + 1) x0 _ _ (p1 _ q1').1 (p1 _ q1').2 (by omega) (by omega) (by omega)) ?_
  have q2' := pw _ (9 * a.nc + 0) x0 q1'
  refine Wp.g1 rfl ?_
  refine Wp.callv rfl (m5_put a.nc 1 (a.nc + 1) x1 _ _ (p1 _ q2').1 (p1 _ q2').2 (by omega) (by omega) (by omega)) ?_
  have q3' := pw _ (9 * a.nc + 1) x1 q2'
  refine Wp.g1 rfl ?_
  refine Wp.callv rfl (m5_put a.nc 2 (a.nc + 1) x2 _ _ (p1 _ q3').1 (p1 _ q3').2 (by omega) (by omega) (by omega)) ?_
  have q4' := pw _ (9 * a.nc + 2) x2 q3'
  refine Wp.g1 rfl ?_
  refine Wp.callv rfl (m5_put a.nc 3 (a.nc + 1) x3 _ _ (p1 _ q4').1 (p1 _ q4').2 (by omega) (by omega) (by omega)) ?_
  have q5' := pw _ (9 * a.nc + 3) x3 q4'
  refine Wp.g1 rfl ?_
  refine Wp.callv rfl (m5_put a.nc 4 (a.nc + 1) x4 _ _ (p1 _ q5').1 (p1 _ q5').2 (by omega) (by omega) (by omega)) ?_
  have q6' := pw _ (9 * a.nc + 4) x4 q5'
  refine Wp.g1 rfl ?_
  refine Wp.callv rfl (m5_put a.nc 5 (a.nc + 1) x5 _ _ (p1 _ q6').1 (p1 _ q6').2 (by omega) (by omega) (by omega)) ?_
  have q7' := pw _ (9 * a.nc + 5) x5 q6'
  refine Wp.g1 rfl ?_
  refine Wp.callv rfl (m5_put a.nc 6 (a.nc + 1) x6 _ _ (p1 _ q7').1 (p1 _ q7').2 (by omega) (by omega) (by omega)) ?_
  have q8' := pw _ (9 * a.nc + 6) x6 q7'
  refine Wp.g1 rfl ?_
  have e0 : w32 (a.V 0 - x7) = a.V 0 - x7 := w32_id ⟨by omega, by omega⟩
  rw [show (upd2 (upd2 (upd2 (upd2 (upd2 (upd2 (upd2 N 7 (9 * a.nc + 0) x0) 7 (9 * a.nc + 1) x1) 7 (9 * a.nc + 2) x2) 7 (9 * a.nc + 3) x3) 7 (9 * a.nc + 4) x4) 7 (9 * a.nc + 5) x5) 7 (9 * a.nc + 6) x6) 1 3 = a.V 0 by
    rw [upd2_ne (by decide), upd2_ne (by decide), upd2_ne (by decide), upd2_ne (by decide), upd2_ne (by decide), upd2_ne (by decide), upd2_ne (by decide), f1 1 (by decide) (by decide) (by decide)]; exact hR.1.1, e0]
  refine Wp.callv rfl (m5_put a.nc 7 (a.nc + 1) (a.V 0 - x7) _ _ (p1 _ q8').1 (p1 _ q8').2 (by omega) (by omega) (by omega)) ?_
  have q9' := pw _ (9 * a.nc + 7) (a.V 0 - x7) q8'
  refine Wp.g1 rfl ?_
  refine Wp.calli rfl (m5_numberOf a.nc (a.nc + 1) _ _ (p1 _ q9').2 (by omega) (by omega)) ?_
  have z : ∀ k, k ≠ 7 → (upd2 (upd2 (upd2 (upd2 (upd2 (upd2 (upd2 (upd2 N 7 (9 * a.nc + 0) x0) 7 (9 * a.nc + 1) x1) 7 (9 * a.nc + 2) x2) 7 (9 * a.nc + 3) x3) 7 (9 * a.nc + 4) x4) 7 (9 * a.nc + 5) x5) 7 (9 * a.nc + 6) x6) 7 (9 * a.nc + 7) (a.V 0 - x7)) k = N k := fun k g => by repeat rw [upd2_ne g]
  refine Wp.re rfl ⟨by rw [z 6 (by decide), f4], rfl, fun k g => by rw [z k (by omega), f1 k (by omega) (by omega) (by omega)]; exact q1 k g, CR.office q2 (fun k g => by rw [z k (by omega), f1 k (by omega) (by omega) (by omega)]) ?_ ?_ ?_⟩
  · rw [z 2 (by decide), f1 2 (by decide) (by decide) (by decide)]
  · rw [z 5 (by decide), f0, hw]
  · refine hR.addC hW (by omega) (fun k g1 g2 g3 => by rw [z k g3, f1 k g1 g2 g3]) (by rw [z 5 (by decide), f2]) (by rw [z 5 (by decide), f3]) (by rw [z 6 (by decide), f4]) (fun r g => by rw [z 6 (by decide), f5 r g]) (fun i hi => ?_) ⟨?_, ?_, ?_, ?_, ?_, ?_, ?_, ?_, ?_⟩
    · repeat rw [upd2_off (by omega)]
      exact f7 i (by omega)
    all_goals (repeat rw [upd2_off (by omega)])
    · exact upd2_at
    · exact upd2_at
    · exact upd2_at
    · exact upd2_at
    · exact upd2_at
    · exact upd2_at
    · exact upd2_at
    · exact upd2_at
    · exact f6

theorem s_claim {t' : Nat} (hS : SO a t) (ht : t + 1 ≤ t') (x0 x1 x2 x3 x4 x5 x6 x7 : Int) : SO (sClaim a x0 x1 x2 x3 x4 x5 x6 x7).2 t' := by
  unfold sClaim
  by_cases b : (x0 < 0 ∨ 999999 < x0) ∨ (x1 < 0 ∨ 7 < x1) ∨ (x2 < 0 ∨ 11 < x2) ∨ (x3 < 0 ∨ 255 < x3) ∨ (x4 < 1 ∨ 255 < x4) ∨ (x5 < 1 ∨ 99999 < x5) ∨ (x6 < 0 ∨ 20 < x6) ∨ (x7 < 0 ∨ 30 < x7)
  · rw [if_pos b]; exact hS.mono (by omega)
  rw [if_neg b]
  by_cases hn : a.nc = 10
  · rw [if_pos hn]; exact hS.mono (by omega)
  rw [if_neg hn]
  have hnc : a.nc ≤ 10 := hS.1.1.2.2.2
  have h13 := hS.1.2.1.2.2.2.2.2.2
  have v0 := hS.1.2.1.1
  exact SO.sv hS (by omega) (hS.1.addC (by omega) (by omega) (by omega) (by omega) (by omega) (by omega) (by omega) (by omega) (by omega) (by omega) (by omega))
end CLAIM
