/-! bags and claims go -/
section GOING
variable {M : Me} {h : Ml} {a : At} {V : Nat → Int} {nb nc t : Nat}
theorem o_rmB (hR : OfRel M 1 V nb nc) (hw : M 2 0 = 8) (hn : nb ≤ 12) {b : Nat} (hb : b < nb) : Wp zS0 tX6_remove none 0 [zr 2, zi b, zn] [] M h (fun v M' h' => v = none ∧ h' = h ∧ (∀ k, k ≠ 2 → k ≠ 3 → k ≠ 4 → M' k = M k) ∧ M' 2 0 = M 2 0 ∧ OfRel M' 1 (rmB V nb b) (nb - 1) nc) := by
  refine (m2_remove b nb M h hw hR.2.2.1.1 hn hb).imp (fun v M' h' q => ?_)
  obtain ⟨rfl, rfl, rfl⟩ := q
  have k1 : ∀ k, k ≠ 2 → k ≠ 3 → k ≠ 4 → upd2 (cpy2 (cpy2 M 3 3 (b + 1) b (nb - b - 1)) 4 4 (8 * (b + 1)) (8 * b) (8 * (nb - b - 1))) 2 3 ((nb - 1 : Nat) : Int) k = M k := fun k g1 g2 g3 => by
    funext j
    simp [upd2, cpy2, g1, g2, g3]
  refine ⟨rfl, rfl, k1, by simp [upd2, cpy2], hR.delB hn hb k1 (by simp [upd2]) (by simp [upd2, cpy2]) (fun r hr => ?_) (fun r k hr hk => ?_)⟩
  · rw [upd2_ne (by decide)]
    unfold cpy2 sk
    rw [if_neg (by omega)]
    by_cases g : r < b
    · rw [if_pos g, if_neg (by omega)]
    · rw [if_neg g, if_pos ⟨rfl, by omega, by omega⟩, show b + 1 + (r - b) = r + 1 by omega]
  · rw [upd2_ne (by decide)]
    have e : ∀ j, cpy2 M 3 3 (b + 1) b (nb - b - 1) 4 j = M 4 j := fun j => by simp [cpy2]
    unfold sk
    by_cases g : r < b
    · rw [if_pos g, ← e]
      show (if _ then _ else _) = _
      rw [if_neg (by omega)]
    · rw [if_neg g, ← e]
      show (if _ then _ else _) = _
      rw [if_pos ⟨rfl, by omega, by omega⟩, show 8 * (b + 1) + (8 * r + k - 8 * b) = 8 * (r + 1) + k by omega]
theorem o_rmC (hR : OfRel M 1 V nb nc) (hw : M 5 0 = 9) (hn : nc ≤ 10) (hnb : nb ≤ 12) {c : Nat} (hc : c < nc) (hf : ∀ r, r < nb → V (114 + 10 * c + 9) ≠ V (18 + 8 * r)) : Wp zS0 tX6_remove none 0 [zr 5, zi c, zn] [] M h (fun v M' h' => v = none ∧ h' = h ∧ (∀ k, k ≠ 5 → k ≠ 6 → k ≠ 7 → M' k = M k) ∧ M' 5 0 = M 5 0 ∧ OfRel M' 1 (rmC V nc c) nb (nc - 1)) := by
  refine (m5_remove c nc M h hw hR.2.2.1.2.2.1 hn hc).imp (fun v M' h' q => ?_)
  obtain ⟨rfl, rfl, rfl⟩ := q
  have k1 : ∀ k, k ≠ 5 → k ≠ 6 → k ≠ 7 → upd2 (cpy2 (cpy2 M 6 6 (c + 1) c (nc - c - 1)) 7 7 (9 * (c + 1)) (9 * c) (9 * (nc - c - 1))) 5 3 ((nc - 1 : Nat) : Int) k = M k := fun k g1 g2 g3 => by
    funext j
    simp [upd2, cpy2, g1, g2, g3]
  refine ⟨rfl, rfl, k1, by simp [upd2, cpy2], hR.delC hn hnb hc hf k1 (by simp [upd2]) (by simp [upd2, cpy2]) (fun r hr => ?_) (fun r k hr hk => ?_)⟩
  · rw [upd2_ne (by decide)]
    unfold cpy2 sk
    rw [if_neg (by omega)]
    by_cases g : r < c
    · rw [if_pos g, if_neg (by omega)]
    · rw [if_neg g, if_pos ⟨rfl, by omega, by omega⟩, show c + 1 + (r - c) = r + 1 by omega]
  · rw [upd2_ne (by decide)]
    have e : ∀ j, cpy2 M 6 6 (c + 1) c (nc - c - 1) 7 j = M 7 j := fun j => by simp [cpy2]
    unfold sk
    by_cases g : r < c
    · rw [if_pos g, ← e]
      show (if _ then _ else _) = _
      rw [if_neg (by omega)]
    · rw [if_neg g, ← e]
      show (if _ then _ else _) = _
      rw [if_pos ⟨rfl, by omega, by omega⟩, show 9 * (c + 1) + (9 * r + k - 9 * c) = 9 * (r + 1) + k by omega]
theorem rm_comm {b c : Nat} (hb : b < nb) (hn : nb ≤ 12) : rmC (rmB V nb b) nc c = rmB (rmC V nc c) nb b := by
  have e10 : ∀ k, k ≠ 10 → ¬ (18 + 8 * b ≤ k ∧ k < 18 + 8 * (nb - 1)) → rmB V nb b k = V k := fun k g1 g2 => by unfold rmB; rw [if_neg g1, if_neg g2]
  have e12 : ∀ k, k ≠ 12 → k < 114 → rmC V nc c k = V k := fun k g1 g2 => rmC_off g1 (Or.inl g2)
  funext k
  by_cases h10 : k = 10
  · rw [h10, rmB_10, rmC_off (by decide) (Or.inl (by decide)), rmB_10]
  by_cases h12 : k = 12
  · rw [h12, rmC_12, rmB_off (by decide) (Or.inl (by decide)), rmC_12]
  by_cases hs : 18 + 8 * b ≤ k ∧ k < 18 + 8 * (nb - 1)
  · rw [rmC_off h12 (Or.inl (by omega))]
    unfold rmB
    rw [if_neg h10, if_pos hs, if_neg h10, if_pos hs, e12 _ (by omega) (by omega)]
  · have : rmB (rmC V nc c) nb b k = rmC V nc c k := by unfold rmB; rw [if_neg h10, if_neg hs]
    rw [this]
    unfold rmC
    rw [if_neg h12, if_neg h12]
    by_cases hq : 114 + 10 * c ≤ k ∧ k < 114 + 10 * (nc - 1)
    · rw [if_pos hq, if_pos hq, e10 _ (by omega) (by omega)]
    · rw [if_neg hq, if_neg hq, e10 _ h10 hs]
/-- a count and the money paid -/
def cntV (V : Nat → Int) (k : Nat) (p : Int) : Nat → Int := up (up V k (w32 (V k + 1))) 17 (w32 (V 17 + p))
theorem WF.cnt (hW : WF V nb nc t) {k : Nat} {p : Int} (hk : 14 ≤ k ∧ k < 17) : WF (cntV V k p) nb nc t := by
  have e : ∀ j, j < 14 ∨ 18 ≤ j → cntV V k p j = V j := fun j g => by unfold cntV; rw [up_off (by omega), up_off (by omega)]
  obtain ⟨v0, v1, v2, v3, v4, -⟩ := hW.2.1
  refine hW.head (Nat.le_refl _) (fun j g => e j (by omega)) (e _ (by omega)) (e _ (by omega)) (e _ (by omega)) (e _ (by omega)) ?_
  rw [e _ (by omega), e _ (by omega), e _ (by omega), e _ (by omega)]
  exact ⟨v0, v1, v2, v3, fun i hi => by rw [e _ (by omega)]; exact v4 i hi⟩
def sDeliver (a : At) (x : Int) : Int × At := if rkC a.V a.nc x < a.nc then
    (if a.V (114 + 10 * rkC a.V a.nc x + 9) = 0 then (-10003, a) else (pDel a.V (rkC a.V a.nc x) (a.V 0), ((cntV (rmC (rmB a.V a.nb (rkB a.V a.nb (a.V (114 + 10 * rkC a.V a.nc x + 9)))) a.nc (rkC a.V a.nc x)) 14 (pDel a.V (rkC a.V a.nc x) (a.V 0)), a.nb - 1, a.nc - 1), (sv a).2))) else (-10001, a)
theorem OfRel.cnt {M : Me} {V : Nat → Int} {nb nc : Nat} (hR : OfRel M 1 V nb nc) {p : Int} : OfRel (upd2 (upd2 M 1 7 (w32 (V 14 + 1))) 1 10 (w32 (V 17 + p))) 1 (cntV V 14 p) nb nc ∧ OfRel (upd2 (upd2 M 1 8 (w32 (V 15 + 1))) 1 10 (w32 (V 17 + p))) 1 (cntV V 15 p) nb nc := by
  obtain ⟨f0, f1, f2, f3, f4, f5, f6, f7⟩ := hR.1
  constructor
  · refine hR.head (fun k g1 g2 => by rw [upd2_ne (by omega), upd2_ne (by omega)]) (fun j g => by unfold cntV; rw [up_off (by omega), up_off (by omega)]) (by unfold cntV; rw [up_off (by omega), up_off (by omega)]) (by unfold cntV; rw [up_off (by omega), up_off (by omega)]) ?_ (fun j hj => ?_)
    · unfold cntV
      simp only [upd2, up]
      exact ⟨f0, f1, f2, f3, rfl, f5, f6, rfl⟩
    · unfold cntV
      rw [upd2_ne (by decide), upd2_ne (by decide), up_off (by omega), up_off (by omega)]
      exact hR.2.1 j hj
  · refine hR.head (fun k g1 g2 => by rw [upd2_ne (by omega), upd2_ne (by omega)]) (fun j g => by unfold cntV; rw [up_off (by omega), up_off (by omega)]) (by unfold cntV; rw [up_off (by omega), up_off (by omega)]) (by unfold cntV; rw [up_off (by omega), up_off (by omega)]) ?_ (fun j hj => ?_)
    · unfold cntV
      simp only [upd2, up]
      exact ⟨f0, f1, f2, f3, f4, rfl, f6, rfl⟩
    · unfold cntV
      rw [upd2_ne (by decide), upd2_ne (by decide), up_off (by omega), up_off (by omega)]
      exact hR.2.1 j hj
theorem c_deliver (hC : CR M a) (hS : SO a t) (x : Int) : Wp zS0 tX8_deliver none 0 [zr 0, zi x, zn, zn] [] M h (Cs (sDeliver a x) M h) := by
  have hK := hC.cs hS
  have hW := hS.1
  have hnb : a.nb ≤ 12 := hW.1.2.2.1
  have hnc : a.nc ≤ 10 := hW.1.2.2.2
  have v0 := hW.2.1.1
  unfold sDeliver
  refine Wp.g1 rfl ?_
  refine Wp.calli rfl (c_rowC hK x) ?_
  refine Wp.g1 rfl ?_
  by_cases hk : rkC a.V a.nc x < a.nc
  · rw [if_pos hk, if_pos hk]
    generalize rkC a.V a.nc x = c at *
    refine Wp.brt rfl (by omega) ?_
    refine Wp.g1 rfl ?_
    refine Wp.calli rfl (o_freeC hK hk) ?_
    by_cases g0 : a.V (114 + 10 * c + 9) = 0
    · rw [if_pos g0, if_pos g0]
      refine Wp.brf rfl (by decide) ?_
      refine Wp.g1 rfl ?_
      exact Cs.no hC (Wp.rei rfl rfl rfl rfl)
    · rw [if_neg g0, if_neg g0]
      refine Wp.brt rfl (by decide) ?_
      refine Wp.g1 rfl ?_
      refine Wp.call rfl (cr_save hC hS) (fun v M1 h1 q => ?_)
      obtain ⟨rfl, rfl, q1, q2⟩ := q
      have hR : OfRel M1 1 a.V a.nb a.nc := q2.1
      obtain ⟨a1, a2, a3, a4, a5⟩ := id hR
      have hw2 : M1 2 0 = 8 := q2.2.1.1
      have hw5 : M1 5 0 = 9 := q2.2.1.2
      have hK1 : CS M1 a.V a.nb a.nc t := ⟨hR, hw2, hw5, hW⟩
      obtain ⟨r1, r2⟩ := rk_of hW hk g0
      have ep : pt a.V c = a.V (114 + 10 * c + 9) := by unfold pt; rw [if_neg g0]
      refine Wp.g1 rfl ?_
      rw [a1.1]
      refine Wp.calli rfl (c_payD hK1 c (a.V 0) hk (by omega)) ?_
      refine Wp.g1 rfl ?_
      have k5 := m5_partner c a.nc M1 h1 hw5 a3.2.2.1 hnc hk
      rw [show M1 7 (9 * c + 8) = pt a.V c from (a5 c hk).2.2, ep] at k5
      refine Wp.calli rfl k5 ?_
      have k6 := c_rowB (h := h1) hK1 (a.V (114 + 10 * c + 9))
      rw [if_pos r1] at k6
      refine Wp.calli rfl k6 ?_
      generalize rkB a.V a.nb (a.V (114 + 10 * c + 9)) = b at *
      refine Wp.call rfl (o_rmB hR hw2 hnb r1) (fun v M2 h2 q => ?_)
      obtain ⟨rfl, rfl, q3, q4, q5⟩ := q
      refine Wp.g1 rfl ?_
      refine Wp.call rfl (o_rmC (c := c) q5 (by rw [q3 5 (by decide) (by decide) (by decide)]; exact hw5) hnc (by omega) hk (fun r hr => ?_)) (fun v M3 h3 q => ?_)
      · rw [rmB_off (by omega) (by omega), show rmB a.V a.nb b (18 + 8 * r) = a.V (18 + 8 * sk b r) from rmB_sk (k := 0) (by omega) (by omega), ← r2]
        intro e
        exact sk_ne b r (hW.2.2.2.2.1 _ _ r1 (sk_lt (by omega)) e).symm
      · obtain ⟨rfl, rfl, q6, q7, q8⟩ := q
        have e14 : rmC (rmB a.V a.nb b) a.nc c 14 = a.V 14 := by rw [rmC_off (by decide) (Or.inl (by decide)), rmB_off (by decide) (Or.inl (by decide))]
        have e17 : rmC (rmB a.V a.nb b) a.nc c 17 = a.V 17 := by rw [rmC_off (by decide) (Or.inl (by decide)), rmB_off (by decide) (Or.inl (by decide))]
        have hR3 := q8.cnt (p := pDel a.V c (a.V 0))
        refine Wp.g1 rfl ?_
        rw [show M3 1 7 = rmC (rmB a.V a.nb b) a.nc c 14 from q8.1.2.2.2.2.1]
        rw [upd2_off (M := M3) (k := 1) (j := 7) (i := 10) (by decide), show M3 1 10 = rmC (rmB a.V a.nb b) a.nc c 17 from q8.1.2.2.2.2.2.2.2]
        refine Wp.re rfl ⟨rfl, rfl, fun k g => ?_, CR.office q2 (fun k g => ?_) ?_ ?_ hR3.1⟩
        · rw [upd2_ne (by omega), upd2_ne (by omega), q6 k (by omega) (by omega) (by omega), q3 k (by omega) (by omega) (by omega)]; exact q1 k g
        · rw [upd2_ne (by omega), upd2_ne (by omega), q6 k (by omega) (by omega) (by omega), q3 k (by omega) (by omega) (by omega)]
        · rw [upd2_ne (by omega), upd2_ne (by omega), q6 2 (by omega) (by omega) (by omega), q4]
        · rw [upd2_ne (by omega), upd2_ne (by omega), q7, q3 5 (by omega) (by omega) (by omega)]
  · rw [if_neg hk, if_neg hk]
    refine Wp.brf rfl (by decide) ?_
    refine Wp.g1 rfl ?_
    exact Cs.no hC (Wp.rei rfl rfl rfl rfl)
theorem s_deliver {t' : Nat} (hS : SO a t) (ht : t ≤ t') (x : Int) : SO (sDeliver a x).2 t' := by
  unfold sDeliver
  by_cases b : rkC a.V a.nc x < a.nc
  · rw [if_pos b]
    split
    · exact hS.mono ht
    · next g0 =>
      generalize rkC a.V a.nc x = c at *
      obtain ⟨r1, r2⟩ := rk_of hS.1 b g0
      have hW' := hS.1.mono ht
      refine SO.sv hS ht (WF.cnt ?_ (by omega))
      rw [rm_comm r1 hW'.1.2.2.1]
      refine (hW'.delC (Nat.le_refl _) b).delB (Nat.le_refl _) r1 (fun r hr => ?_)
      rw [rmC_sk (by omega) (by omega), rmC_off (by omega) (Or.inl (by have : a.nb ≤ 12 := hW'.1.2.2.1; omega)), r2]
      intro e
      exact sk_ne c r (hW'.2.2.2.2.2.2 _ _ (sk_lt (by omega)) b e (by rw [e]; exact g0))
  · rw [if_neg b]; exact hS.mono ht
def sGiveUp (a : At) (x : Int) : Int × At := if rkC a.V a.nc x < a.nc then
    (if a.V (114 + 10 * rkC a.V a.nc x + 9) = 0 ∧ 21 ≤ a.V 0 - a.V (114 + 10 * rkC a.V a.nc x + 8) then (pGiv a.V (rkC a.V a.nc x), ((cntV (rmC a.V a.nc (rkC a.V a.nc x)) 15 (pGiv a.V (rkC a.V a.nc x)), a.nb, a.nc - 1), (sv a).2)) else (-10003, a)) else (-10001, a)
theorem c_giveUp (hC : CR M a) (hS : SO a t) (x : Int) : Wp zS0 tX8_giveUp none 0 [zr 0, zi x, zn, zn, zn] [] M h (Cs (sGiveUp a x) M h) := by
  have hK := hC.cs hS
  have hW := hS.1
  have hnb : a.nb ≤ 12 := hW.1.2.2.1
  have hnc : a.nc ≤ 10 := hW.1.2.2.2
  have v0 := hW.2.1.1
  unfold sGiveUp
  refine Wp.g1 rfl ?_
  refine Wp.calli rfl (c_rowC hK x) ?_
  refine Wp.g1 rfl ?_
  by_cases hk : rkC a.V a.nc x < a.nc
  · rw [if_pos hk, if_pos hk]
    generalize rkC a.V a.nc x = c at *
    have hc8 := (hW.2.2.2.1 c hk).2.2.2.2.2.2.2.2.2.1
    refine Wp.brt rfl (by omega) ?_
    refine Wp.g1 rfl ?_
    have k5 := m5_get c 7 a.nc M h hK.2.2.1 hK.1.2.2.1.2.2.1 hnc hk (by omega)
    rw [show M 7 (9 * c + 7) = a.V (114 + 10 * c + 8) from (hK.1.2.2.2.2 c hk).2.1 7 (by omega)] at k5
    refine Wp.calli rfl k5 ?_
    refine Wp.g1 rfl ?_
    rw [hK.1.1.1, w32_id (x := a.V 0 - a.V (114 + 10 * c + 8)) ⟨by omega, by omega⟩]
    refine Wp.calli rfl (o_freeC hK hk) ?_
    by_cases g0 : a.V (114 + 10 * c + 9) = 0
    · rw [if_pos g0]
      refine Wp.brf rfl (by decide) ?_
      refine Wp.g1 rfl ?_
      by_cases g1 : 21 ≤ a.V 0 - a.V (114 + 10 * c + 8)
      · rw [if_pos ⟨g0, g1⟩]
        refine Wp.brt rfl (by omega) ?_
        refine Wp.g1 rfl ?_
        refine Wp.call rfl (cr_save hC hS) (fun v M1 h1 q => ?_)
        obtain ⟨rfl, rfl, q1, q2⟩ := q
        have hR : OfRel M1 1 a.V a.nb a.nc := q2.1
        have hw5 : M1 5 0 = 9 := q2.2.1.2
        have hK1 : CS M1 a.V a.nb a.nc t := ⟨hR, q2.2.1.1, hw5, hW⟩
        refine Wp.g1 rfl ?_
        refine Wp.calli rfl (c_payG hK1 c hk) ?_
        refine Wp.g1 rfl ?_
        refine Wp.call rfl (o_rmC (c := c) hR hw5 hnc hnb hk (fun r hr => by have := (hW.2.2.1 r hr).1; omega)) (fun v M3 h3 q => ?_)
        obtain ⟨rfl, rfl, q6, q7, q8⟩ := q
        have hR3 := q8.cnt (p := pGiv a.V c)
        refine Wp.g1 rfl ?_
        rw [show M3 1 8 = rmC a.V a.nc c 15 from q8.1.2.2.2.2.2.1]
        rw [upd2_off (M := M3) (k := 1) (j := 8) (i := 10) (by decide), show M3 1 10 = rmC a.V a.nc c 17 from q8.1.2.2.2.2.2.2.2]
        refine Wp.re rfl ⟨rfl, rfl, fun k g => ?_, CR.office q2 (fun k g => ?_) ?_ ?_ hR3.2⟩
        · rw [upd2_ne (by omega), upd2_ne (by omega), q6 k (by omega) (by omega) (by omega)]; exact q1 k g
        · rw [upd2_ne (by omega), upd2_ne (by omega), q6 k (by omega) (by omega) (by omega)]
        · rw [upd2_ne (by omega), upd2_ne (by omega), q6 2 (by omega) (by omega) (by omega)]
        · rw [upd2_ne (by omega), upd2_ne (by omega), q7]
      · rw [if_neg (fun q => g1 q.2)]
        refine Wp.brf rfl (by omega) ?_
        refine Wp.g1 rfl ?_
        exact Cs.no hC (Wp.rei rfl rfl rfl rfl)
    · rw [if_neg g0, if_neg (fun q => g0 q.1)]
      refine Wp.brt rfl (by decide) ?_
      refine Wp.g1 rfl ?_
      exact Cs.no hC (Wp.rei rfl rfl rfl rfl)
  · rw [if_neg hk, if_neg hk]
    refine Wp.brf rfl (by decide) ?_
    refine Wp.g1 rfl ?_
    exact Cs.no hC (Wp.rei rfl rfl rfl rfl)
theorem s_giveUp {t' : Nat} (hS : SO a t) (ht : t ≤ t') (x : Int) : SO (sGiveUp a x).2 t' := by
  unfold sGiveUp
  by_cases b : rkC a.V a.nc x < a.nc
  · rw [if_pos b]
    split
    · exact SO.sv hS ht (WF.cnt (hS.1.delC ht b) (by omega))
    · exact hS.mono ht
  · rw [if_neg b]; exact hS.mono ht
def sAuction (a : At) (x : Int) : Int × At := if rkB a.V a.nb x < a.nb then
    (if cw a.V a.nc (rkB a.V a.nb x) = -10006 ∧ 90 ≤ a.V 0 - a.V (18 + 8 * rkB a.V a.nb x + 7) then (((a.nb - 1 : Nat) : Int), ((up (rmB a.V a.nb (rkB a.V a.nb x)) 16 (w32 (a.V 16 + 1)), a.nb - 1, a.nc), (sv a).2)) else (-10003, a)) else (-10001, a)
theorem c_auction (hC : CR M a) (hS : SO a t) (x : Int) : Wp zS0 tX8_auction none 0 [zr 0, zi x, zn, zn] [] M h (Cs (sAuction a x) M h) := by
  have hK := hC.cs hS
  have hW := hS.1
  have hnb : a.nb ≤ 12 := hW.1.2.2.1
  have v0 := hW.2.1.1
  unfold sAuction
  refine Wp.g1 rfl ?_
  refine Wp.calli rfl (c_rowB hK x) ?_
  refine Wp.g1 rfl ?_
  by_cases hk : rkB a.V a.nb x < a.nb
  · rw [if_pos hk, if_pos hk]
    generalize rkB a.V a.nb x = b at *
    have hb7 := (hW.2.2.1 b hk).2.2.2.2.2.2.2.2
    refine Wp.brt rfl (by omega) ?_
    refine Wp.g1 rfl ?_
    have k5 := m2_get b 6 a.nb M h hK.2.1 hK.1.2.2.1.1 hnb hk (by omega)
    rw [show M 4 (8 * b + 6) = a.V (18 + 8 * b + 7) from (hK.1.2.2.2.1 b hk).2.1 6 (by omega)] at k5
    refine Wp.calli rfl k5 ?_
    refine Wp.g1 rfl ?_
    rw [hK.1.1.1, w32_id (x := a.V 0 - a.V (18 + 8 * b + 7)) ⟨by omega, by omega⟩]
    refine Wp.calli rfl (o_freeB hK hk) ?_
    by_cases g0 : cw a.V a.nc b = -10006
    · rw [if_pos g0]
      refine Wp.brf rfl (by decide) ?_
      refine Wp.g1 rfl ?_
      by_cases g1 : 90 ≤ a.V 0 - a.V (18 + 8 * b + 7)
      · rw [if_pos ⟨g0, g1⟩]
        refine Wp.brt rfl (by omega) ?_
        refine Wp.g1 rfl ?_
        refine Wp.call rfl (cr_save hC hS) (fun v M1 h1 q => ?_)
        obtain ⟨rfl, rfl, q1, q2⟩ := q
        have hR : OfRel M1 1 a.V a.nb a.nc := q2.1
        refine Wp.g1 rfl ?_
        refine Wp.call rfl (o_rmB hR q2.2.1.1 hnb hk) (fun v M3 h3 q => ?_)
        obtain ⟨rfl, rfl, q6, q7, q8⟩ := q
        refine Wp.g1 rfl ?_
        rw [show M3 1 9 = rmB a.V a.nb b 16 from q8.1.2.2.2.2.2.2.1, rmB_off (j := 16) (by decide) (Or.inl (by decide))]
        refine Wp.calli rfl (m2_rows _ _) ?_
        refine Wp.re rfl ⟨?_, rfl, fun k g => ?_, CR.office q2 (fun k g => ?_) ?_ ?_ ?_⟩
        · rw [upd2_ne (by decide), q8.2.2.1.1]
        · rw [upd2_ne (by omega), q6 k (by omega) (by omega) (by omega)]; exact q1 k g
        · rw [upd2_ne (by omega), q6 k (by omega) (by omega) (by omega)]
        · rw [upd2_ne (by omega), q7]
        · rw [upd2_ne (by omega), q6 5 (by omega) (by omega) (by omega)]
        · obtain ⟨f0, f1, f2, f3, f4, f5, f6, f7⟩ := q8.1
          refine q8.head (fun k g1 g2 => by rw [upd2_ne (by omega)]) (fun j g => up_off (by omega)) (up_off (by omega)) (up_off (by omega)) ?_ (fun j hj => ?_)
          · simp only [upd2, up]
            exact ⟨f0, f1, f2, f3, f4, f5, rfl, f7⟩
          · rw [upd2_ne (by decide), up_off (by omega)]
            exact q8.2.1 j hj
      · rw [if_neg (fun q => g1 q.2)]
        refine Wp.brf rfl (by omega) ?_
        refine Wp.g1 rfl ?_
        exact Cs.no hC (Wp.rei rfl rfl rfl rfl)
    · rw [if_neg g0, if_neg (fun q => g0 q.1)]
      refine Wp.brt rfl (by decide) ?_
      refine Wp.g1 rfl ?_
      exact Cs.no hC (Wp.rei rfl rfl rfl rfl)
  · rw [if_neg hk, if_neg hk]
    refine Wp.brf rfl (by decide) ?_
    refine Wp.g1 rfl ?_
    exact Cs.no hC (Wp.rei rfl rfl rfl rfl)
theorem s_auction {t' : Nat} (hS : SO a t) (ht : t ≤ t') (x : Int) : SO (sAuction a x).2 t' := by
  unfold sAuction
  by_cases b : rkB a.V a.nb x < a.nb
  · rw [if_pos b]
    split
    · next q =>
      have hW' := hS.1.delB ht b ((cw_free hS.1 _).mp q.1)
      obtain ⟨v0, v1, v2, v3, v4, -⟩ := hW'.2.1
      refine SO.sv hS ht (hW'.head (Nat.le_refl _) (fun j g => up_off (by omega)) (up_off (by omega)) (up_off (by omega)) (up_off (by omega)) (up_off (by omega)) ?_)
      repeat rw [up_off (by omega)]
      exact ⟨v0, v1, v2, v3, fun i hi => by rw [up_off (by omega)]; exact v4 i hi⟩
    · exact hS.mono ht
  · rw [if_neg b]; exact hS.mono ht
end GOING
