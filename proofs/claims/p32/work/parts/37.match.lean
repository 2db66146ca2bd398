/-! bags and claims are joined and parted -/
section MATCH
variable {M : Me} {h : Ml} {a : At} {V : Nat → Int} {nb nc t : Nat}
theorem o_freeC (hS : CS M V nb nc t) {c : Nat} (hc : c < nc) : Wp zS0 tX6_isFree none 0 [zr 5, zi c] [] M h (Ri (if V (114 + 10 * c + 9) = 0 then 1 else 0) M h) := by
  obtain ⟨hR, -, hw, hW⟩ := hS
  have k := m5_isFree c nc M h hw hR.2.2.1.2.2.1 hW.1.2.2.2
  rw [(hR.2.2.2.2 c hc).2.2] at k
  have e := pt_free hW hc
  by_cases g : V (114 + 10 * c + 9) = 0
  · rw [if_pos ⟨hc, e.mpr g⟩] at k
    rw [if_pos g]; exact k
  · rw [if_neg (fun q => g (e.mp q.2))] at k
    rw [if_neg g]; exact k
theorem o_freeB (hS : CS M V nb nc t) {b : Nat} (hb : b < nb) : Wp zS0 tX6_isFree none 0 [zr 2, zi b] [] M h (Ri (if cw V nc b = -10006 then 1 else 0) M h) := by
  obtain ⟨hR, hw, -, hW⟩ := hS
  have k := m2_isFree b nb M h hw hR.2.2.1.1 hW.1.2.2.1
  rw [(hR.2.2.2.1 b hb).2.2] at k
  by_cases g : cw V nc b = -10006
  · rw [if_pos ⟨hb, g⟩] at k
    rw [if_pos g]; exact k
  · rw [if_neg (fun q => g q.2)] at k
    rw [if_neg g]; exact k
theorem o_join (hS : CS M V nb nc t) {c b : Nat} (hc : c < nc) (hb : b < nb) (h0 : V (114 + 10 * c + 9) = 0) (hf : cw V nc b = -10006) : Wp zS0 tX3_join none 0 [zr 1, zi c, zi b] [] M h (fun v M' h' => v = none ∧ h' = h ∧ (∀ k, k ≠ 4 → k ≠ 7 → M' k = M k) ∧ OfRel M' 1 (up V (114 + 10 * c + 9) (V (18 + 8 * b))) nb nc) := by
  obtain ⟨hR, hw2, hw5, hW⟩ := hS
  have hnb := hW.1.2.2.1
  have hnc := hW.1.2.2.2
  obtain ⟨a1, a2, a3, a4, a5⟩ := id hR
  have hfree := (cw_free hW b).mp hf
  have hpos := (hW.2.2.1 b hb).1
  refine Wp.g1 rfl ?_
  refine Wp.calli rfl (m2_numberOf b nb M h a3.1 hnb hb) ?_
  rw [(a4 b hb).1]
  refine Wp.callv rfl (m5_setPartner c nc (V (18 + 8 * b)) M h hw5 a3.2.2.1 hnc hc) ?_
  refine Wp.g1 rfl ?_
  refine Wp.calli rfl (m5_numberOf c nc _ h (by rw [upd2_ne (by decide)]; exact a3.2.2.1) hnc hc) ?_
  rw [upd2_ne (by decide : (6 : Nat) ≠ 7), (a5 c hc).1]
  refine Wp.callv rfl (m2_setPartner b nb (V (114 + 10 * c)) _ h (by rw [upd2_ne (by decide)]; exact hw2) (by rw [upd2_ne (by decide)]; exact a3.1) hnb hb) ?_
  refine Wp.re rfl ⟨rfl, rfl, fun k g1 g2 => by rw [upd2_ne g1, upd2_ne g2], ?_⟩
  refine hR.setM hnb (fun k g1 g2 => by rw [upd2_ne g1, upd2_ne g2]) ?_ (fun i hi => ?_) (fun r hr => ?_) (fun r k hr hk => ?_)
  · rw [upd2_ne (by decide), upd2_at, if_neg (by omega)]
  · rw [upd2_ne (by decide), upd2_off hi]
  · by_cases e : r = b
    · subst e
      rw [upd2_at]
      have k1 : up V (114 + 10 * c + 9) (V (18 + 8 * r)) (18 + 8 * r) = V (18 + 8 * r) := up_off (by omega)
      have := cw_some (V := up V (114 + 10 * c + 9) (V (18 + 8 * r))) (r := r) hc (by rw [up_at, k1]) (fun q hq hqc => by rw [up_off (by omega), k1]; exact hfree q hq)
      rw [this, up_off (by omega)]
    · rw [upd2_off (by omega), upd2_ne (by decide)]
      have b3 : M 4 (8 * r + 7) = cw V nc r := (a4 r hr).2.2
      rw [b3]
      have hne : V (18 + 8 * b) ≠ V (18 + 8 * r) := fun q => e (hW.2.2.2.2.1 r b hr hb q.symm)
      have hpr := (hW.2.2.1 r hr).1
      refine (cw_same (up_off (by omega)) (fun q hq => ?_) (fun q hq => up_off (by omega))).symm
      by_cases eq : q = c
      · rw [eq, up_at, h0]
        exact ⟨fun g => absurd g hne, fun g => by omega⟩
      · rw [up_off (by omega)]
  · rw [upd2_off (by omega), upd2_ne (by decide)]
def sMatch (a : At) (x y : Int) : Int × At := if rkC a.V a.nc x < a.nc ∧ rkB a.V a.nb y < a.nb then
    (if a.V (114 + 10 * rkC a.V a.nc x + 9) = 0 ∧ cw a.V a.nc (rkB a.V a.nb y) = -10006 ∧ scN a.V (rkC a.V a.nc x) (rkB a.V a.nb y) 0 ≠ -10006 then
      (scN a.V (rkC a.V a.nc x) (rkB a.V a.nb y) 0, ((up a.V (114 + 10 * rkC a.V a.nc x + 9) (a.V (18 + 8 * rkB a.V a.nb y)), a.nb, a.nc), (sv a).2)) else (-10003, a)) else (-10001, a)
theorem c_match (hC : CR M a) (hS : SO a t) (x y : Int) : Wp zS0 tX8_match none 0 [zr 0, zi x, zi y, zn, zn, zn] [] M h (Cs (sMatch a x y) M h) := by
  have hK := hC.cs hS
  unfold sMatch
  refine Wp.g1 rfl ?_
  refine Wp.calli rfl (c_rowC hK x) ?_
  refine Wp.g1 rfl ?_
  refine Wp.calli rfl (c_rowB hK y) ?_
  refine Wp.g1 rfl ?_
  by_cases hk : rkC a.V a.nc x < a.nc
  · rw [if_pos hk]
    refine Wp.brf rfl (by omega) ?_
    refine Wp.g1 rfl ?_
    by_cases hk2 : rkB a.V a.nb y < a.nb
    · rw [if_pos hk2, if_pos ⟨hk, hk2⟩]
      generalize rkC a.V a.nc x = c at *
      generalize rkB a.V a.nb y = b at *
      refine Wp.brt rfl (by omega) ?_
      refine Wp.g1 rfl ?_
      refine Wp.calli rfl (o_freeC hK hk) ?_
      by_cases g0 : a.V (114 + 10 * c + 9) = 0
      · rw [if_pos g0]
        refine Wp.brf rfl (by decide) ?_
        refine Wp.g1 rfl ?_
        refine Wp.calli rfl (o_freeB hK hk2) ?_
        by_cases g1 : cw a.V a.nc b = -10006
        · rw [if_pos g1]
          refine Wp.brt rfl (by decide) ?_
          refine Wp.g1 rfl ?_
          refine Wp.call rfl (m_part hK.1 hK.2.1 hK.2.2.1 hK.2.2.2 hk hk2 0 (by omega)) (fun v M0 h0 q => ?_)
          obtain ⟨rfl, rfl, q0⟩ := q
          refine Wp.g1 rfl ?_
          by_cases g2 : scN a.V c b 0 = -10006
          · rw [if_neg (fun q => q.2.2 g2)]
            refine Wp.brf rfl (by omega) ?_
            refine Wp.g1 rfl ?_
            exact Wp.re rfl ⟨rfl, rfl, fun k g => q0 k (by omega), hC.kept (fun k g => q0 k (by omega))⟩
          · rw [if_pos ⟨g0, g1, g2⟩]
            refine Wp.brt rfl (by omega) ?_
            refine Wp.g1 rfl ?_
            have hC0 : CR M0 a := hC.kept (fun k g => q0 k (by omega))
            refine Wp.call rfl (cr_save hC0 hS) (fun v M1 h1 q => ?_)
            obtain ⟨rfl, rfl, q1, q2⟩ := q
            have hK1 : CS M1 a.V a.nb a.nc t := ⟨q2.1, q2.2.1.1, q2.2.1.2, hS.1⟩
            refine Wp.g1 rfl ?_
            refine Wp.call rfl (o_join hK1 hk hk2 g0 g1) (fun v M2 h2 q => ?_)
            obtain ⟨rfl, rfl, q3, q4⟩ := q
            refine Wp.g1 rfl ?_
            exact Wp.re rfl ⟨rfl, rfl, fun k g => by rw [q3 k (by omega) (by omega), q1 k g]; exact q0 k (by omega), CR.office q2 (fun k g => q3 k (by omega) (by omega)) (by rw [q3 2 (by decide) (by decide)]) (by rw [q3 5 (by decide) (by decide)]) q4⟩
        · rw [if_neg g1, if_neg (fun q => g1 q.2.1)]
          refine Wp.brf rfl (by decide) ?_
          refine Wp.g1 rfl ?_
          exact Cs.no hC (Wp.rei rfl rfl rfl rfl)
      · rw [if_neg g0, if_neg (fun q => g0 q.1)]
        refine Wp.brt rfl (by decide) ?_
        refine Wp.g1 rfl ?_
        exact Cs.no hC (Wp.rei rfl rfl rfl rfl)
    · rw [if_neg hk2, if_neg (fun q => hk2 q.2)]
      refine Wp.brf rfl (by decide) ?_
      refine Wp.g1 rfl ?_
      exact Cs.no hC (Wp.rei rfl rfl rfl rfl)
  · rw [if_neg hk, if_neg (c := rkC a.V a.nc x < a.nc ∧ rkB a.V a.nb y < a.nb) (fun q => hk q.1)]
    refine Wp.brt rfl (by decide) ?_
    refine Wp.g1 rfl ?_
    exact Cs.no hC (Wp.rei rfl rfl rfl rfl)
theorem s_match {t' : Nat} (hS : SO a t) (ht : t ≤ t') (x y : Int) : SO (sMatch a x y).2 t' := by
  unfold sMatch
  by_cases b : rkC a.V a.nc x < a.nc ∧ rkB a.V a.nb y < a.nb
  · rw [if_pos b]
    split
    · next q => exact SO.sv hS ht (hS.1.setM ht b.1 (Or.inr ⟨_, b.2, rfl, (cw_free hS.1 _).mp q.2.1⟩))
    · exact hS.mono ht
  · rw [if_neg b]; exact hS.mono ht
/-- the row of the bag of a matched claim -/
theorem rk_of (hW : WF V nb nc t) {c : Nat} (hc : c < nc) (h0 : V (114 + 10 * c + 9) ≠ 0) : rkB V nb (V (114 + 10 * c + 9)) < nb ∧ V (18 + 8 * rkB V nb (V (114 + 10 * c + 9))) = V (114 + 10 * c + 9) := by
  obtain ⟨b, e1, e2⟩ := hW.2.2.2.2.2.1 c hc h0
  have e3 : rkB V nb (V (114 + 10 * c + 9)) = b := fnd_some e1 e2 (fun j hj q => by
    have := hW.2.2.2.2.1 j b (by omega) e1 (q.trans e2.symm)
    omega)
  rw [e3]
  exact ⟨e1, e2⟩
def sUnmatch (a : At) (x : Int) : Int × At := if rkC a.V a.nc x < a.nc then
    (if a.V (114 + 10 * rkC a.V a.nc x + 9) = 0 then (-10003, a) else (a.V (114 + 10 * rkC a.V a.nc x + 9), ((up a.V (114 + 10 * rkC a.V a.nc x + 9) 0, a.nb, a.nc), (sv a).2))) else (-10001, a)
theorem c_unmatch (hC : CR M a) (hS : SO a t) (x : Int) : Wp zS0 tX8_unmatch none 0 [zr 0, zi x, zn, zn] [] M h (Cs (sUnmatch a x) M h) := by
  have hK := hC.cs hS
  have hW := hS.1
  have hnb : a.nb ≤ 12 := hW.1.2.2.1
  have hnc : a.nc ≤ 10 := hW.1.2.2.2
  unfold sUnmatch
  refine Wp.g1 rfl ?_
  refine Wp.calli rfl (c_rowC hK x) ?_
  refine Wp.g1 rfl ?_
  by_cases hk : rkC a.V a.nc x < a.nc
  · rw [if_pos hk, if_pos hk]
    generalize rkC a.V a.nc x = c at *
    refine Wp.brt rfl (by omega) ?_
    refine Wp.g1 rfl ?_
    refine Wp.calli rfl (o_freeC hK hk) ?_
    by_cases g0 : a.V (114 + 10 * c + 9) = 0
    · rw [if_pos g0, if_pos g0]
      refine Wp.brf rfl (by decide) ?_
      refine Wp.g1 rfl ?_
      exact Cs.no hC (Wp.rei rfl rfl rfl rfl)
    · rw [if_neg g0, if_neg g0]
      refine Wp.brt rfl (by decide) ?_
      refine Wp.g1 rfl ?_
      refine Wp.call rfl (cr_save hC hS) (fun v M1 h1 q => ?_)
      obtain ⟨rfl, rfl, q1, q2⟩ := q
      have hR : OfRel M1 1 a.V a.nb a.nc := q2.1
      obtain ⟨a1, a2, a3, a4, a5⟩ := id hR
      have hw2 : M1 2 0 = 8 := q2.2.1.1
      have hw5 : M1 5 0 = 9 := q2.2.1.2
      have hK1 : CS M1 a.V a.nb a.nc t := ⟨hR, hw2, hw5, hW⟩
      obtain ⟨r1, r2⟩ := rk_of hW hk g0
      have ep : pt a.V c = a.V (114 + 10 * c + 9) := by unfold pt; rw [if_neg g0]
      refine Wp.g1 rfl ?_
      have k5 := m5_partner c a.nc M1 h1 hw5 a3.2.2.1 hnc hk
      rw [show M1 7 (9 * c + 8) = pt a.V c from (a5 c hk).2.2, ep] at k5
      refine Wp.calli rfl k5 ?_
      refine Wp.g1 rfl ?_
      refine Wp.callv rfl (m5_setPartner c a.nc (-10006) M1 _ hw5 a3.2.2.1 hnc hk) ?_
      refine Wp.g1 rfl ?_
      have k6 := m2_rowOf (a.V (114 + 10 * c + 9)) a.nb (upd2 M1 7 (9 * c + 8) (-10006)) h1 (by rw [upd2_ne (by decide)]; exact a3.1) hnb
      rw [show fnd (upd2 M1 7 (9 * c + 8) (-10006) 3) (a.V (114 + 10 * c + 9)) a.nb = rkB a.V a.nb (a.V (114 + 10 * c + 9)) from fnd_congr (fun r hr => by rw [upd2_ne (by decide)]; exact (a4 r hr).1), if_pos r1] at k6
      refine Wp.calli rfl k6 ?_
      generalize rkB a.V a.nb (a.V (114 + 10 * c + 9)) = b at *
      refine Wp.g1 rfl ?_
      refine Wp.callv rfl (m2_setPartner b a.nb (-10006) _ _ (by rw [upd2_ne (by decide)]; exact hw2) (by rw [upd2_ne (by decide)]; exact a3.1) hnb r1) ?_
      refine Wp.g1 rfl ?_
      refine Wp.re rfl ⟨rfl, rfl, fun k g => by rw [upd2_ne (by omega), upd2_ne (by omega)]; exact q1 k g, CR.office q2 (fun k g => by rw [upd2_ne (by omega), upd2_ne (by omega)]) (by rw [upd2_ne (by decide), upd2_ne (by decide)]) (by rw [upd2_ne (by decide), upd2_ne (by decide)]) ?_⟩
      refine hR.setM hnb (fun k g1 g2 => by rw [upd2_ne g1, upd2_ne g2]) ?_ (fun i hi => ?_) (fun r hr => ?_) (fun r k hr hk => ?_)
      · rw [upd2_ne (by decide), upd2_at, if_pos rfl]
      · rw [upd2_ne (by decide), upd2_off hi]
      · have hpr := (hW.2.2.1 r hr).1
        by_cases e : r = b
        · subst e
          rw [upd2_at]
          refine (cw_none (fun q hq => ?_)).symm
          rw [up_off (j := 18 + 8 * r) (by omega)]
          by_cases eq : q = c
          · rw [eq, up_at]; omega
          · rw [up_off (by omega), r2]
            intro z
            exact eq (hW.2.2.2.2.2.2 q c hq hk z (by rw [z]; exact g0))
        · rw [upd2_off (by omega), upd2_ne (by decide)]
          have b3 : M1 4 (8 * r + 7) = cw a.V a.nc r := (a4 r hr).2.2
          rw [b3]
          refine (cw_same (up_off (by omega)) (fun q hq => ?_) (fun q hq => up_off (by omega))).symm
          by_cases eq : q = c
          · rw [eq, up_at]
            refine ⟨fun g => by omega, fun g => ?_⟩
            exact absurd (hW.2.2.2.2.1 r b hr r1 (by rw [r2]; exact g.symm)) e
          · rw [up_off (by omega)]
      · rw [upd2_off (by omega), upd2_ne (by decide)]
  · rw [if_neg hk, if_neg hk]
    refine Wp.brf rfl (by decide) ?_
    refine Wp.g1 rfl ?_
    exact Cs.no hC (Wp.rei rfl rfl rfl rfl)
theorem s_unmatch {t' : Nat} (hS : SO a t) (ht : t ≤ t') (x : Int) : SO (sUnmatch a x).2 t' := by
  unfold sUnmatch
  by_cases b : rkC a.V a.nc x < a.nc
  · rw [if_pos b]
    split
    · exact hS.mono ht
    · exact SO.sv hS ht (hS.1.setM ht b (Or.inl rfl))
  · rw [if_neg b]; exact hS.mono ht
end MATCH
