/-! what the law does in a step: what goes -/
section GOING
variable {M : Me} {h : Ml} {a : At} {e : Nat}
theorem SC.inj {V : Nat → Int} {nc r q : Nat} (hC : SC V nc) (hr : r < nc) (hq : q < nc) (h : V (114 + 10 * r) = V (114 + 10 * q)) : r = q := by
  rcases Nat.lt_trichotomy r q with g | g | g
  · have := hC r q g hq; omega
  · exact g
  · have := hC q r g hr; omega
theorem d_deliver (hC : CR M a) (hI : Iv a e) (hG : GR M a.V) (v w C B : Int) (hc : isC a C) : Wp zS0 tL_does none 680 (dL v w C B (a.V 17) a.nb a.nc) [] M h (Dp e h) := by
  have hS := hI.1
  have hW : WF a.V a.nb a.nc e := hS.1
  have hCs : SC a.V a.nc := hI.2.2.1
  have hnb := hW.1.2.2.1
  have hnc := hW.1.2.2.2
  refine Wp.g1 rfl ?_
  refine Wp.call rfl (c_ifEnded (hC.cs hS) _ _ _) (fun v1 M1 h1 q => ?_)
  obtain ⟨rfl, rfl, q1⟩ := q
  have hC1 : CR M1 a := hC.kept (fun k g => q1 k (by omega))
  refine Wp.g1 rfl ?_
  -- free or not there
  have no : ∀ (M2 : Me) (C' d x : Int), (∀ k, k < 61 ∨ k = 71 ∨ 74 ≤ k → M2 k = M1 k) → sDeliver a C' = (x, a) → x < 0 → Wp zS0 tL_does none 709 [zr 0, zr 74, zi v, zi w, zi C', zi B, zi (a.V 17), zi a.nb, zi a.nc, zn, zn, zn, zn, zn, zn, zn, zi d, zn, zn, zn, zn, zn, zn, zn, zn, zn, zn, zn, zn] [] M2 h1 (Dp e h1) := by
    intro M2 C' d x k2 eU hx
    have hC2 : CR M2 a := hC1.kept (fun k g => k2 k (by omega))
    refine Wp.g1 rfl ?_
    refine Wp.call rfl (c_deliver hC2 hS _) (fun v3 M3 h3 q => ?_)
    rw [eU] at q
    obtain ⟨rfl, rfl, q3, q4⟩ := q
    refine Wp.g1 rfl ?_
    refine Wp.brf rfl (by decide) ?_
    refine Wp.g1 rfl ?_
    refine Wp.brf rfl (by omega) ?_
    refine Wp.g1 rfl ?_
    exact Wp.re rfl ⟨rfl, rfl, a, q4, hI.mono, hG.same ((q3 74 (by omega)).trans ((k2 74 (by omega)).trans (q1 74 (by omega)))) rfl (fun _ _ => rfl)⟩
  rcases hc with ⟨rfl, c0⟩ | ⟨c, c1, rfl⟩
  · refine Wp.brt rfl rfl ?_
    exact no M1 0 _ (-10001) (fun k _ => rfl) (if_neg (by rw [rkC_no (fun r hr => by omega)]; omega)) (by decide)
  · have hp := (hW.2.2.2.1 c c1).1
    have er : rkC a.V a.nc (a.V (114 + 10 * c)) = c := rkC_at hCs c1
    refine Wp.brf rfl (by omega) ?_
    refine Wp.g1 rfl ?_
    refine Wp.call rfl (c_claimOf (hC1.cs hS) _ _) (fun v2 M2 h2 q => ?_)
    obtain ⟨rfl, rfl, q2⟩ := q
    have hC2 : CR M2 a := hC1.kept (fun k g => q2 k (by omega))
    rw [claim_8 hCs c1]
    refine Wp.g1 rfl ?_
    by_cases g0 : a.V (114 + 10 * c + 9) = 0
    · refine Wp.brf rfl (fun q => q ((pt_free hW c1).mpr g0)) ?_
      refine no M2 _ _ (-10003) q2 ?_ (by decide)
      unfold sDeliver
      rw [er, if_pos c1, if_pos g0]
    · have hne : pt a.V c ≠ -10006 := fun q => g0 ((pt_free hW c1).mp q)
      refine Wp.brt rfl hne ?_
      obtain ⟨b1, b2⟩ := rk_of hW c1 g0
      have sU := s_deliver hS (show e ≤ e + 1 by omega) (a.V (114 + 10 * c))
      have eU : sDeliver a (a.V (114 + 10 * c)) = (pDel a.V c (a.V 0), ((cntV (rmC (rmB a.V a.nb (rkB a.V a.nb (a.V (114 + 10 * c + 9)))) a.nc c) 14 (pDel a.V c (a.V 0)), a.nb - 1, a.nc - 1), (sv a).2)) := by
        unfold sDeliver
        rw [er, if_pos c1, if_neg g0]
      have eE : rIfEnded a.V a.nc (a.V (114 + 10 * c)) 0 0 = pDel a.V c (a.V 0) := by
        unfold rIfEnded
        rw [er, if_pos c1, if_neg (by omega), if_pos rfl, Int.add_zero]
      rw [eE]
      rw [eU] at sU
      generalize hb : rkB a.V a.nb (a.V (114 + 10 * c + 9)) = b at b1 b2 eU sU
      generalize hp2 : pDel a.V c (a.V 0) = pd at eU sU
      have lowj : ∀ j, j < 18 → j ≠ 10 → j ≠ 12 → j ≠ 14 → j ≠ 17 → cntV (rmC (rmB a.V a.nb b) a.nc c) 14 pd j = a.V j := fun j j1 j2 j3 j4 j5 => by
        rw [cnt_off j4 j5, rmC_off j3 (by omega), rmB_off j2 (by omega)]
      have e17 : cntV (rmC (rmB a.V a.nb b) a.nc c) 14 pd 17 = w32 (a.V 17 + pd) := by
        rw [cnt_17 (by decide), rmC_off (by decide) (by omega), rmB_off (by decide) (by omega)]
      have hB' : SB (cntV (rmC (rmB a.V a.nb b) a.nc c) 14 pd) (a.nb - 1) := (hI.2.1.rm.rmC (by omega)).head (fun j j1 => cnt_off (by omega) (by omega))
      have hC' : SC (cntV (rmC (rmB a.V a.nb b) a.nc c) 14 pd) (a.nc - 1) := ((hCs.rmB hnb).rm).head (fun j j1 => cnt_off (by omega) (by omega))
      have num : ∀ r, r < a.nc - 1 → cntV (rmC (rmB a.V a.nb b) a.nc c) 14 pd (114 + 10 * r) ≠ a.V (114 + 10 * c) := fun r hr q => by
        rw [cnt_off (by omega) (by omega), rmC_num (by omega), rmB_off (by omega) (by omega)] at q
        exact sk_ne c r (hCs.inj (sk_lt (by omega)) c1 q)
      refine Wp.g1 rfl ?_
      refine Wp.call rfl (c_deliver hC2 hS _) (fun v3 M3 h3 q => ?_)
      rw [eU] at q
      obtain ⟨rfl, rfl, q3, q4⟩ := q
      refine Wp.g1 rfl ?_
      refine Wp.brt rfl rfl ?_
      refine Wp.g1 rfl ?_
      refine Wp.brf rfl (fun q => q rfl) ?_
      refine Wp.g1 rfl ?_
      refine Wp.call rfl (c_count (q4.cs sU) _) (fun v4 M4 h4 q => ?_)
      obtain ⟨rfl, rfl, q5⟩ := q
      have hC4 := q4.kept (M' := M4) (fun k g => q5 k (by omega))
      refine Wp.g1 rfl ?_
      refine Wp.brf rfl (fun q => q e17) ?_
      refine Wp.g1 rfl ?_
      refine Wp.call rfl (c_count (hC4.cs sU) _) (fun v5 M5 h5 q => ?_)
      obtain ⟨rfl, rfl, q6⟩ := q
      have hC5 := hC4.kept (M' := M5) (fun k g => q6 k (by omega))
      refine Wp.g1 rfl ?_
      rw [w32_p (n := a.nb) (by omega) (by omega)]
      refine Wp.brf rfl (fun q => q rfl) ?_
      refine Wp.g1 rfl ?_
      refine Wp.call rfl (c_count (hC5.cs sU) _) (fun v6 M6 h6 q => ?_)
      obtain ⟨rfl, rfl, q7⟩ := q
      have hC6 := hC5.kept (M' := M6) (fun k g => q7 k (by omega))
      refine Wp.g1 rfl ?_
      rw [w32_p (n := a.nc) (by omega) (by omega)]
      refine Wp.brf rfl (fun q => q rfl) ?_
      refine Wp.g1 rfl ?_
      refine Wp.call rfl (c_claimOf (hC6.cs sU) _ _) (fun v7 M7 h7 q => ?_)
      have eN : rClaimOf (cntV (rmC (rmB a.V a.nb b) a.nc c) 14 pd) (a.nc - 1) (a.V (114 + 10 * c)) 0 = -10001 := claim_no num
      obtain ⟨rfl, rfl, q8⟩ := q
      have hC7 := hC6.kept (M' := M7) (fun k g => q8 k (by omega))
      refine Wp.g1 rfl ?_
      refine Wp.brf rfl (fun q => q eN) ?_
      refine Wp.g1 rfl ?_
      refine Wp.re rfl ⟨rfl, rfl, _, hC7, hI.of sU hB' hC' ?_ ?_ ?_, hG.same ?_ (lowj 1 (by decide) (by decide) (by decide) (by decide) (by decide)) (fun i hi => lowj _ (by omega) (by omega) (by omega) (by omega) (by omega))⟩
      · have := lowj 11 (by decide) (by decide) (by decide) (by decide) (by decide)
        show cntV (rmC (rmB a.V a.nb b) a.nc c) 14 pd 11 ≤ a.V 11 + 1
        omega
      · have := lowj 13 (by decide) (by decide) (by decide) (by decide) (by decide)
        show cntV (rmC (rmB a.V a.nb b) a.nc c) 14 pd 13 ≤ a.V 13 + 1
        omega
      · have := lowj 0 (by decide) (by decide) (by decide) (by decide) (by decide)
        show cntV (rmC (rmB a.V a.nb b) a.nc c) 14 pd 0 ≤ a.V 0 + 99
        omega
      · exact (q8 74 (by omega)).trans ((q7 74 (by omega)).trans ((q6 74 (by omega)).trans ((q5 74 (by omega)).trans ((q3 74 (by omega)).trans ((q2 74 (by omega)).trans (q1 74 (by omega)))))))
theorem d_giveUp (hC : CR M a) (hI : Iv a e) (hG : GR M a.V) (v w C B : Int) (hc : isC a C) : Wp zS0 tL_does none 806 (dL v w C B (a.V 17) a.nb a.nc) [] M h (Dp e h) := by
  have hS := hI.1
  have hW : WF a.V a.nb a.nc e := hS.1
  have hCs : SC a.V a.nc := hI.2.2.1
  have hnb := hW.1.2.2.1
  have hnc := hW.1.2.2.2
  have hv0 := hW.2.1.1
  refine Wp.g1 rfl ?_
  refine Wp.call rfl (c_ifEnded (hC.cs hS) _ _ _) (fun v1 M1 h1 q => ?_)
  obtain ⟨rfl, rfl, q1⟩ := q
  have hC1 : CR M1 a := hC.kept (fun k g => q1 k (by omega))
  refine Wp.g1 rfl ?_
  have no : ∀ (M2 : Me) (C' d x : Int), (∀ k, k < 61 ∨ k = 71 ∨ 74 ≤ k → M2 k = M1 k) → sGiveUp a C' = (x, a) → x < 0 → Wp zS0 tL_does none 858 [zr 0, zr 74, zi v, zi w, zi C', zi B, zi (a.V 17), zi a.nb, zi a.nc, zn, zn, zn, zn, zn, zn, zn, zn, zn, zn, zi d, zn, zn, zn, zn, zn, zn, zn, zn, zn] [] M2 h1 (Dp e h1) := by
    intro M2 C' d x k2 eU hx
    have hC2 : CR M2 a := hC1.kept (fun k g => k2 k (by omega))
    refine Wp.g1 rfl ?_
    refine Wp.call rfl (c_giveUp hC2 hS _) (fun v3 M3 h3 q => ?_)
    rw [eU] at q
    obtain ⟨rfl, rfl, q3, q4⟩ := q
    refine Wp.g1 rfl ?_
    refine Wp.brt rfl rfl ?_
    refine Wp.g1 rfl ?_
    refine Wp.brf rfl (by omega) ?_
    refine Wp.g1 rfl ?_
    refine Wp.call rfl (c_count (q4.cs hS) _) (fun v4 M4 h4 q => ?_)
    obtain ⟨rfl, rfl, q5⟩ := q
    have hC4 := q4.kept (M' := M4) (fun k g => q5 k (by omega))
    refine Wp.g1 rfl ?_
    refine Wp.brf rfl (fun q => q rfl) ?_
    refine Wp.g1 rfl ?_
    exact Wp.re rfl ⟨rfl, rfl, a, hC4, hI.mono, hG.same ((q5 74 (by omega)).trans ((q3 74 (by omega)).trans ((k2 74 (by omega)).trans (q1 74 (by omega))))) rfl (fun _ _ => rfl)⟩
  rcases hc with ⟨rfl, c0⟩ | ⟨c, c1, rfl⟩
  · refine Wp.brt rfl (by decide) ?_
    exact no M1 0 _ (-10001) (fun k _ => rfl) (if_neg (by rw [rkC_no (fun r hr => by omega)]; omega)) (by decide)
  · have hck := hW.2.2.2.1 c c1
    have hp := hck.1
    obtain ⟨-, -, -, -, -, -, -, -, -, c8, -⟩ := hck
    have er : rkC a.V a.nc (a.V (114 + 10 * c)) = c := rkC_at hCs c1
    refine Wp.brf rfl (by omega) ?_
    refine Wp.g1 rfl ?_
    refine Wp.call rfl (c_claimOf (hC1.cs hS) _ _) (fun v2 M2 h2 q => ?_)
    obtain ⟨rfl, rfl, q2⟩ := q
    have hC2 : CR M2 a := hC1.kept (fun k g => q2 k (by omega))
    rw [claim_8 hCs c1]
    refine Wp.g1 rfl ?_
    by_cases g0 : a.V (114 + 10 * c + 9) = 0
    · refine Wp.brf rfl (fun q => q ((pt_free hW c1).mpr g0)) ?_
      refine Wp.g1 rfl ?_
      refine Wp.call rfl (c_count (hC2.cs hS) _) (fun v3 M3 h3 q => ?_)
      obtain ⟨rfl, rfl, q3⟩ := q
      have hC3 := hC2.kept (M' := M3) (fun k g => q3 k (by omega))
      refine Wp.g1 rfl ?_
      refine Wp.call rfl (c_claimOf (hC3.cs hS) _ _) (fun v4 M4 h4 q => ?_)
      obtain ⟨rfl, rfl, q4⟩ := q
      have hC4 := hC3.kept (M' := M4) (fun k g => q4 k (by omega))
      have e7 : rClaimOf a.V a.nc (a.V (114 + 10 * c)) 7 = a.V (114 + 10 * c + 8) := claim_at hCs c1 (y := 7) (by decide)
      have ec : rCount a.V a.nb a.nc 0 = a.V 0 := rfl
      rw [e7, ec]
      refine Wp.g1 rfl ?_
      rw [w32_id (x := a.V 0 - a.V (114 + 10 * c + 8)) ⟨by omega, by omega⟩]
      by_cases g1 : 21 ≤ a.V 0 - a.V (114 + 10 * c + 8)
      · refine Wp.brf rfl (by omega) ?_
        have sU := s_giveUp hS (show e ≤ e + 1 by omega) (a.V (114 + 10 * c))
        have eU : sGiveUp a (a.V (114 + 10 * c)) = (pGiv a.V c, ((cntV (rmC a.V a.nc c) 15 (pGiv a.V c), a.nb, a.nc - 1), (sv a).2)) := by
          unfold sGiveUp
          rw [er, if_pos c1, if_pos ⟨g0, g1⟩]
        have eE : rIfEnded a.V a.nc (a.V (114 + 10 * c)) 0 1 = pGiv a.V c := by
          unfold rIfEnded
          rw [er, if_pos c1, if_neg (by omega), if_neg (by decide)]
        rw [eE]
        rw [eU] at sU
        generalize hp2 : pGiv a.V c = pd at eU sU
        have lowj : ∀ j, j < 18 → j ≠ 12 → j ≠ 15 → j ≠ 17 → cntV (rmC a.V a.nc c) 15 pd j = a.V j := fun j j1 j3 j4 j5 => by
          rw [cnt_off j4 j5, rmC_off j3 (by omega)]
        have e17 : cntV (rmC a.V a.nc c) 15 pd 17 = w32 (a.V 17 + pd) := by
          rw [cnt_17 (by decide), rmC_off (by decide) (by omega)]
        have hB' : SB (cntV (rmC a.V a.nc c) 15 pd) a.nb := (hI.2.1.rmC hnb).head (fun j j1 => cnt_off (by omega) (by omega))
        have hC' : SC (cntV (rmC a.V a.nc c) 15 pd) (a.nc - 1) := (hCs.rm).head (fun j j1 => cnt_off (by omega) (by omega))
        refine Wp.g1 rfl ?_
        refine Wp.call rfl (c_giveUp hC4 hS _) (fun v5 M5 h5 q => ?_)
        rw [eU] at q
        obtain ⟨rfl, rfl, q5, hC5⟩ := q
        refine Wp.g1 rfl ?_
        refine Wp.brf rfl (by decide) ?_
        refine Wp.g1 rfl ?_
        refine Wp.brf rfl (fun q => q rfl) ?_
        refine Wp.g1 rfl ?_
        refine Wp.call rfl (c_count (hC5.cs sU) _) (fun v6 M6 h6 q => ?_)
        obtain ⟨rfl, rfl, q6⟩ := q
        have hC6 := hC5.kept (M' := M6) (fun k g => q6 k (by omega))
        refine Wp.g1 rfl ?_
        refine Wp.brf rfl (fun q => q e17) ?_
        refine Wp.g1 rfl ?_
        refine Wp.call rfl (c_count (hC6.cs sU) _) (fun v7 M7 h7 q => ?_)
        obtain ⟨rfl, rfl, q7⟩ := q
        have hC7 := hC6.kept (M' := M7) (fun k g => q7 k (by omega))
        refine Wp.g1 rfl ?_
        rw [w32_p (n := a.nc) (by omega) (by omega)]
        refine Wp.brf rfl (fun q => q rfl) ?_
        refine Wp.g1 rfl ?_
        refine Wp.re rfl ⟨rfl, rfl, _, hC7, hI.of sU hB' hC' ?_ ?_ ?_, hG.same ?_ (lowj 1 (by decide) (by decide) (by decide) (by decide)) (fun i hi => lowj _ (by omega) (by omega) (by omega) (by omega))⟩
        · have := lowj 11 (by decide) (by decide) (by decide) (by decide)
          show cntV (rmC a.V a.nc c) 15 pd 11 ≤ a.V 11 + 1
          omega
        · have := lowj 13 (by decide) (by decide) (by decide) (by decide)
          show cntV (rmC a.V a.nc c) 15 pd 13 ≤ a.V 13 + 1
          omega
        · have := lowj 0 (by decide) (by decide) (by decide) (by decide)
          show cntV (rmC a.V a.nc c) 15 pd 0 ≤ a.V 0 + 99
          omega
        · exact (q7 74 (by omega)).trans ((q6 74 (by omega)).trans ((q5 74 (by omega)).trans ((q4 74 (by omega)).trans ((q3 74 (by omega)).trans ((q2 74 (by omega)).trans (q1 74 (by omega)))))))
      · refine Wp.brt rfl (by omega) ?_
        refine no M4 _ _ (-10003) (fun k g => (q4 k g).trans ((q3 k g).trans (q2 k g))) ?_ (by decide)
        unfold sGiveUp
        rw [er, if_pos c1, if_neg (fun q => g1 q.2)]
    · have hne : pt a.V c ≠ -10006 := fun q => g0 ((pt_free hW c1).mp q)
      refine Wp.brt rfl hne ?_
      refine no M2 _ _ (-10003) q2 ?_ (by decide)
      unfold sGiveUp
      rw [er, if_pos c1, if_neg (fun q => g0 q.1)]
theorem d_auction (hC : CR M a) (hI : Iv a e) (hG : GR M a.V) (v w C B : Int) (hb : isB a B) : Wp zS0 tL_does none 936 (dL v w C B (a.V 17) a.nb a.nc) [] M h (Dp e h) := by
  have hS := hI.1
  have hW : WF a.V a.nb a.nc e := hS.1
  have hCs : SC a.V a.nc := hI.2.2.1
  have hnb := hW.1.2.2.1
  have hnc := hW.1.2.2.2
  have hv0 := hW.2.1.1
  rcases hb with ⟨rfl, b0⟩ | ⟨b, b1, rfl⟩
  · have eU : sAuction a 0 = (-10001, a) := if_neg (by rw [rkB_no (fun r hr => by omega)]; omega)
    refine Wp.g1 rfl ?_
    refine Wp.brt rfl (by decide) ?_
    refine Wp.g1 rfl ?_
    refine Wp.call rfl (c_auction hC hS _) (fun v2 M2 h2 q => ?_)
    rw [eU] at q
    obtain ⟨rfl, rfl, q2, q3⟩ := q
    refine Wp.g1 rfl ?_
    refine Wp.brf rfl (by decide) ?_
    refine Wp.g1 rfl ?_
    refine Wp.brf rfl (fun q => q rfl) ?_
    refine Wp.g1 rfl ?_
    exact Wp.re rfl ⟨rfl, rfl, a, q3, hI.mono, hG.same (q2 74 (by omega)) rfl (fun _ _ => rfl)⟩
  · have hbk := hW.2.2.1 b b1
    have hp := hbk.1
    obtain ⟨-, -, -, -, -, -, -, -, b7⟩ := hbk
    have er : rkB a.V a.nb (a.V (18 + 8 * b)) = b := rkB_at hW b1
    have no : ∀ M2 : Me, (∀ k, k < 61 ∨ k = 71 ∨ 74 ≤ k → M2 k = M k) → sAuction a (a.V (18 + 8 * b)) = (-10003, a) → Wp zS0 tL_does none 978 (dL v w C (a.V (18 + 8 * b)) (a.V 17) a.nb a.nc) [] M2 h (Dp e h) := by
      intro M2 k2 eU
      have hC2 : CR M2 a := hC.kept (fun k g => k2 k (by omega))
      refine Wp.g1 rfl ?_
      refine Wp.call rfl (c_auction hC2 hS _) (fun v3 M3 h3 q => ?_)
      rw [eU] at q
      obtain ⟨rfl, rfl, q3, q4⟩ := q
      refine Wp.g1 rfl ?_
      refine Wp.brt rfl (by omega) ?_
      refine Wp.g1 rfl ?_
      refine Wp.brt rfl rfl ?_
      refine Wp.g1 rfl ?_
      refine Wp.brf rfl (fun q => q rfl) ?_
      refine Wp.g1 rfl ?_
      exact Wp.re rfl ⟨rfl, rfl, a, q4, hI.mono, hG.same ((q3 74 (by omega)).trans (k2 74 (by omega))) rfl (fun _ _ => rfl)⟩
    refine Wp.g1 rfl ?_
    refine Wp.brf rfl (by omega) ?_
    refine Wp.g1 rfl ?_
    refine Wp.call rfl (c_bag (hC.cs hS) _ _) (fun v1 M1 h1 q => ?_)
    obtain ⟨rfl, rfl, q1⟩ := q
    have hC1 : CR M1 a := hC.kept (fun k g => q1 k (by omega))
    rw [bag_7 hW b1]
    refine Wp.g1 rfl ?_
    by_cases g0 : cw a.V a.nc b = -10006
    · refine Wp.brf rfl (fun q => q g0) ?_
      refine Wp.g1 rfl ?_
      refine Wp.call rfl (c_count (hC1.cs hS) _) (fun v2 M2 h2 q => ?_)
      obtain ⟨rfl, rfl, q2⟩ := q
      have hC2 := hC1.kept (M' := M2) (fun k g => q2 k (by omega))
      refine Wp.g1 rfl ?_
      refine Wp.call rfl (c_bag (hC2.cs hS) _ _) (fun v3 M3 h3 q => ?_)
      obtain ⟨rfl, rfl, q3⟩ := q
      have hC3 := hC2.kept (M' := M3) (fun k g => q3 k (by omega))
      have e6 : rBag a.V a.nb a.nc (a.V (18 + 8 * b)) 6 = a.V (18 + 8 * b + 7) := bag_at hW b1 (y := 6) (by decide)
      have ec : rCount a.V a.nb a.nc 0 = a.V 0 := rfl
      rw [e6, ec]
      refine Wp.g1 rfl ?_
      rw [w32_id (x := a.V 0 - a.V (18 + 8 * b + 7)) ⟨by omega, by omega⟩]
      by_cases g1 : 90 ≤ a.V 0 - a.V (18 + 8 * b + 7)
      · refine Wp.brf rfl (by omega) ?_
        have sU := s_auction hS (show e ≤ e + 1 by omega) (a.V (18 + 8 * b))
        have eU : sAuction a (a.V (18 + 8 * b)) = (((a.nb - 1 : Nat) : Int), ((up (rmB a.V a.nb b) 16 (w32 (a.V 16 + 1)), a.nb - 1, a.nc), (sv a).2)) := by
          unfold sAuction
          rw [er, if_pos b1, if_pos ⟨g0, g1⟩]
        rw [eU] at sU
        have lowj : ∀ j, j < 18 → j ≠ 10 → j ≠ 16 → up (rmB a.V a.nb b) 16 (w32 (a.V 16 + 1)) j = a.V j := fun j j1 j2 j3 => by
          rw [up_off j3, rmB_off j2 (by omega)]
        have hB' : SB (up (rmB a.V a.nb b) 16 (w32 (a.V 16 + 1))) (a.nb - 1) := (hI.2.1.rm).head (fun j j1 => up_off (by omega))
        have hC' : SC (up (rmB a.V a.nb b) 16 (w32 (a.V 16 + 1))) a.nc := (hCs.rmB hnb).head (fun j j1 => up_off (by omega))
        refine Wp.g1 rfl ?_
        refine Wp.call rfl (c_auction hC3 hS _) (fun v5 M5 h5 q => ?_)
        rw [eU] at q
        obtain ⟨rfl, rfl, q5, hC5⟩ := q
        refine Wp.g1 rfl ?_
        refine Wp.brt rfl (by omega) ?_
        refine Wp.g1 rfl ?_
        refine Wp.brf rfl (by decide) ?_
        refine Wp.g1 rfl ?_
        rw [w32_p (n := a.nb) (by omega) (by omega)]
        refine Wp.brf rfl (fun q => q rfl) ?_
        refine Wp.g1 rfl ?_
        refine Wp.re rfl ⟨rfl, rfl, _, hC5, hI.of sU hB' hC' ?_ ?_ ?_, hG.same ?_ (lowj 1 (by decide) (by decide) (by decide)) (fun i hi => lowj _ (by omega) (by omega) (by omega))⟩
        · have := lowj 11 (by decide) (by decide) (by decide)
          show up (rmB a.V a.nb b) 16 (w32 (a.V 16 + 1)) 11 ≤ a.V 11 + 1
          omega
        · have := lowj 13 (by decide) (by decide) (by decide)
          show up (rmB a.V a.nb b) 16 (w32 (a.V 16 + 1)) 13 ≤ a.V 13 + 1
          omega
        · have := lowj 0 (by decide) (by decide) (by decide)
          show up (rmB a.V a.nb b) 16 (w32 (a.V 16 + 1)) 0 ≤ a.V 0 + 99
          omega
        · exact (q5 74 (by omega)).trans ((q3 74 (by omega)).trans ((q2 74 (by omega)).trans (q1 74 (by omega))))
      · refine Wp.brt rfl (by omega) ?_
        refine no M3 (fun k g => (q3 k g).trans ((q2 k g).trans (q1 k g))) ?_
        unfold sAuction
        rw [er, if_pos b1, if_neg (fun q => g1 q.2)]
    · refine Wp.brt rfl g0 ?_
      refine no M1 q1 ?_
      unfold sAuction
      rw [er, if_pos b1, if_neg (fun q => g0 q.1)]
end GOING
