/-! what the law does in a step: what comes -/
section COMING
variable {M : Me} {h : Ml} {a : At} {e : Nat}
theorem lo_and (x y : Int) : ∃ m : Nat, m < 64 ∧ bAnd (lo x 64 : Int) (lo y 64 : Int) = (m : Int) := by
  have h1 := lo_lt x (n := 64) (by decide)
  have h2 := lo_lt y (n := 64) (by decide)
  exact ⟨_, Nat.and_lt_two_pow (n := 6) _ h2, bAnd_nat (by omega)⟩
theorem d_found (hC : CR M a) (hI : Iv a e) (hG : GR M a.V) (he : e < 60) (v w C B p : Int) : Wp zS0 tL_does none 160 (dL v w C B p a.nb a.nc) [] M h (Dp e h) := by
  have hS := hI.1
  have hW : WF a.V a.nb a.nc e := hS.1
  have hnb := hW.1.2.2.1
  have hnc := hW.1.2.2.2
  have h11 := hI.2.2.2.1.1
  have hv11 := hW.2.1.2.2.2.2.2.1
  have l0 := lo_lt w (n := 4) (by decide)
  have l1 := lo_lt (bShr w 2) (n := 3) (by decide)
  have l2 := lo_lt (bShr v 5) (n := 8) (by decide)
  have l3 := lo_lt (bShr v 8) (n := 8) (by decide)
  have l4 := lo_lt (bShr v 11) (n := 12) (by decide)
  have l5 := lo_lt (bShr w 16) (n := 256) (by decide)
  obtain ⟨ill, i1, i2⟩ := lo_and (bShr w 4) (bShr w 10)
  refine Wp.g1 rfl ?_
  refine Wp.calli rfl (m_low w 4 (by decide) M h) ?_
  refine Wp.g1 rfl ?_
  rw [w32_id (x := (lo w 4 : Int) * 111111) ⟨by omega, by omega⟩]
  refine Wp.calli rfl (m_low (bShr w 2) 3 (by decide) M h) ?_
  refine Wp.g1 rfl ?_
  rw [w32_id (x := (lo w 4 : Int) * 111111 + (lo (bShr w 2) 3 : Int)) ⟨by omega, by omega⟩]
  refine Wp.calli rfl (m_low (bShr v 5) 8 (by decide) M h) ?_
  refine Wp.g1 rfl ?_
  refine Wp.calli rfl (m_low (bShr w 4) 64 (by decide) M h) ?_
  refine Wp.g1 rfl ?_
  refine Wp.calli rfl (m_low (bShr w 10) 64 (by decide) M h) ?_
  refine Wp.g1 rfl ?_
  rw [i2]
  refine Wp.calli rfl (m_low (bShr v 8) 8 (by decide) M h) ?_
  refine Wp.g1 rfl ?_
  refine Wp.calli rfl (m_low (bShr v 11) 12 (by decide) M h) ?_
  refine Wp.g1 rfl ?_
  refine Wp.calli rfl (m_low (bShr w 16) 256 (by decide) M h) ?_
  generalize lo w 4 = t0 at *
  generalize lo (bShr w 2) 3 = t1 at *
  generalize lo (bShr v 5) 8 = x0 at *
  generalize lo (bShr v 8) 8 = x3 at *
  generalize lo (bShr v 11) 12 = x4 at *
  generalize lo (bShr w 16) 256 = x5 at *
  have hT : 0 ≤ (t0 : Int) * 111111 + (t1 : Int) ∧ (t0 : Int) * 111111 + (t1 : Int) ≤ 999999 := by omega
  generalize (t0 : Int) * 111111 + (t1 : Int) = tag at *
  have sU := s_found hS (show e + 1 ≤ e + 1 by omega) (x0 : Int) tag (ill : Int) (x3 : Int) (x4 : Int) (x5 : Int)
  have eF : sFound a (x0 : Int) tag (ill : Int) (x3 : Int) (x4 : Int) (x5 : Int) = if a.nb = 12 then (-10004, a) else (a.V 11 + 1, ((nBag a.V a.nb (x0 : Int) (leg tag (ill : Int)) (ill : Int) (x3 : Int) (x4 : Int) (x5 : Int), a.nb + 1, a.nc), (sv a).2)) := if_neg (by omega)
  refine Wp.call rfl (c_found hC hS (by omega) _ _ _ _ _ _) (fun v1 M1 h1 q => ?_)
  rw [eF] at q sU
  by_cases g : a.nb = 12
  · rw [if_pos g] at q
    obtain ⟨rfl, rfl, q1, q2⟩ := q
    refine Wp.g1 rfl ?_
    refine Wp.brf rfl (by omega) ?_
    refine Wp.g1 rfl ?_
    refine Wp.brf rfl (fun q => q rfl) ?_
    refine Wp.g1 rfl ?_
    exact Wp.re rfl ⟨rfl, rfl, a, q2, hI.mono, hG.same (q1 74 (by omega)) rfl (fun _ _ => rfl)⟩
  · rw [if_neg g] at q sU
    have hlt : a.nb < 12 := by omega
    obtain ⟨rfl, rfl, q1, q2⟩ := q
    refine Wp.g1 rfl ?_
    refine Wp.brt rfl (by omega) ?_
    refine Wp.g1 rfl ?_
    refine Wp.brf rfl (by show ¬ a.V 11 + 1 ≤ 0; omega) ?_
    refine Wp.g1 rfl ?_
    generalize leg tag (ill : Int) = lg at *
    have nof : ∀ j, j ≠ 10 → j ≠ 11 → (j < 18 + 8 * a.nb ∨ 18 + 8 * a.nb + 8 ≤ j) → nBag a.V a.nb (x0 : Int) lg (ill : Int) (x3 : Int) (x4 : Int) (x5 : Int) j = a.V j := fun j j1 j2 j3 => nBag_off j1 j2 j3
    have nhd := nBag_hd (V := a.V) (nb := a.nb) (x0 : Int) lg (ill : Int) (x3 : Int) (x4 : Int) (x5 : Int)
    have nrw := nBag_row (V := a.V) (nb := a.nb) (x0 : Int) lg (ill : Int) (x3 : Int) (x4 : Int) (x5 : Int)
    have hB' := hI.2.1.add hW hlt (x0 : Int) lg (ill : Int) (x3 : Int) (x4 : Int) (x5 : Int)
    have hC' := hI.2.2.1.addB hlt (x0 : Int) lg (ill : Int) (x3 : Int) (x4 : Int) (x5 : Int)
    generalize nBag a.V a.nb (x0 : Int) lg (ill : Int) (x3 : Int) (x4 : Int) (x5 : Int) = V' at *
    have hW' : WF V' (a.nb + 1) a.nc (e + 1) := sU.1
    have eN : a.V 11 + 1 = V' (18 + 8 * a.nb) := nhd.2.2.symm
    refine Wp.call rfl (c_count (q2.cs sU) _) (fun v2 M2 h2 q => ?_)
    obtain ⟨rfl, rfl, q3⟩ := q
    have hC2 := q2.kept (M' := M2) (fun k g => q3 k (by omega))
    refine Wp.g1 rfl ?_
    rw [w32_s (n := a.nb) (by omega)]
    refine Wp.brf rfl (fun q => q rfl) ?_
    refine Wp.g1 rfl ?_
    refine Wp.call rfl (c_bag (hC2.cs sU) _ _) (fun v3 M3 h3 q => ?_)
    obtain ⟨rfl, rfl, q4⟩ := q
    have hC3 := hC2.kept (M' := M3) (fun k g => q4 k (by omega))
    refine Wp.g1 rfl ?_
    refine Wp.call rfl (c_count (hC3.cs sU) _) (fun v4 M4 h4 q => ?_)
    obtain ⟨rfl, rfl, q5⟩ := q
    have hC4 := hC3.kept (M' := M4) (fun k g => q5 k (by omega))
    have e6 : rBag V' (a.nb + 1) a.nc (a.V 11 + 1) 6 = V' 0 := by
      rw [eN]
      have := bag_at (y := 6) hW' (r := a.nb) (by omega) (by decide)
      refine this.trans ?_
      rw [nof 0 (by omega) (by omega) (by omega)]
      exact nrw.2.2.2.2.2.2
    refine Wp.brf rfl (fun q => q e6) ?_
    refine Wp.g1 rfl ?_
    refine Wp.call rfl (c_bag (hC4.cs sU) _ _) (fun v5 M5 h5 q => ?_)
    obtain ⟨rfl, rfl, q6⟩ := q
    have hC5 := hC4.kept (M' := M5) (fun k g => q6 k (by omega))
    have e7 : rBag V' (a.nb + 1) a.nc (a.V 11 + 1) 7 = -10006 := by
      rw [eN, bag_7 hW' (by omega)]
      refine cw_none (fun r hr q => ?_)
      rw [nof _ (by omega) (by omega) (by omega), ← eN] at q
      have := (hW.2.2.2.1 r hr)
      obtain ⟨-, -, -, -, -, -, -, -, -, -, c9⟩ := this
      omega
    refine Wp.g1 rfl ?_
    refine Wp.brf rfl (fun q => q e7) ?_
    refine Wp.g1 rfl ?_
    refine Wp.re rfl ⟨rfl, rfl, _, hC5, hI.of sU hB' hC' ?_ ?_ ?_, hG.same ?_ (nof 1 (by omega) (by omega) (by omega)) (fun i hi => nof _ (by omega) (by omega) (by omega))⟩
    · show V' 11 ≤ a.V 11 + 1
      rw [nhd.2.1]; omega
    · show V' 13 ≤ a.V 13 + 1
      rw [nof 13 (by omega) (by omega) (by omega)]; omega
    · show V' 0 ≤ a.V 0 + 99
      rw [nof 0 (by omega) (by omega) (by omega)]; omega
    · exact (q6 74 (by omega)).trans ((q5 74 (by omega)).trans ((q4 74 (by omega)).trans ((q3 74 (by omega)).trans (q1 74 (by omega)))))
theorem d_claim (hC : CR M a) (hI : Iv a e) (hG : GR M a.V) (he : e < 60) (v w C B p : Int) : Wp zS0 tL_does none 316 (dL v w C B p a.nb a.nc) [] M h (Dp e h) := by
  have hS := hI.1
  have hW : WF a.V a.nb a.nc e := hS.1
  have hnb := hW.1.2.2.1
  have hnc := hW.1.2.2.2
  have hv0 := hW.2.1.1
  have hv13 := hW.2.1.2.2.2.2.2.2
  have l0 := lo_lt w (n := 4) (by decide)
  have l1 := lo_lt (bShr w 2) (n := 3) (by decide)
  have l2 := lo_lt (bShr v 8) (n := 8) (by decide)
  have l3 := lo_lt (bShr v 11) (n := 12) (by decide)
  have l4 := lo_lt (bShr w 16) (n := 256) (by decide)
  have l5 := lo_lt (bShr w 8) (n := 255) (by decide)
  have l6 := lo_lt (bShr w 4) (n := 3000) (by decide)
  have l7 := lo_lt (bShr v 15) (n := 21) (by decide)
  have l8 := lo_lt (bShr v 5) (n := 31) (by decide)
  refine Wp.g1 rfl ?_
  refine Wp.calli rfl (m_low w 4 (by decide) M h) ?_
  refine Wp.g1 rfl ?_
  rw [w32_id (x := (lo w 4 : Int) * 111111) ⟨by omega, by omega⟩]
  refine Wp.calli rfl (m_low (bShr w 2) 3 (by decide) M h) ?_
  refine Wp.g1 rfl ?_
  rw [w32_id (x := (lo w 4 : Int) * 111111 + (lo (bShr w 2) 3 : Int)) ⟨by omega, by omega⟩]
  refine Wp.calli rfl (m_low (bShr v 8) 8 (by decide) M h) ?_
  refine Wp.g1 rfl ?_
  refine Wp.calli rfl (m_low (bShr v 11) 12 (by decide) M h) ?_
  refine Wp.g1 rfl ?_
  refine Wp.calli rfl (m_low (bShr w 16) 256 (by decide) M h) ?_
  refine Wp.g1 rfl ?_
  refine Wp.calli rfl (m_low (bShr w 8) 255 (by decide) M h) ?_
  refine Wp.g1 rfl ?_
  rw [w32_id (x := 1 + (lo (bShr w 8) 255 : Int)) ⟨by omega, by omega⟩]
  refine Wp.calli rfl (m_low (bShr w 4) 3000 (by decide) M h) ?_
  refine Wp.g1 rfl ?_
  rw [w32_id (x := 1 + (lo (bShr w 4) 3000 : Int)) ⟨by omega, by omega⟩]
  refine Wp.calli rfl (m_low (bShr v 15) 21 (by decide) M h) ?_
  refine Wp.g1 rfl ?_
  refine Wp.calli rfl (m_low (bShr v 5) 31 (by decide) M h) ?_
  have sU := s_claim hS (show e + 1 ≤ e + 1 by omega) ((lo w 4 : Int) * 111111 + (lo (bShr w 2) 3 : Int)) (lo (bShr v 8) 8 : Int) (lo (bShr v 11) 12 : Int) (lo (bShr w 16) 256 : Int) (1 + (lo (bShr w 8) 255 : Int)) (1 + (lo (bShr w 4) 3000 : Int)) (lo (bShr v 15) 21 : Int) (lo (bShr v 5) 31 : Int)
  have eF : sClaim a ((lo w 4 : Int) * 111111 + (lo (bShr w 2) 3 : Int)) (lo (bShr v 8) 8 : Int) (lo (bShr v 11) 12 : Int) (lo (bShr w 16) 256 : Int) (1 + (lo (bShr w 8) 255 : Int)) (1 + (lo (bShr w 4) 3000 : Int)) (lo (bShr v 15) 21 : Int) (lo (bShr v 5) 31 : Int) = if a.nc = 10 then (-10004, a) else (a.V 13 + 1, ((nClm a.V a.nc ((lo w 4 : Int) * 111111 + (lo (bShr w 2) 3 : Int)) (lo (bShr v 8) 8 : Int) (lo (bShr v 11) 12 : Int) (lo (bShr w 16) 256 : Int) (1 + (lo (bShr w 8) 255 : Int)) (1 + (lo (bShr w 4) 3000 : Int)) (lo (bShr v 15) 21 : Int) (a.V 0 - (lo (bShr v 5) 31 : Int)), a.nb, a.nc + 1), (sv a).2)) := if_neg (by omega)
  refine Wp.call rfl (c_claim hC hS (by omega) _ _ _ _ _ _ _ _) (fun v1 M1 h1 q => ?_)
  rw [eF] at q sU
  by_cases g : a.nc = 10
  · rw [if_pos g] at q
    obtain ⟨rfl, rfl, q1, q2⟩ := q
    refine Wp.g1 rfl ?_
    refine Wp.brf rfl (by omega) ?_
    refine Wp.g1 rfl ?_
    refine Wp.brf rfl (fun q => q rfl) ?_
    refine Wp.g1 rfl ?_
    exact Wp.re rfl ⟨rfl, rfl, a, q2, hI.mono, hG.same (q1 74 (by omega)) rfl (fun _ _ => rfl)⟩
  · rw [if_neg g] at q sU
    obtain ⟨rfl, rfl, q1, q2⟩ := q
    generalize hx : (lo (bShr v 5) 31 : Int) = x8 at *
    generalize (lo w 4 : Int) * 111111 + (lo (bShr w 2) 3 : Int) = x1 at *
    generalize (lo (bShr v 8) 8 : Int) = x2 at *
    generalize (lo (bShr v 11) 12 : Int) = x3 at *
    generalize (lo (bShr w 16) 256 : Int) = x4 at *
    generalize 1 + (lo (bShr w 8) 255 : Int) = x5 at *
    generalize 1 + (lo (bShr w 4) 3000 : Int) = x6 at *
    generalize (lo (bShr v 15) 21 : Int) = x7 at *
    refine Wp.g1 rfl ?_
    refine Wp.brt rfl (by omega) ?_
    refine Wp.g1 rfl ?_
    refine Wp.brf rfl (by show ¬ a.V 13 + 1 ≤ 0; omega) ?_
    refine Wp.g1 rfl ?_
    have nof : ∀ j, j ≠ 12 → j ≠ 13 → (j < 114 + 10 * a.nc ∨ 114 + 10 * a.nc + 10 ≤ j) → nClm a.V a.nc x1 x2 x3 x4 x5 x6 x7 (a.V 0 - x8) j = a.V j := fun j j1 j2 j3 => nClm_off j1 j2 j3
    have nhd := nClm_hd (V := a.V) (nc := a.nc) x1 x2 x3 x4 x5 x6 x7 (a.V 0 - x8)
    have nrw := nClm_row (V := a.V) (nc := a.nc) x1 x2 x3 x4 x5 x6 x7 (a.V 0 - x8)
    have hB' := hI.2.1.addC (nc := a.nc) hnb x1 x2 x3 x4 x5 x6 x7 (a.V 0 - x8)
    have hC' := hI.2.2.1.add hW x1 x2 x3 x4 x5 x6 x7 (a.V 0 - x8)
    generalize nClm a.V a.nc x1 x2 x3 x4 x5 x6 x7 (a.V 0 - x8) = V' at *
    have hW' : WF V' a.nb (a.nc + 1) (e + 1) := sU.1
    have eN : a.V 13 + 1 = V' (114 + 10 * a.nc) := nhd.2.2.1.symm
    refine Wp.call rfl (c_count (q2.cs sU) _) (fun v2 M2 h2 q => ?_)
    obtain ⟨rfl, rfl, q3⟩ := q
    have hC2 := q2.kept (M' := M2) (fun k g => q3 k (by omega))
    refine Wp.g1 rfl ?_
    rw [w32_s (n := a.nc) (by omega)]
    refine Wp.brf rfl (fun q => q rfl) ?_
    refine Wp.g1 rfl ?_
    refine Wp.call rfl (c_claimOf (hC2.cs sU) _ _) (fun v3 M3 h3 q => ?_)
    obtain ⟨rfl, rfl, q4⟩ := q
    have hC3 := hC2.kept (M' := M3) (fun k g => q4 k (by omega))
    have e8 : rClaimOf V' (a.nc + 1) (a.V 13 + 1) 8 = -10006 := by
      rw [eN, claim_8 hC' (by omega), (pt_free hW' (by omega)).mpr]
      exact nhd.2.2.2
    refine Wp.g1 rfl ?_
    refine Wp.brf rfl (fun q => q e8) ?_
    refine Wp.g1 rfl ?_
    refine Wp.call rfl (c_claimOf (hC3.cs sU) _ _) (fun v4 M4 h4 q => ?_)
    obtain ⟨rfl, rfl, q5⟩ := q
    have hC4 := hC3.kept (M' := M4) (fun k g => q5 k (by omega))
    refine Wp.g1 rfl ?_
    refine Wp.call rfl (c_count (hC4.cs sU) _) (fun v5 M5 h5 q => ?_)
    obtain ⟨rfl, rfl, q6⟩ := q
    have hC5 := hC4.kept (M' := M5) (fun k g => q6 k (by omega))
    refine Wp.g1 rfl ?_
    refine Wp.calli rfl (m_low (bShr v 5) 31 (by decide) M5 _) ?_
    rw [hx]
    have ec : rCount V' a.nb (a.nc + 1) 0 = a.V 0 := nof 0 (by omega) (by omega) (by omega)
    have e7 : rClaimOf V' (a.nc + 1) (a.V 13 + 1) 7 = a.V 0 - x8 := by
      rw [eN]
      have := claim_at (y := 7) hC' (r := a.nc) (by omega) (by decide)
      exact this.trans nrw.2.2.2.2.2.2.2
    refine Wp.g1 rfl ?_
    refine Wp.brf rfl (fun q => q ?_) ?_
    · show rClaimOf V' (a.nc + 1) (a.V 13 + 1) 7 = w32 (rCount V' a.nb (a.nc + 1) 0 - x8)
      rw [e7, ec, w32_id ⟨by omega, by omega⟩]
    refine Wp.g1 rfl ?_
    refine Wp.re rfl ⟨rfl, rfl, _, hC5, hI.of sU hB' hC' ?_ ?_ ?_, hG.same ?_ (nof 1 (by omega) (by omega) (by omega)) (fun i hi => nof _ (by omega) (by omega) (by omega))⟩
    · show V' 11 ≤ a.V 11 + 1
      rw [nof 11 (by omega) (by omega) (by omega)]; omega
    · show V' 13 ≤ a.V 13 + 1
      rw [nhd.2.1]; omega
    · show V' 0 ≤ a.V 0 + 99
      rw [nof 0 (by omega) (by omega) (by omega)]; omega
    · exact (q6 74 (by omega)).trans ((q5 74 (by omega)).trans ((q4 74 (by omega)).trans ((q3 74 (by omega)).trans (q1 74 (by omega)))))
end COMING
