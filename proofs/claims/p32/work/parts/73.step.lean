/-! the law's step, whole -/
section STEP
variable {M : Me} {h : Ml} {a : At} {e : Nat}
theorem d_switch (hC : CR M a) (hI : Iv a e) (hG : GR M a.V) (he : e < 60) (v w C B : Int) (hc : isC a C) (hb : isB a B) : Wp zS0 tL_does none 83 (dL v w C B (a.V 17) a.nb a.nc) [] M h (Dp e h) := by
  refine Wp.g1 rfl ?_
  refine Wp.calli rfl (m_low v 16 (by decide) M h) ?_
  have l1 := lo_lt v (n := 16) (by decide)
  generalize lo v 16 = k at l1
  by_cases e0 : k = 0
  · subst e0
    refine Wp.sw rfl ?_
    exact d_found hC hI hG he v w C B _
  by_cases e1 : k = 1
  · subst e1
    refine Wp.sw rfl ?_
    exact d_found hC hI hG he v w C B _
  by_cases e2 : k = 2
  · subst e2
    refine Wp.sw rfl ?_
    exact d_found hC hI hG he v w C B _
  by_cases e3 : k = 3
  · subst e3
    refine Wp.sw rfl ?_
    exact d_found hC hI hG he v w C B _
  by_cases e4 : k = 4
  · subst e4
    refine Wp.sw rfl ?_
    exact d_claim hC hI hG he v w C B _
  by_cases e5 : k = 5
  · subst e5
    refine Wp.sw rfl ?_
    exact d_claim hC hI hG he v w C B _
  by_cases e6 : k = 6
  · subst e6
    refine Wp.sw rfl ?_
    exact d_claim hC hI hG he v w C B _
  by_cases e7 : k = 7
  · subst e7
    refine Wp.sw rfl ?_
    exact d_match hC hI hG v w C B _ hc hb
  by_cases e8 : k = 8
  · subst e8
    refine Wp.sw rfl ?_
    exact d_unmatch hC hI hG v w C B _ hc
  by_cases e9 : k = 9
  · subst e9
    refine Wp.sw rfl ?_
    exact d_deliver hC hI hG v w C B hc
  by_cases e10 : k = 10
  · subst e10
    refine Wp.sw rfl ?_
    exact d_giveUp hC hI hG v w C B hc
  by_cases e11 : k = 11
  · subst e11
    refine Wp.sw rfl ?_
    exact d_auction hC hI hG v w C B hb
  by_cases e12 : k = 12
  · subst e12
    refine Wp.sw rfl ?_
    exact d_threshold hC hI hG v w C B _
  by_cases e13 : k = 13
  · subst e13
    refine Wp.sw rfl ?_
    exact d_weight hC hI hG v w C B _
  refine Wp.swo rfl (by omega) ?_
  exact d_pass hC hI hG he v w C B _
theorem d_59 (hC : CR M a) (hI : Iv a e) (hG : GR M a.V) (he : e < 60) (v w C B : Int) (hc : isC a C) (hb : isB a B) : Wp zS0 tL_does none 59 [zr 0, zr 74, zi v, zi w, zi C, zn, zn, zn, zn, zn, zn, zn, zn, zn, zn, zn, zn, zn, zn, zn, zn, zn, zn, zn, zn, zn, zn, zn, zn] [zi B] M h (Dp e h) := by
  have hS := hI.1
  refine Wp.g1 rfl ?_
  refine Wp.call rfl (c_count (hC.cs hS) _) (fun v1 M1 h1 q => ?_)
  obtain ⟨rfl, rfl, q1⟩ := q
  have hC1 : CR M1 a := hC.kept (fun k g => q1 k (by omega))
  refine Wp.g1 rfl ?_
  refine Wp.call rfl (c_count (hC1.cs hS) _) (fun v2 M2 h2 q => ?_)
  obtain ⟨rfl, rfl, q2⟩ := q
  have hC2 : CR M2 a := hC1.kept (fun k g => q2 k (by omega))
  refine Wp.g1 rfl ?_
  refine Wp.call rfl (c_count (hC2.cs hS) _) (fun v3 M3 h3 q => ?_)
  obtain ⟨rfl, rfl, q3⟩ := q
  have hC3 : CR M3 a := hC2.kept (fun k g => q3 k (by omega))
  refine Wp.gt 83 rfl ?_
  exact d_switch hC3 hI (hG.same ((q3 74 (by omega)).trans ((q2 74 (by omega)).trans (q1 74 (by omega)))) rfl (fun _ _ => rfl)) he v w C B hc hb
theorem d_28 (hC : CR M a) (hI : Iv a e) (hG : GR M a.V) (he : e < 60) (v w C : Int) (hc : isC a C) : Wp zS0 tL_does none 28 [zr 0, zr 74, zi v, zi w, zn, zn, zn, zn, zn, zn, zn, zn, zn, zn, zn, zn, zn, zn, zn, zn, zn, zn, zn, zn, zn, zn, zn, zn, zn] [zi C] M h (Dp e h) := by
  have hS := hI.1
  have hW : WF a.V a.nb a.nc e := hS.1
  have h11 := hI.2.2.2.1.1
  refine Wp.g1 rfl ?_
  refine Wp.call rfl (c_count (hC.cs hS) _) (fun v1 M1 h1 q => ?_)
  obtain ⟨rfl, rfl, q1⟩ := q
  have hC1 : CR M1 a := hC.kept (fun k g => q1 k (by omega))
  have ec : rCount a.V a.nb a.nc 1 = (a.nb : Int) := rfl
  rw [ec]
  by_cases g : a.nb = 0
  · refine Wp.brf rfl (by omega) ?_
    refine Wp.gt 59 rfl ?_
    exact d_59 hC1 hI (hG.same (q1 74 (by omega)) rfl (fun _ _ => rfl)) he v w C 0 hc (Or.inl ⟨rfl, g⟩)
  · refine Wp.brt rfl (by omega) ?_
    refine Wp.g1 rfl ?_
    refine Wp.call rfl (c_count (hC1.cs hS) _) (fun v2 M2 h2 q => ?_)
    obtain ⟨rfl, rfl, q2⟩ := q
    have hC2 : CR M2 a := hC1.kept (fun k g => q2 k (by omega))
    rw [ec]
    refine Wp.calli rfl (m_low (bShr v 9) a.nb (by omega) M2 _) ?_
    have l1 := lo_lt (bShr v 9) (n := a.nb) (by omega)
    have hnb := hW.1.2.2.1
    generalize lo (bShr v 9) a.nb = b at l1
    refine Wp.call rfl (n_bag (hC2.cs hS) hI.2.1 (by omega) b (by omega)) (fun v3 M3 h3 q => ?_)
    obtain ⟨rfl, rfl, q3⟩ := q
    have hC3 : CR M3 a := hC2.kept (fun k g => q3 k (by omega))
    rw [if_pos l1]
    exact d_59 hC3 hI (hG.same ((q3 74 (by omega)).trans ((q2 74 (by omega)).trans (q1 74 (by omega)))) rfl (fun _ _ => rfl)) he v w C _ hc (Or.inr ⟨b, l1, rfl⟩)
theorem m_does (hC : CR M a) (hI : Iv a e) (hG : GR M a.V) (he : e < 60) (v w : Int) : Wp zS0 tL_does none 0 [zr 0, zr 74, zi v, zi w, zn, zn, zn, zn, zn, zn, zn, zn, zn, zn, zn, zn, zn, zn, zn, zn, zn, zn, zn, zn, zn, zn, zn, zn, zn] [] M h (Dp e h) := by
  have hS := hI.1
  have hW : WF a.V a.nb a.nc e := hS.1
  have h13 := hI.2.2.2.1.2
  refine Wp.g1 rfl ?_
  refine Wp.call rfl (c_count (hC.cs hS) _) (fun v1 M1 h1 q => ?_)
  obtain ⟨rfl, rfl, q1⟩ := q
  have hC1 : CR M1 a := hC.kept (fun k g => q1 k (by omega))
  have ec : rCount a.V a.nb a.nc 2 = (a.nc : Int) := rfl
  rw [ec]
  by_cases g : a.nc = 0
  · refine Wp.brf rfl (by omega) ?_
    refine Wp.gt 28 rfl ?_
    exact d_28 hC1 hI (hG.same (q1 74 (by omega)) rfl (fun _ _ => rfl)) he v w 0 (Or.inl ⟨rfl, g⟩)
  · refine Wp.brt rfl (by omega) ?_
    refine Wp.g1 rfl ?_
    refine Wp.call rfl (c_count (hC1.cs hS) _) (fun v2 M2 h2 q => ?_)
    obtain ⟨rfl, rfl, q2⟩ := q
    have hC2 : CR M2 a := hC1.kept (fun k g => q2 k (by omega))
    rw [ec]
    refine Wp.calli rfl (m_low (bShr v 5) a.nc (by omega) M2 _) ?_
    have l1 := lo_lt (bShr v 5) (n := a.nc) (by omega)
    have hnc := hW.1.2.2.2
    generalize lo (bShr v 5) a.nc = c at l1
    refine Wp.call rfl (n_claim (hC2.cs hS) hI.2.2.1 (by omega) c (by omega)) (fun v3 M3 h3 q => ?_)
    obtain ⟨rfl, rfl, q3⟩ := q
    have hC3 : CR M3 a := hC2.kept (fun k g => q3 k (by omega))
    rw [if_pos l1]
    exact d_28 hC3 hI (hG.same ((q3 74 (by omega)).trans ((q2 74 (by omega)).trans (q1 74 (by omega)))) rfl (fun _ _ => rfl)) he v w _ (Or.inr ⟨c, l1, rfl⟩)
end STEP
