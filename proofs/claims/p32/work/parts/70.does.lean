/-! what the law does in a step: settings, matches -/
abbrev dL (v w C B p : Int) (nb nc : Nat) : List ZV := [zr 0, zr 74, zi v, zi w, zi C, zi B, zi p, zi nb, zi nc, zn, zn, zn, zn, zn, zn, zn, zn, zn, zn, zn, zn, zn, zn, zn, zn, zn, zn, zn, zn]
def Dp (e : Nat) (h : Ml) : Option ZV → Me → Ml → Prop := fun v M' h' => v = some (zi 1) ∧ h' = h ∧ ∃ a', CR M' a' ∧ Iv a' (e + 1) ∧ GR M' a'.V
def isC (a : At) (C : Int) : Prop := (C = 0 ∧ a.nc = 0) ∨ ∃ c, c < a.nc ∧ C = a.V (114 + 10 * c)
def isB (a : At) (B : Int) : Prop := (B = 0 ∧ a.nb = 0) ∨ ∃ b, b < a.nb ∧ B = a.V (18 + 8 * b)
section DOES
variable {M : Me} {h : Ml} {a : At} {e : Nat}
theorem d_threshold (hC : CR M a) (hI : Iv a e) (hG : GR M a.V) (v w C B p : Int) : Wp zS0 tL_does none 1022 (dL v w C B p a.nb a.nc) [] M h (Dp e h) := by
  have hS := hI.1
  have l1 := lo_lt w (n := 201) (by decide)
  refine Wp.g1 rfl ?_
  refine Wp.calli rfl (m_low w 201 (by decide) M h) ?_
  refine Wp.g1 rfl ?_
  refine Wp.ld rfl rfl 0 rfl (by decide) ?_
  refine Wp.g1 rfl ?_
  refine Wp.sto rfl rfl 0 rfl (by decide) ?_
  have hC1 : CR (upd2 M 74 0 (lo w 201 : Int)) a := hC.kept (fun k g => by rw [upd2_ne (by omega)])
  refine Wp.g1 rfl ?_
  have eT : sThreshold a (lo w 201 : Int) = (a.V 1, ((up a.V 1 (lo w 201 : Int), a.nb, a.nc), (sv a).2)) := if_neg (by omega)
  have sT := s_threshold hS (show e ≤ e + 1 by omega) (lo w 201 : Int)
  rw [eT] at sT
  refine Wp.call rfl (c_setThreshold hC1 hS _) (fun v2 M2 h2 q => ?_)
  rw [eT] at q
  obtain ⟨rfl, rfl, q2, q3⟩ := q
  refine Wp.g1 rfl ?_
  refine Wp.brf rfl (fun q => q hG.1.symm) ?_
  refine Wp.g1 rfl ?_
  refine Wp.re rfl ⟨rfl, rfl, _, q3, hI.of sT (hI.2.1.head (fun j g => up_off (by omega))) (hI.2.2.1.head (fun j g => up_off (by omega))) ?_ ?_ ?_, ?_, fun i hi => ?_⟩
  · show up a.V 1 (lo w 201 : Int) 11 ≤ a.V 11 + 1
    rw [up_off (by decide)]; omega
  · show up a.V 1 (lo w 201 : Int) 13 ≤ a.V 13 + 1
    rw [up_off (by decide)]; omega
  · show up a.V 1 (lo w 201 : Int) 0 ≤ a.V 0 + 99
    rw [up_off (by decide)]; omega
  · show M2 74 0 = up a.V 1 (lo w 201 : Int) 1
    rw [q2 74 (by omega), upd2_at, up_at]
  · show M2 74 (1 + i) = up a.V 1 (lo w 201 : Int) (4 + i)
    rw [q2 74 (by omega), upd2_off (by omega), up_off (by omega)]
    exact hG.2 i hi
theorem d_weight (hC : CR M a) (hI : Iv a e) (hG : GR M a.V) (v w C B p : Int) : Wp zS0 tL_does none 1058 (dL v w C B p a.nb a.nc) [] M h (Dp e h) := by
  have hS := hI.1
  refine Wp.g1 rfl ?_
  refine Wp.calli rfl (m_low (bShr v 5) 6 (by decide) M h) ?_
  have l1 := lo_lt (bShr v 5) (n := 6) (by decide)
  generalize lo (bShr v 5) 6 = i at l1
  have e1 : w32 (1 + (i : Int)) = ((1 + i : Nat) : Int) := by rw [w32_id ⟨by omega, by omega⟩]; omega
  refine Wp.g1 rfl ?_
  rw [e1]
  refine Wp.ld rfl rfl (1 + i) rfl (by omega) ?_
  refine Wp.g1 rfl ?_
  rw [e1]
  refine Wp.calli rfl (m_low w 51 (by decide) M h) ?_
  have l2 := lo_lt w (n := 51) (by decide)
  generalize lo w 51 = y at l2
  refine Wp.sto rfl rfl (1 + i) rfl (by omega) ?_
  have hC1 : CR (upd2 M 74 (1 + i) (y : Int)) a := hC.kept (fun k g => by rw [upd2_ne (by omega)])
  refine Wp.g1 rfl ?_
  rw [e1]
  refine Wp.ld rfl rfl (1 + i) rfl (by omega) ?_
  rw [upd2_at]
  have eT : sWeight a (i : Int) (y : Int) = (a.V (4 + i), ((up a.V (4 + i) (y : Int), a.nb, a.nc), (sv a).2)) := by
    unfold sWeight
    rw [if_neg (by omega), if_neg (by omega), Int.toNat_natCast]
  have sT := s_weight hS (show e ≤ e + 1 by omega) (i : Int) (y : Int)
  rw [eT] at sT
  refine Wp.call rfl (c_setWeight hC1 hS _ _) (fun v2 M2 h2 q => ?_)
  rw [eT] at q
  obtain ⟨rfl, rfl, q2, q3⟩ := q
  refine Wp.g1 rfl ?_
  refine Wp.brf rfl (fun q => q (hG.2 i l1).symm) ?_
  refine Wp.g1 rfl ?_
  refine Wp.re rfl ⟨rfl, rfl, _, q3, hI.of sT (hI.2.1.head (fun j g => up_off (by omega))) (hI.2.2.1.head (fun j g => up_off (by omega))) ?_ ?_ ?_, ?_, fun j hj => ?_⟩
  · show up a.V (4 + i) (y : Int) 11 ≤ a.V 11 + 1
    rw [up_off (by omega)]; omega
  · show up a.V (4 + i) (y : Int) 13 ≤ a.V 13 + 1
    rw [up_off (by omega)]; omega
  · show up a.V (4 + i) (y : Int) 0 ≤ a.V 0 + 99
    rw [up_off (by omega)]; omega
  · show M2 74 0 = up a.V (4 + i) (y : Int) 1
    rw [q2 74 (by omega), upd2_off (by omega), up_off (by omega)]
    exact hG.1
  · show M2 74 (1 + j) = up a.V (4 + i) (y : Int) (4 + j)
    rw [q2 74 (by omega)]
    by_cases g : j = i
    · subst g
      rw [upd2_at, up_at]
    · rw [upd2_off (by omega), up_off (by omega)]
      exact hG.2 j hj
theorem d_pass (hC : CR M a) (hI : Iv a e) (hG : GR M a.V) (he : e < 60) (v w C B p : Int) : Wp zS0 tL_does none 1111 (dL v w C B p a.nb a.nc) [] M h (Dp e h) := by
  have hS := hI.1
  have h0 := hI.2.2.2.2
  have hv0 := hS.1.2.1.1
  refine Wp.g1 rfl ?_
  refine Wp.call rfl (c_count (hC.cs hS) _) (fun v1 M1 h1 q => ?_)
  obtain ⟨rfl, rfl, q1⟩ := q
  have hC1 : CR M1 a := hC.kept (fun k g => q1 k (by omega))
  have ec : rCount a.V a.nb a.nc 0 = a.V 0 := rfl
  rw [ec]
  refine Wp.g1 rfl ?_
  have rest : ∀ n : Nat, 0 < n → n ≤ 99 → Wp zS0 tL_does none 1135 [zr 0, zr 74, zi v, zi w, zi C, zi B, zi p, zi a.nb, zi a.nc, zn, zn, zn, zn, zn, zn, zn, zn, zn, zn, zn, zn, zn, zn, zn, zn, zn, zn, zi (a.V 0), zn] [zi n, zi w, zi 1] M1 h1 (Dp e h1) := by
    intro n hn1 hn2
    refine Wp.calli rfl (m_low w n hn1 M1 h1) ?_
    have l2 := lo_lt w hn1
    generalize lo w n = y at l2
    refine Wp.g1 rfl ?_
    rw [w32_id (x := 1 + (y : Int)) ⟨by omega, by omega⟩]
    have eT : sPass a (1 + (y : Int)) = (a.V 0 + (1 + (y : Int)), ((up a.V 0 (a.V 0 + (1 + (y : Int))), a.nb, a.nc), (sv a).2)) := by
      unfold sPass
      rw [if_neg (by omega), if_neg (by omega)]
    have sT := s_pass hS (show e ≤ e + 1 by omega) (1 + (y : Int))
    rw [eT] at sT
    refine Wp.call rfl (c_pass hC1 hS _) (fun v2 M2 h2 q => ?_)
    rw [eT] at q
    obtain ⟨rfl, rfl, q2, q3⟩ := q
    refine Wp.g1 rfl ?_
    rw [w32_id (x := a.V 0 + (1 + (y : Int))) ⟨by omega, by omega⟩]
    refine Wp.brf rfl (fun q => q rfl) ?_
    refine Wp.g1 rfl ?_
    refine Wp.re rfl ⟨rfl, rfl, _, q3, hI.of sT (hI.2.1.head (fun j g => up_off (by omega))) (hI.2.2.1.head (fun j g => up_off (by omega))) ?_ ?_ ?_, hG.same ?_ ?_ (fun j hj => ?_)⟩
    · show up a.V 0 (a.V 0 + (1 + (y : Int))) 11 ≤ a.V 11 + 1
      rw [up_off (by omega)]; omega
    · show up a.V 0 (a.V 0 + (1 + (y : Int))) 13 ≤ a.V 13 + 1
      rw [up_off (by omega)]; omega
    · show up a.V 0 (a.V 0 + (1 + (y : Int))) 0 ≤ a.V 0 + 99
      rw [up_at]; omega
    · rw [q2 74 (by omega)]
      exact q1 74 (by omega)
    · show up a.V 0 (a.V 0 + (1 + (y : Int))) 1 = a.V 1
      exact up_off (by decide)
    · show up a.V 0 (a.V 0 + (1 + (y : Int))) (4 + j) = a.V (4 + j)
      exact up_off (by omega)
  refine Wp.br rfl (fun c0 => ?_) (fun c0 => ?_)
  · refine Wp.gt 1135 rfl ?_
    exact rest 12 (by decide) (by decide)
  · refine Wp.gt 1135 rfl ?_
    exact rest 99 (by decide) (by decide)
theorem d_unmatch (hC : CR M a) (hI : Iv a e) (hG : GR M a.V) (v w C B p : Int) (hc : isC a C) : Wp zS0 tL_does none 619 (dL v w C B p a.nb a.nc) [] M h (Dp e h) := by
  have hS := hI.1
  have hW : WF a.V a.nb a.nc e := hS.1
  have hCs : SC a.V a.nc := hI.2.2.1
  rcases hc with ⟨rfl, c0⟩ | ⟨c, c1, rfl⟩
  · have eU : sUnmatch a 0 = (-10001, a) := if_neg (by rw [rkC_no (fun r hr => by omega)]; omega)
    refine Wp.g1 rfl ?_
    refine Wp.brf rfl (by decide) ?_
    refine Wp.g1 rfl ?_
    refine Wp.call rfl (c_unmatch hC hS _) (fun v2 M2 h2 q => ?_)
    rw [eU] at q
    obtain ⟨rfl, rfl, q2, q3⟩ := q
    refine Wp.g1 rfl ?_
    refine Wp.brf rfl (by decide) ?_
    refine Wp.g1 rfl ?_
    refine Wp.brf rfl (fun q => q rfl) ?_
    refine Wp.g1 rfl ?_
    exact Wp.re rfl ⟨rfl, rfl, a, q3, hI.mono, hG.same (q2 74 (by omega)) rfl (fun _ _ => rfl)⟩
  · have hp := (hW.2.2.2.1 c c1).1
    have er : rkC a.V a.nc (a.V (114 + 10 * c)) = c := rkC_at hCs c1
    refine Wp.g1 rfl ?_
    refine Wp.brt rfl (by omega) ?_
    refine Wp.g1 rfl ?_
    refine Wp.call rfl (c_claimOf (hC.cs hS) _ _) (fun v1 M1 h1 q => ?_)
    obtain ⟨rfl, rfl, q1⟩ := q
    have hC1 : CR M1 a := hC.kept (fun k g => q1 k (by omega))
    rw [claim_8 hCs c1]
    refine Wp.g1 rfl ?_
    have sU := s_unmatch hS (show e ≤ e + 1 by omega) (a.V (114 + 10 * c))
    by_cases g0 : a.V (114 + 10 * c + 9) = 0
    · have eU : sUnmatch a (a.V (114 + 10 * c)) = (-10003, a) := by
        unfold sUnmatch
        rw [er, if_pos c1, if_pos g0]
      refine Wp.call rfl (c_unmatch hC1 hS _) (fun v2 M2 h2 q => ?_)
      rw [eU] at q
      obtain ⟨rfl, rfl, q2, q3⟩ := q
      rw [(pt_free hW c1).mpr g0]
      refine Wp.g1 rfl ?_
      refine Wp.brt rfl (by omega) ?_
      refine Wp.g1 rfl ?_
      refine Wp.brf rfl (by decide) ?_
      refine Wp.g1 rfl ?_
      refine Wp.brf rfl (fun q => q rfl) ?_
      refine Wp.g1 rfl ?_
      exact Wp.re rfl ⟨rfl, rfl, a, q3, hI.mono, hG.same ((q2 74 (by omega)).trans (q1 74 (by omega))) rfl (fun _ _ => rfl)⟩
    · have eU : sUnmatch a (a.V (114 + 10 * c)) = (a.V (114 + 10 * c + 9), ((up a.V (114 + 10 * c + 9) 0, a.nb, a.nc), (sv a).2)) := by
        unfold sUnmatch
        rw [er, if_pos c1, if_neg g0]
      rw [eU] at sU
      have hne : pt a.V c ≠ -10006 := fun q => g0 ((pt_free hW c1).mp q)
      refine Wp.call rfl (c_unmatch hC1 hS _) (fun v2 M2 h2 q => ?_)
      rw [eU] at q
      obtain ⟨rfl, rfl, q2, q3⟩ := q
      refine Wp.g1 rfl ?_
      refine Wp.brt rfl (by omega) ?_
      refine Wp.g1 rfl ?_
      refine Wp.brt rfl hne ?_
      refine Wp.g1 rfl ?_
      refine Wp.brf rfl (fun q => q (pt_val g0).symm) ?_
      refine Wp.g1 rfl ?_
      have sm := Same.up9 a.V c 0
      refine Wp.re rfl ⟨rfl, rfl, _, q3, hI.of sU (sm.SB hW.1.2.2.1 hI.2.1) (sm.SC hCs) ?_ ?_ ?_, hG.same ((q2 74 (by omega)).trans (q1 74 (by omega))) (sm 1 (by omega)) (fun i hi => sm _ (by omega))⟩
      · have := sm 11 (by omega)
        show up a.V (114 + 10 * c + 9) 0 11 ≤ a.V 11 + 1
        omega
      · have := sm 13 (by omega)
        show up a.V (114 + 10 * c + 9) 0 13 ≤ a.V 13 + 1
        omega
      · have := sm 0 (by omega)
        show up a.V (114 + 10 * c + 9) 0 0 ≤ a.V 0 + 99
        omega
theorem d_match (hC : CR M a) (hI : Iv a e) (hG : GR M a.V) (v w C B p : Int) (hc : isC a C) (hb : isB a B) : Wp zS0 tL_does none 491 (dL v w C B p a.nb a.nc) [] M h (Dp e h) := by
  have hS := hI.1
  have hW : WF a.V a.nb a.nc e := hS.1
  have hCs : SC a.V a.nc := hI.2.2.1
  rcases hc with ⟨rfl, c0⟩ | ⟨c, c1, rfl⟩
  · have eU : sMatch a 0 B = (-10001, a) := if_neg (fun q => by have := q.1; rw [rkC_no (fun r hr => by omega)] at this; omega)
    refine Wp.g1 rfl ?_
    refine Wp.brt rfl rfl ?_
    refine Wp.g1 rfl ?_
    refine Wp.brt rfl (by decide) ?_
    refine Wp.g1 rfl ?_
    refine Wp.call rfl (c_match hC hS _ _) (fun v2 M2 h2 q => ?_)
    rw [eU] at q
    obtain ⟨rfl, rfl, q2, q3⟩ := q
    refine Wp.g1 rfl ?_
    refine Wp.brt rfl rfl ?_
    refine Wp.g1 rfl ?_
    refine Wp.brf rfl (fun q => q rfl) ?_
    refine Wp.g1 rfl ?_
    exact Wp.re rfl ⟨rfl, rfl, a, q3, hI.mono, hG.same (q2 74 (by omega)) rfl (fun _ _ => rfl)⟩
  · have hp := (hW.2.2.2.1 c c1).1
    have er : rkC a.V a.nc (a.V (114 + 10 * c)) = c := rkC_at hCs c1
    refine Wp.g1 rfl ?_
    refine Wp.brf rfl (by omega) ?_
    refine Wp.g1 rfl ?_
    rcases hb with ⟨rfl, b0⟩ | ⟨b, b1, rfl⟩
    · have eU : sMatch a (a.V (114 + 10 * c)) 0 = (-10001, a) := if_neg (fun q => by have := q.2; rw [rkB_no (fun r hr => by omega)] at this; omega)
      refine Wp.brf rfl (by decide) ?_
      refine Wp.g1 rfl ?_
      refine Wp.brf rfl (by omega) ?_
      refine Wp.g1 rfl ?_
      refine Wp.brt rfl (by decide) ?_
      refine Wp.g1 rfl ?_
      refine Wp.call rfl (c_match hC hS _ _) (fun v2 M2 h2 q => ?_)
      rw [eU] at q
      obtain ⟨rfl, rfl, q2, q3⟩ := q
      refine Wp.g1 rfl ?_
      refine Wp.brf rfl (by omega) ?_
      refine Wp.g1 rfl ?_
      refine Wp.brf rfl (by decide) ?_
      refine Wp.g1 rfl ?_
      refine Wp.brf rfl (fun q => q rfl) ?_
      refine Wp.g1 rfl ?_
      exact Wp.re rfl ⟨rfl, rfl, a, q3, hI.mono, hG.same (q2 74 (by omega)) rfl (fun _ _ => rfl)⟩
    · have hpb := (hW.2.2.1 b b1).1
      have eb : rkB a.V a.nb (a.V (18 + 8 * b)) = b := rkB_at hW b1
      have e0 : rScore a.V a.nb a.nc (a.V (114 + 10 * c)) (a.V (18 + 8 * b)) 0 = scN a.V c b 0 := score_at hW hCs c1 b1 (z := 0) (by decide)
      refine Wp.brt rfl (by omega) ?_
      refine Wp.g1 rfl ?_
      refine Wp.call rfl (c_score (hC.cs hS) _ _ _) (fun v1 M1 h1 q => ?_)
      obtain ⟨rfl, rfl, q1⟩ := q
      rw [e0]
      have hC1 : CR M1 a := hC.kept (fun k g => q1 k (by omega))
      -- impossible
      have no : ∀ M3 : Me, (∀ k, k < 61 ∨ k = 71 ∨ 74 ≤ k → M3 k = M1 k) → ¬ (pt a.V c = -10006 ∧ cw a.V a.nc b = -10006 ∧ scN a.V c b 0 ≠ -10006) → Wp zS0 tL_does none 566 [zr 0, zr 74, zi v, zi w, zi (a.V (114 + 10 * c)), zi (a.V (18 + 8 * b)), zi p, zi a.nb, zi a.nc, zn, zn, zn, zi (scN a.V c b 0), zn, zn, zn, zn, zn, zn, zn, zn, zn, zn, zn, zn, zn, zn, zn, zn] [] M3 h1 (Dp e h1) := by
        intro M3 k3 hno
        have hC3 : CR M3 a := hC1.kept (fun k g => k3 k (by omega))
        have eU : sMatch a (a.V (114 + 10 * c)) (a.V (18 + 8 * b)) = (-10003, a) := by
          unfold sMatch
          rw [er, eb, if_pos ⟨c1, b1⟩, if_neg (fun q => hno ⟨(pt_free hW c1).mpr q.1, q.2⟩)]
        refine Wp.g1 rfl ?_
        refine Wp.call rfl (c_match hC3 hS _ _) (fun v2 M2 h2 q => ?_)
        rw [eU] at q
        obtain ⟨rfl, rfl, q2, q3⟩ := q
        refine Wp.g1 rfl ?_
        refine Wp.brf rfl (by omega) ?_
        refine Wp.g1 rfl ?_
        refine Wp.brt rfl (by omega) ?_
        refine Wp.g1 rfl ?_
        refine Wp.brt rfl rfl ?_
        refine Wp.g1 rfl ?_
        refine Wp.brf rfl (fun q => q rfl) ?_
        refine Wp.g1 rfl ?_
        exact Wp.re rfl ⟨rfl, rfl, a, q3, hI.mono, hG.same ((q2 74 (by omega)).trans ((k3 74 (by omega)).trans (q1 74 (by omega)))) rfl (fun _ _ => rfl)⟩
      refine Wp.g1 rfl ?_
      refine Wp.brf rfl (by omega) ?_
      refine Wp.g1 rfl ?_
      refine Wp.brf rfl (by omega) ?_
      refine Wp.g1 rfl ?_
      refine Wp.call rfl (c_claimOf (hC1.cs hS) _ _) (fun v2 M2 h2 q => ?_)
      obtain ⟨rfl, rfl, q2⟩ := q
      have hC2 : CR M2 a := hC1.kept (fun k g => q2 k (by omega))
      rw [claim_8 hCs c1]
      refine Wp.g1 rfl ?_
      by_cases p1 : pt a.V c = -10006
      · refine Wp.brf rfl (fun q => q p1) ?_
        refine Wp.g1 rfl ?_
        refine Wp.call rfl (c_bag (hC2.cs hS) _ _) (fun v3 M3 h3 q => ?_)
        obtain ⟨rfl, rfl, q3⟩ := q
        have hC3 : CR M3 a := hC2.kept (fun k g => q3 k (by omega))
        rw [bag_7 hW b1]
        refine Wp.g1 rfl ?_
        by_cases p2 : cw a.V a.nc b = -10006
        · refine Wp.brf rfl (fun q => q p2) ?_
          refine Wp.g1 rfl ?_
          by_cases p3 : scN a.V c b 0 = -10006
          · refine Wp.brt rfl p3 ?_
            exact no M3 (fun k g => (q3 k g).trans (q2 k g)) (fun q => q.2.2 p3)
          · refine Wp.brf rfl p3 ?_
            have eU : sMatch a (a.V (114 + 10 * c)) (a.V (18 + 8 * b)) = (scN a.V c b 0, ((up a.V (114 + 10 * c + 9) (a.V (18 + 8 * b)), a.nb, a.nc), (sv a).2)) := by
              unfold sMatch
              rw [er, eb, if_pos ⟨c1, b1⟩, if_pos ⟨(pt_free hW c1).mp p1, p2, p3⟩]
            have sU := s_match hS (show e ≤ e + 1 by omega) (a.V (114 + 10 * c)) (a.V (18 + 8 * b))
            rw [eU] at sU
            refine Wp.g1 rfl ?_
            refine Wp.call rfl (c_match hC3 hS _ _) (fun v4 M4 h4 q => ?_)
            rw [eU] at q
            obtain ⟨rfl, rfl, q4, q5⟩ := q
            refine Wp.g1 rfl ?_
            refine Wp.brf rfl (by omega) ?_
            refine Wp.g1 rfl ?_
            refine Wp.brt rfl (by omega) ?_
            refine Wp.g1 rfl ?_
            refine Wp.brf rfl (by decide) ?_
            refine Wp.g1 rfl ?_
            refine Wp.brf rfl (fun q => q rfl) ?_
            refine Wp.g1 rfl ?_
            have sm := Same.up9 a.V c (a.V (18 + 8 * b))
            refine Wp.re rfl ⟨rfl, rfl, _, q5, hI.of sU (sm.SB hW.1.2.2.1 hI.2.1) (sm.SC hCs) ?_ ?_ ?_, hG.same ((q4 74 (by omega)).trans ((q3 74 (by omega)).trans ((q2 74 (by omega)).trans (q1 74 (by omega))))) (sm 1 (by omega)) (fun i hi => sm _ (by omega))⟩
            · have := sm 11 (by omega)
              show up a.V (114 + 10 * c + 9) (a.V (18 + 8 * b)) 11 ≤ a.V 11 + 1
              omega
            · have := sm 13 (by omega)
              show up a.V (114 + 10 * c + 9) (a.V (18 + 8 * b)) 13 ≤ a.V 13 + 1
              omega
            · have := sm 0 (by omega)
              show up a.V (114 + 10 * c + 9) (a.V (18 + 8 * b)) 0 ≤ a.V 0 + 99
              omega
        · refine Wp.brt rfl p2 ?_
          exact no M3 (fun k g => (q3 k g).trans (q2 k g)) (fun q => p2 q.2.1)
      · refine Wp.brt rfl p1 ?_
        exact no M2 q2 (fun q => p1 q.1)
end DOES
