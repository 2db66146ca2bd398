/-! the reference: bags and claims that go, and what is paid -/
section GO9
variable {M : Me} {h : Ml} {V : Nat → Int} {nb nc t : Nat} {a : At}
theorem m9_bagGoes (hM : MR M a) (h10 : a.V 10 = (a.nb : Int)) (hn : a.nb ≤ 12) {b : Nat} (hb : b < a.nb) : Wp zS0 tX9_bagGoes none 0 [zr 74, zi b, zn] [] M h (fun v M' h' => v = none ∧ h' = h ∧ (∀ k, k ≠ 75 → M' k = M k) ∧ MR M' ((rmB a.V a.nb b, a.nb - 1, a.nc), a.2)) := by
  have e10 : M 75 10 = (a.nb : Int) := (hM.1 10 (by omega)).trans h10
  have loop : ∀ d k : Nat, k + d = 18 + 8 * (a.nb - 1) → 18 + 8 * b ≤ k → ∀ M' : Me, (∀ r, r ≠ 75 → M' r = M r) → (∀ i, M' 75 i = if i = 10 then ((a.nb - 1 : Nat) : Int) else if 18 + 8 * b ≤ i ∧ i < k then M 75 (i + 8) else M 75 i) →
      Wp zS0 tX9_bagGoes none 18 [zr 74, zi b, zi k] [] M' h (fun v M' h' => v = none ∧ h' = h ∧ (∀ k, k ≠ 75 → M' k = M k) ∧ MR M' ((rmB a.V a.nb b, a.nb - 1, a.nc), a.2)) := by
    intro d
    induction d with
    | zero =>
      intro k hk hkb M' q1 q2
      have e : k = 18 + 8 * (a.nb - 1) := by omega
      subst e
      refine Wp.g1 rfl ?_
      refine Wp.ld rfl rfl 10 rfl (by omega) ?_
      rw [q2, if_pos rfl]
      refine Wp.calli rfl (m9_bag0 (a.nb - 1) (by omega) M' h) ?_
      refine Wp.brt rfl (by omega) ?_
      refine Wp.re rfl ⟨rfl, rfl, q1, fun j hj => ?_, ?_, ?_, ?_⟩
      · rw [q2]
        show _ = rmB a.V a.nb b j
        unfold rmB
        by_cases g : j = 10
        · rw [if_pos g, if_pos g]
        · rw [if_neg g, if_neg g]
          by_cases g2 : 18 + 8 * b ≤ j ∧ j < 18 + 8 * (a.nb - 1)
          · rw [if_pos g2, if_pos g2]; exact hM.1 _ (by omega)
          · rw [if_neg g2, if_neg g2]; exact hM.1 _ hj
      · rw [q1 74 (by decide), q1 76 (by decide)]; exact hM.2.1
      · rw [q1 74 (by decide), q1 77 (by decide)]; exact hM.2.2.1
      · rw [q1 74 (by decide)]; exact hM.2.2.2
    | succ d ih =>
      intro k hk hkb M' q1 q2
      refine Wp.g1 rfl ?_
      refine Wp.ld rfl rfl 10 rfl (by omega) ?_
      rw [q2, if_pos rfl]
      refine Wp.calli rfl (m9_bag0 (a.nb - 1) (by omega) M' h) ?_
      refine Wp.brf rfl (by omega) ?_
      refine Wp.g1 rfl ?_
      rw [w32_n (n := k + 8) (by omega) (by omega)]
      refine Wp.ld rfl rfl (k + 8) rfl (by omega) ?_
      refine Wp.sto rfl rfl k rfl (by omega) ?_
      refine Wp.gt 18 rfl ?_
      rw [w32_s (n := k) (by omega)]
      refine ih (k + 1) (by omega) (by omega) _ (fun r g => by rw [upd2_ne g]; exact q1 r g) (fun i => ?_)
      by_cases e : i = k
      · subst e
        rw [upd2_at, q2, if_neg (by omega), if_neg (by omega), if_neg (by omega), if_pos (by omega)]
      · rw [upd2_off e, q2 i]
        by_cases g0 : i = 10
        · rw [if_pos g0, if_pos g0]
        · rw [if_neg g0, if_neg g0]
          by_cases g : 18 + 8 * b ≤ i ∧ i < k
          · rw [if_pos g, if_pos (by omega)]
          · rw [if_neg g, if_neg (by omega)]
  refine Wp.g1 rfl ?_
  refine Wp.ld rfl rfl 10 rfl (by omega) ?_
  rw [e10]
  refine Wp.g1 rfl ?_
  rw [w32_n (n := a.nb - 1) (by omega) (by omega)]
  refine Wp.sto rfl rfl 10 rfl (by omega) ?_
  refine Wp.g1 rfl ?_
  refine Wp.calli rfl (m9_bag0 b (by omega) _ h) ?_
  refine Wp.gt 18 rfl ?_
  refine loop (8 * (a.nb - 1 - b)) (18 + 8 * b) (by omega) (Nat.le_refl _) _ (fun r g => upd2_ne g) (fun i => ?_)
  by_cases g : i = 10
  · rw [if_pos g, g, upd2_at]
  · rw [if_neg g, upd2_off g, if_neg (by omega)]
theorem m9_claimGoes (hM : MR M a) (h12 : a.V 12 = (a.nc : Int)) (hn : a.nc ≤ 10) {c : Nat} (hc : c < a.nc) : Wp zS0 tX9_claimGoes none 0 [zr 74, zi c, zn] [] M h (fun v M' h' => v = none ∧ h' = h ∧ (∀ k, k ≠ 75 → M' k = M k) ∧ MR M' ((rmC a.V a.nc c, a.nb, a.nc - 1), a.2)) := by
  have e12 : M 75 12 = (a.nc : Int) := (hM.1 12 (by omega)).trans h12
  have loop : ∀ d k : Nat, k + d = 114 + 10 * (a.nc - 1) → 114 + 10 * c ≤ k → ∀ M' : Me, (∀ r, r ≠ 75 → M' r = M r) → (∀ i, M' 75 i = if i = 12 then ((a.nc - 1 : Nat) : Int) else if 114 + 10 * c ≤ i ∧ i < k then M 75 (i + 10) else M 75 i) →
      Wp zS0 tX9_claimGoes none 18 [zr 74, zi c, zi k] [] M' h (fun v M' h' => v = none ∧ h' = h ∧ (∀ k, k ≠ 75 → M' k = M k) ∧ MR M' ((rmC a.V a.nc c, a.nb, a.nc - 1), a.2)) := by
    intro d
    induction d with
    | zero =>
      intro k hk hkb M' q1 q2
      have e : k = 114 + 10 * (a.nc - 1) := by omega
      subst e
      refine Wp.g1 rfl ?_
      refine Wp.ld rfl rfl 12 rfl (by omega) ?_
      rw [q2, if_pos rfl]
      refine Wp.calli rfl (m9_claim0 (a.nc - 1) (by omega) M' h) ?_
      refine Wp.brt rfl (by omega) ?_
      refine Wp.re rfl ⟨rfl, rfl, q1, fun j hj => ?_, ?_, ?_, ?_⟩
      · rw [q2]
        show _ = rmC a.V a.nc c j
        unfold rmC
        by_cases g : j = 12
        · rw [if_pos g, if_pos g]
        · rw [if_neg g, if_neg g]
          by_cases g2 : 114 + 10 * c ≤ j ∧ j < 114 + 10 * (a.nc - 1)
          · rw [if_pos g2, if_pos g2]; exact hM.1 _ (by omega)
          · rw [if_neg g2, if_neg g2]; exact hM.1 _ hj
      · rw [q1 74 (by decide), q1 76 (by decide)]; exact hM.2.1
      · rw [q1 74 (by decide), q1 77 (by decide)]; exact hM.2.2.1
      · rw [q1 74 (by decide)]; exact hM.2.2.2
    | succ d ih =>
      intro k hk hkb M' q1 q2
      refine Wp.g1 rfl ?_
      refine Wp.ld rfl rfl 12 rfl (by omega) ?_
      rw [q2, if_pos rfl]
      refine Wp.calli rfl (m9_claim0 (a.nc - 1) (by omega) M' h) ?_
      refine Wp.brf rfl (by omega) ?_
      refine Wp.g1 rfl ?_
      rw [w32_n (n := k + 10) (by omega) (by omega)]
      refine Wp.ld rfl rfl (k + 10) rfl (by omega) ?_
      refine Wp.sto rfl rfl k rfl (by omega) ?_
      refine Wp.gt 18 rfl ?_
      rw [w32_s (n := k) (by omega)]
      refine ih (k + 1) (by omega) (by omega) _ (fun r g => by rw [upd2_ne g]; exact q1 r g) (fun i => ?_)
      by_cases e : i = k
      · subst e
        rw [upd2_at, q2, if_neg (by omega), if_neg (by omega), if_neg (by omega), if_pos (by omega)]
      · rw [upd2_off e, q2 i]
        by_cases g0 : i = 12
        · rw [if_pos g0, if_pos g0]
        · rw [if_neg g0, if_neg g0]
          by_cases g : 114 + 10 * c ≤ i ∧ i < k
          · rw [if_pos g, if_pos (by omega)]
          · rw [if_neg g, if_neg (by omega)]
  refine Wp.g1 rfl ?_
  refine Wp.ld rfl rfl 12 rfl (by omega) ?_
  rw [e12]
  refine Wp.g1 rfl ?_
  rw [w32_n (n := a.nc - 1) (by omega) (by omega)]
  refine Wp.sto rfl rfl 12 rfl (by omega) ?_
  refine Wp.g1 rfl ?_
  refine Wp.calli rfl (m9_claim0 c (by omega) _ h) ?_
  refine Wp.gt 18 rfl ?_
  refine loop (10 * (a.nc - 1 - c)) (114 + 10 * c) (by omega) (Nat.le_refl _) _ (fun r g => upd2_ne g) (fun i => ?_)
  by_cases g : i = 12
  · rw [if_pos g, g, upd2_at]
  · rw [if_neg g, upd2_off g, if_neg (by omega)]
theorem m9_forDelivery (hS : MS M 0 V nb nc t) {c : Nat} (hc : c < nc) (d : Int) (hd : 0 ≤ d ∧ d ≤ 10399) : Wp zS0 tX9_forDelivery none 0 [zr 74, zi c, zi d, zn] [] M h (Ri (pDel V c d) M h) := by
  obtain ⟨-, -, hV, hW⟩ := hS
  have hV : ∀ j, j < 214 → M 75 j = V j := fun j hj => by have := hV j hj; rw [Nat.zero_add] at this; exact this
  have hnc := hW.1.2.2.2
  obtain ⟨-, -, c1, c2, c3, c4, c5, c6, c7, c8, c9⟩ := hW.2.2.2.1 _ hc
  obtain ⟨-, -, v2, v3, -⟩ := hW.2.1
  have e1 : w32 (d - V (114 + 10 * c + 8)) = d - V (114 + 10 * c + 8) := w32_id ⟨by omega, by omega⟩
  have hb : -5000000 ≤ V 2 * min (d - V (114 + 10 * c + 8)) 10 ∧ V 2 * min (d - V (114 + 10 * c + 8)) 10 ≤ 5000 := by
    have m1 : -9999 ≤ min (d - V (114 + 10 * c + 8)) 10 ∧ min (d - V (114 + 10 * c + 8)) 10 ≤ 10 := by omega
    generalize min (d - V (114 + 10 * c + 8)) 10 = m at m1
    have a1 := mulbd (a := V 2) (b := m + 9999) (A := 500) (B := 10009) v2 (by omega)
    rw [Int.mul_add] at a1
    have a2 := mulbd (a := V 2) (b := 10 - m) (A := 500) (B := 10009) v2 (by omega)
    rw [Int.mul_sub] at a2
    omega
  refine Wp.g1 rfl ?_
  refine Wp.calli rfl (m9_claim0 c (by omega) M h) ?_
  refine Wp.g1 rfl ?_
  refine Wp.ld rfl rfl 2 rfl (by omega) ?_
  rw [hV 2 (by omega)]
  refine Wp.g1 rfl ?_
  rw [w32_n (n := 114 + 10 * c + 8) (by omega) (by omega)]
  refine Wp.ld rfl rfl (114 + 10 * c + 8) rfl (by omega) ?_
  rw [hV _ (by omega)]
  refine Wp.g1 rfl ?_
  rw [e1]
  refine Wp.calli rfl (m9_less _ _ M h) ?_
  refine Wp.g1 rfl ?_
  rw [w32_id (x := V 2 * min (d - V (114 + 10 * c + 8)) 10) ⟨by omega, by omega⟩, w32_n (n := 114 + 10 * c + 6) (by omega) (by omega)]
  refine Wp.ld rfl rfl (114 + 10 * c + 6) rfl (by omega) ?_
  rw [hV _ (by omega)]
  refine Wp.calli rfl (m9_less _ _ M h) ?_
  exact Wp.rei rfl rfl rfl rfl
theorem m9_forGivingUp (hS : MS M 0 V nb nc t) {c : Nat} (hc : c < nc) : Wp zS0 tX9_forGivingUp none 0 [zr 74, zi c, zn, zn] [] M h (Ri (pGiv V c) M h) := by
  obtain ⟨-, -, hV, hW⟩ := hS
  have hV : ∀ j, j < 214 → M 75 j = V j := fun j hj => by have := hV j hj; rw [Nat.zero_add] at this; exact this
  have hnc := hW.1.2.2.2
  obtain ⟨-, -, c1, c2, c3, c4, c5, c6, c7, c8, c9⟩ := hW.2.2.2.1 _ hc
  have hb := mulbd (a := V (114 + 10 * c + 6)) (b := max (10 - V (114 + 10 * c + 7)) 2) (A := 99999) (B := 10) (by omega) (by omega)
  have e7 : w32 (((114 + 10 * c : Nat) : Int) + 7) = ((114 + 10 * c + 7 : Nat) : Int) := w32_n (by omega) (by omega)
  have rest : ∀ x : Int, x = max (10 - V (114 + 10 * c + 7)) 2 → Wp zS0 tX9_forGivingUp none 37 [zr 74, zi c, zi ((114 + 10 * c : Nat) : Int), zn] [zi x] M h (Ri (pGiv V c) M h) := by
    intro x hx
    refine Wp.g1 rfl ?_
    rw [w32_n (n := 114 + 10 * c + 6) (by omega) (by omega)]
    refine Wp.ld rfl rfl (114 + 10 * c + 6) rfl (by omega) ?_
    rw [hV _ (by omega)]
    refine Wp.g1 rfl ?_
    rw [hx, w32_id (x := V (114 + 10 * c + 6) * max (10 - V (114 + 10 * c + 7)) 2) ⟨by omega, by omega⟩]
    refine Wp.div rfl hb.1 (by decide) ?_
    refine Wp.g1 rfl ?_
    refine Wp.ld rfl rfl 3 rfl (by omega) ?_
    rw [hV _ (by omega)]
    refine Wp.calli rfl (m9_less _ _ M h) ?_
    exact Wp.rei rfl rfl rfl rfl
  refine Wp.g1 rfl ?_
  refine Wp.calli rfl (m9_claim0 c (by omega) M h) ?_
  refine Wp.g1 rfl ?_
  rw [e7]
  refine Wp.ld rfl rfl (114 + 10 * c + 7) rfl (by omega) ?_
  rw [hV _ (by omega)]
  refine Wp.g1 rfl ?_
  by_cases g : V (114 + 10 * c + 7) ≤ 8
  · refine Wp.brt rfl g ?_
    refine Wp.g1 rfl ?_
    rw [e7]
    refine Wp.ld rfl rfl (114 + 10 * c + 7) rfl (by omega) ?_
    rw [hV _ (by omega)]
    refine Wp.gt 37 rfl ?_
    rw [w32_id (x := 10 - V (114 + 10 * c + 7)) ⟨by omega, by omega⟩]
    exact rest _ (by omega)
  · refine Wp.brf rfl g ?_
    refine Wp.gt 37 rfl ?_
    exact rest _ (by omega)
theorem m9_deliver (hM : MR M a) (hS : SO a t) (x : Int) : Wp zS0 tX9_deliver none 0 [zr 74, zi x, zn, zn] [] M h (Ms (sDeliver a x) M h) := by
  have hK := hM.ms hS
  have hW := hS.1
  have hnb : a.nb ≤ 12 := hW.1.2.2.1
  have hnc : a.nc ≤ 10 := hW.1.2.2.2
  have h0 : 0 ≤ a.V 0 ∧ a.V 0 ≤ 9999 := hW.2.1.1
  unfold sDeliver
  refine Wp.g1 rfl ?_
  refine Wp.calli rfl (m9_rankOf hK x) ?_
  refine Wp.g1 rfl ?_
  by_cases gc : rkC a.V a.nc x < a.nc
  · rw [if_pos (c := rkC a.V a.nc x < a.nc) gc, if_pos (c := rkC a.V a.nc x < a.nc) gc]
    generalize hc : rkC a.V a.nc x = c at gc
    refine Wp.brt rfl (by omega) ?_
    refine Wp.g1 rfl ?_
    refine Wp.calli rfl (m9_isFreeClaim hK c (by omega)) ?_
    by_cases g0 : a.V (114 + 10 * c + 9) = 0
    · rw [if_pos (c := a.V (114 + 10 * c + 9) = 0) g0, if_pos g0]
      refine Wp.brf rfl (by decide) ?_
      refine Wp.g1 rfl ?_
      exact Ms.no hM (Wp.rei rfl rfl rfl rfl)
    · rw [if_neg (c := a.V (114 + 10 * c + 9) = 0) g0, if_neg g0]
      refine Wp.brt rfl rfl ?_
      refine Wp.g1 rfl ?_
      refine Wp.call rfl (m9_saves hM hS) (fun v M1 h1 q => ?_)
      obtain ⟨rfl, rfl, p1, p2⟩ := q
      have p2' : MR M1 (a.1, (sv a).2) := p2
      have hK1 : MS M1 0 a.V a.nb a.nc t := p2.msw hW
      have gb : rkB a.V a.nb (a.V (114 + 10 * c + 9)) < a.nb := by
        obtain ⟨b, e1, e2⟩ := hW.2.2.2.2.2.1 c gc g0
        rcases fnd_spec (f := fun r => a.V (18 + 8 * r)) (x := a.V (114 + 10 * c + 9)) (n := a.nb) with ⟨e, -⟩ | ⟨-, e⟩
        · exact e
        · exact absurd e2 (e b e1)
      refine Wp.g1 rfl ?_
      refine Wp.ld rfl rfl 0 rfl (by omega) ?_
      rw [show M1 75 0 = a.V 0 from p2.1 0 (by omega)]
      refine Wp.calli rfl (m9_forDelivery hK1 gc (a.V 0) (by omega)) ?_
      refine Wp.g1 rfl ?_
      refine Wp.calli rfl (m9_claim0 c (by omega) M1 h1) ?_
      refine Wp.g1 rfl ?_
      rw [w32_n (n := 114 + 10 * c + 9) (by omega) (by omega)]
      refine Wp.ld rfl rfl (114 + 10 * c + 9) rfl (by omega) ?_
      rw [show M1 75 (114 + 10 * c + 9) = a.V (114 + 10 * c + 9) from p2.1 _ (by omega)]
      refine Wp.calli rfl (m9_bagOf hK1 (a.V (114 + 10 * c + 9))) ?_
      rw [if_pos (c := rkB a.V a.nb (a.V (114 + 10 * c + 9)) < a.nb) gb]
      generalize rkB a.V a.nb (a.V (114 + 10 * c + 9)) = b at gb
      generalize pDel a.V c (a.V 0) = pay
      refine Wp.call rfl (m9_bagGoes p2' hW.1.1 hnb gb) (fun v M2 h2 q => ?_)
      obtain ⟨rfl, rfl, p3, p4⟩ := q
      refine Wp.g1 rfl ?_
      have h12 : rmB a.V a.nb b 12 = (a.nc : Int) := by
        unfold rmB
        rw [if_neg (by omega), if_neg (by omega)]
        exact hW.1.2.1
      refine Wp.call rfl (m9_claimGoes p4 h12 hnc gc) (fun v M3 h3 q => ?_)
      obtain ⟨rfl, rfl, p5, p6⟩ := q
      refine Wp.g1 rfl ?_
      refine Wp.ld rfl rfl 14 rfl (by omega) ?_
      rw [show M3 75 14 = rmC (rmB a.V a.nb b) a.nc c 14 from p6.1 _ (by omega)]
      refine Wp.g1 rfl ?_
      refine Wp.sto rfl rfl 14 rfl (by omega) ?_
      refine Wp.g1 rfl ?_
      refine Wp.ld rfl rfl 17 rfl (by omega) ?_
      rw [upd2_off (by decide), show M3 75 17 = rmC (rmB a.V a.nb b) a.nc c 17 from p6.1 _ (by omega)]
      refine Wp.g1 rfl ?_
      refine Wp.sto rfl rfl 17 rfl (by omega) ?_
      refine Wp.g1 rfl ?_
      exact Wp.re rfl ⟨rfl, rfl, fun k g => by rw [upd2_ne (by omega), upd2_ne (by omega), p5 k (by omega), p3 k (by omega)]; exact p1 k (by omega) (by omega), (p6.put (j := 14) _ (a.nb - 1) (a.nc - 1)).put (j := 17) _ _ _⟩
  · rw [if_neg (c := rkC a.V a.nc x < a.nc) gc, if_neg (c := rkC a.V a.nc x < a.nc) gc]
    refine Wp.brf rfl (by decide) ?_
    refine Wp.g1 rfl ?_
    exact Ms.no hM (Wp.rei rfl rfl rfl rfl)
theorem m9_giveUp (hM : MR M a) (hS : SO a t) (x : Int) : Wp zS0 tX9_giveUp none 0 [zr 74, zi x, zn, zn] [] M h (Ms (sGiveUp a x) M h) := by
  have hK := hM.ms hS
  have hW := hS.1
  have hnc : a.nc ≤ 10 := hW.1.2.2.2
  have h0 : 0 ≤ a.V 0 ∧ a.V 0 ≤ 9999 := hW.2.1.1
  unfold sGiveUp
  refine Wp.g1 rfl ?_
  refine Wp.calli rfl (m9_rankOf hK x) ?_
  refine Wp.g1 rfl ?_
  by_cases gc : rkC a.V a.nc x < a.nc
  · rw [if_pos (c := rkC a.V a.nc x < a.nc) gc, if_pos (c := rkC a.V a.nc x < a.nc) gc]
    generalize hc : rkC a.V a.nc x = c at gc
    obtain ⟨-, -, -, -, -, -, -, -, -, c8, -⟩ := hW.2.2.2.1 _ gc
    refine Wp.brt rfl (by omega) ?_
    refine Wp.g1 rfl ?_
    refine Wp.calli rfl (m9_isFreeClaim hK c (by omega)) ?_
    by_cases g0 : a.V (114 + 10 * c + 9) = 0
    · rw [if_pos (c := a.V (114 + 10 * c + 9) = 0) g0]
      refine Wp.brf rfl (by decide) ?_
      refine Wp.g1 rfl ?_
      refine Wp.ld rfl rfl 0 rfl (by omega) ?_
      rw [show M 75 0 = a.V 0 from hM.1 0 (by omega)]
      refine Wp.g1 rfl ?_
      refine Wp.calli rfl (m9_claim0 c (by omega) M h) ?_
      refine Wp.g1 rfl ?_
      rw [w32_n (n := 114 + 10 * c + 8) (by omega) (by omega)]
      refine Wp.ld rfl rfl (114 + 10 * c + 8) rfl (by omega) ?_
      rw [show M 75 (114 + 10 * c + 8) = a.V (114 + 10 * c + 8) from hM.1 _ (by omega)]
      refine Wp.g1 rfl ?_
      rw [w32_id (x := a.V 0 - a.V (114 + 10 * c + 8)) ⟨by omega, by omega⟩]
      by_cases g1 : 21 ≤ a.V 0 - a.V (114 + 10 * c + 8)
      · rw [if_pos ⟨g0, g1⟩]
        refine Wp.brt rfl g1 ?_
        refine Wp.g1 rfl ?_
        refine Wp.call rfl (m9_saves hM hS) (fun v M1 h1 q => ?_)
        obtain ⟨rfl, rfl, p1, p2⟩ := q
        have p2' : MR M1 (a.1, (sv a).2) := p2
        have hK1 : MS M1 0 a.V a.nb a.nc t := p2.msw hW
        refine Wp.g1 rfl ?_
        refine Wp.calli rfl (m9_forGivingUp hK1 gc) ?_
        refine Wp.g1 rfl ?_
        generalize pGiv a.V c = pay
        refine Wp.call rfl (m9_claimGoes p2' hW.1.2.1 hnc gc) (fun v M3 h3 q => ?_)
        obtain ⟨rfl, rfl, p5, p6⟩ := q
        refine Wp.g1 rfl ?_
        refine Wp.ld rfl rfl 15 rfl (by omega) ?_
        rw [show M3 75 15 = rmC a.V a.nc c 15 from p6.1 _ (by omega)]
        refine Wp.g1 rfl ?_
        refine Wp.sto rfl rfl 15 rfl (by omega) ?_
        refine Wp.g1 rfl ?_
        refine Wp.ld rfl rfl 17 rfl (by omega) ?_
        rw [upd2_off (by decide), show M3 75 17 = rmC a.V a.nc c 17 from p6.1 _ (by omega)]
        refine Wp.g1 rfl ?_
        refine Wp.sto rfl rfl 17 rfl (by omega) ?_
        refine Wp.g1 rfl ?_
        exact Wp.re rfl ⟨rfl, rfl, fun k g => by rw [upd2_ne (by omega), upd2_ne (by omega), p5 k (by omega)]; exact p1 k (by omega) (by omega), (p6.put (j := 15) _ a.nb (a.nc - 1)).put (j := 17) _ _ _⟩
      · rw [if_neg (fun q => g1 q.2)]
        refine Wp.brf rfl g1 ?_
        refine Wp.g1 rfl ?_
        exact Ms.no hM (Wp.rei rfl rfl rfl rfl)
    · rw [if_neg (c := a.V (114 + 10 * c + 9) = 0) g0, if_neg (c := a.V (114 + 10 * c + 9) = 0 ∧ _) (fun q => g0 q.1)]
      refine Wp.brt rfl rfl ?_
      refine Wp.g1 rfl ?_
      exact Ms.no hM (Wp.rei rfl rfl rfl rfl)
  · rw [if_neg (c := rkC a.V a.nc x < a.nc) gc, if_neg (c := rkC a.V a.nc x < a.nc) gc]
    refine Wp.brf rfl (by decide) ?_
    refine Wp.g1 rfl ?_
    exact Ms.no hM (Wp.rei rfl rfl rfl rfl)
theorem m9_auction (hM : MR M a) (hS : SO a t) (x : Int) : Wp zS0 tX9_auction none 0 [zr 74, zi x, zn] [] M h (Ms (sAuction a x) M h) := by
  have hK := hM.ms hS
  have hW := hS.1
  have hnb : a.nb ≤ 12 := hW.1.2.2.1
  have h0 : 0 ≤ a.V 0 ∧ a.V 0 ≤ 9999 := hW.2.1.1
  unfold sAuction
  refine Wp.g1 rfl ?_
  refine Wp.calli rfl (m9_bagOf hK x) ?_
  refine Wp.g1 rfl ?_
  by_cases gb : rkB a.V a.nb x < a.nb
  · rw [if_pos (c := rkB a.V a.nb x < a.nb) gb, if_pos (c := rkB a.V a.nb x < a.nb) gb]
    generalize hb : rkB a.V a.nb x = b at gb
    obtain ⟨-, -, -, -, -, -, -, -, b7⟩ := hW.2.2.1 _ gb
    refine Wp.brt rfl (by omega) ?_
    refine Wp.g1 rfl ?_
    refine Wp.calli rfl (m9_claimWith hK b (by omega)) ?_
    refine Wp.g1 rfl ?_
    by_cases g0 : cw a.V a.nc b = -10006
    · refine Wp.brf rfl (fun q => q g0) ?_
      refine Wp.g1 rfl ?_
      refine Wp.ld rfl rfl 0 rfl (by omega) ?_
      rw [show M 75 0 = a.V 0 from hM.1 0 (by omega)]
      refine Wp.g1 rfl ?_
      refine Wp.calli rfl (m9_bag0 b (by omega) M h) ?_
      refine Wp.g1 rfl ?_
      rw [w32_n (n := 18 + 8 * b + 7) (by omega) (by omega)]
      refine Wp.ld rfl rfl (18 + 8 * b + 7) rfl (by omega) ?_
      rw [show M 75 (18 + 8 * b + 7) = a.V (18 + 8 * b + 7) from hM.1 _ (by omega)]
      refine Wp.g1 rfl ?_
      rw [w32_id (x := a.V 0 - a.V (18 + 8 * b + 7)) ⟨by omega, by omega⟩]
      by_cases g1 : 90 ≤ a.V 0 - a.V (18 + 8 * b + 7)
      · rw [if_pos ⟨g0, g1⟩]
        refine Wp.brt rfl g1 ?_
        refine Wp.g1 rfl ?_
        refine Wp.call rfl (m9_saves hM hS) (fun v M1 h1 q => ?_)
        obtain ⟨rfl, rfl, p1, p2⟩ := q
        have p2' : MR M1 (a.1, (sv a).2) := p2
        refine Wp.g1 rfl ?_
        refine Wp.call rfl (m9_bagGoes p2' hW.1.1 hnb gb) (fun v M2 h2 q => ?_)
        obtain ⟨rfl, rfl, p3, p4⟩ := q
        have e16 : M2 75 16 = a.V 16 := (p4.1 16 (by omega)).trans (by
          show rmB a.V a.nb b 16 = a.V 16
          unfold rmB
          rw [if_neg (by omega), if_neg (by omega)])
        have e10 : M2 75 10 = ((a.nb - 1 : Nat) : Int) := (p4.1 10 (by omega)).trans (by
          show rmB a.V a.nb b 10 = _
          unfold rmB
          rw [if_pos rfl])
        refine Wp.g1 rfl ?_
        refine Wp.ld rfl rfl 16 rfl (by omega) ?_
        rw [e16]
        refine Wp.g1 rfl ?_
        refine Wp.sto rfl rfl 16 rfl (by omega) ?_
        refine Wp.g1 rfl ?_
        refine Wp.ld rfl rfl 10 rfl (by omega) ?_
        rw [upd2_off (by decide), e10]
        exact Wp.re rfl ⟨rfl, rfl, fun k g => by rw [upd2_ne (by omega), p3 k (by omega)]; exact p1 k (by omega) (by omega), p4.put (j := 16) _ _ _⟩
      · rw [if_neg (fun q => g1 q.2)]
        refine Wp.brf rfl g1 ?_
        refine Wp.g1 rfl ?_
        exact Ms.no hM (Wp.rei rfl rfl rfl rfl)
    · rw [if_neg (fun q => g0 q.1)]
      refine Wp.brt rfl g0 ?_
      refine Wp.g1 rfl ?_
      exact Ms.no hM (Wp.rei rfl rfl rfl rfl)
  · rw [if_neg (c := rkB a.V a.nb x < a.nb) gb, if_neg (c := rkB a.V a.nb x < a.nb) gb]
    refine Wp.brf rfl (by decide) ?_
    refine Wp.g1 rfl ?_
    exact Ms.no hM (Wp.rei rfl rfl rfl rfl)
end GO9
