theorem HiRel.of {M M' : Me} {kn kn' nx nx' : Nat} {P P' : Nat → Nat → Int} (h5 : ∀ c, c < kn → ∃ nb nc : Nat, P c 10 = (nb : Int) ∧ P c 12 = (nc : Int) ∧ OfRel M (11 + 8 * ((nx + 6 - kn + c) % 6)) (P c) nb nc) (g1 : nx' < 6) (g2 : M' 9 1 = (nx' : Int)) (g3 : M' 9 2 = (kn' : Int)) (g4 : kn' ≤ 6)
    (g5 : ∀ c, c < kn' → (∃ c', c' < kn ∧ P' c = P c' ∧ (nx' + 6 - kn' + c) % 6 = (nx + 6 - kn + c') % 6 ∧ ∀ k, 11 + 8 * ((nx' + 6 - kn' + c) % 6) ≤ k → k < 11 + 8 * ((nx' + 6 - kn' + c) % 6) + 8 → M' k = M k) ∨ (∃ nb nc : Nat, P' c 10 = (nb : Int) ∧ P' c 12 = (nc : Int) ∧ OfRel M' (11 + 8 * ((nx' + 6 - kn' + c) % 6)) (P' c) nb nc)) : HiRel M' kn' P' := by
  refine ⟨nx', g1, g2, g3, g4, fun c hc => ?_⟩
  rcases g5 c hc with ⟨c', e1, e2, e3, e4⟩ | e
  · obtain ⟨nb, nc, f1, f2, f3⟩ := h5 c' e1
    rw [e2]
    refine ⟨nb, nc, f1, f2, ?_⟩
    rw [← e3] at f3
    exact f3.kept e4
  · exact e
theorem m_save_0 {V : Nat → Int} {nb nc kn : Nat} {P : Nat → Nat → Int} (M : Me) (h : Ml) (hR : OfRel M 1 V nb nc) (hb : nb ≤ 12) (hc : nc ≤ 10) (e10 : V 10 = (nb : Int)) (e12 : V 12 = (nc : Int)) (h1 : M 9 1 = 0) (h2 : M 9 2 = (kn : Int)) (h3 : kn ≤ 6) (h5 : ∀ c, c < kn → ∃ nb nc : Nat, P c 10 = (nb : Int) ∧ P c 12 = (nc : Int) ∧ OfRel M (11 + 8 * ((0 + 6 - kn + c) % 6)) (P c) nb nc) :
    Wp zS0 tX2_save none 0 [zr 9, zr 1] [] M h (fun v M' h' => v = none ∧ h' = h ∧ (∀ k, k < 9 ∨ 59 ≤ k → M' k = M k) ∧ HiRel M' (svK kn) (svP kn V P)) := by
  refine Wp.g1 rfl ?_
  rw [h1]
  refine Wp.brf rfl (by decide) ?_
  refine Wp.g1 rfl ?_
  rw [h1]
  refine Wp.brf rfl (by decide) ?_
  refine Wp.g1 rfl ?_
  refine Wp.ald rfl rfl 0 h1 (by decide) rfl ?_
  refine Wp.g1 rfl ?_
  refine Wp.ald rfl rfl 0 h1 (by decide) rfl ?_
  refine Wp.g1 rfl ?_
  refine Wp.call rfl (m_cpO_11_1 M h hR hb hc) (fun v M1 h1' q => ?_)
  obtain ⟨rfl, rfl, q1, -, -, q4⟩ := q
  have e9 : ∀ j, M1 9 j = M 9 j := fun j => by rw [q1 9 (by decide)]
  refine Wp.g1 rfl ?_
  rw [e9 1, h1]
  refine Wp.brt rfl (by decide) ?_
  refine Wp.g1 rfl ?_
  have e2 : min (w32 (upd2 M1 9 1 1 9 2 + 1)) 6 = ((svK kn : Nat) : Int) := by
    rw [upd2_off (by decide), e9 2, h2, w32_s (by omega)]
    unfold svK
    split <;> omega
  refine Wp.re rfl ⟨rfl, rfl, fun k g => ?_, ?_⟩
  · rw [upd2_ne (by omega), upd2_ne (by omega)]
    exact q1 k (by omega)
  · have kp : ∀ M2 : Me, (∀ k, k ≠ 9 → M2 k = M1 k) → M2 9 1 = ((1 : Nat) : Int) → M2 9 2 = ((svK kn : Nat) : Int) → HiRel M2 (svK kn) (svP kn V P) := by
      intro M2 hM2 hm1 hm2
      refine HiRel.of (nx' := 1) h5 (by decide) hm1 hm2 (by unfold svK; split <;> omega) (fun c hc' => ?_)
      by_cases e6 : kn = 6
      · have ek : svK kn = 6 := by unfold svK; rw [if_pos e6]
        rw [ek] at hc' ⊢
        by_cases e5 : c < 5
        · refine Or.inl ⟨c + 1, by omega, by unfold svP; rw [if_pos e6, if_pos e5], by omega, fun k g1 g2 => ?_⟩
          rw [hM2 k (by omega)]
          exact q1 k (by omega)
        · have ec : c = 5 := by omega
          subst ec
          have ep : svP kn V P 5 = V := by unfold svP; rw [if_pos e6, if_neg e5]
          rw [ep]
          exact Or.inr ⟨nb, nc, e10, e12, q4.kept (fun k g1 g2 => hM2 k (by omega))⟩
      · have ek : svK kn = kn + 1 := by unfold svK; rw [if_neg e6]
        rw [ek] at hc' ⊢
        by_cases e5 : c < kn
        · refine Or.inl ⟨c, by omega, by unfold svP; rw [if_neg e6, if_pos e5], by omega, fun k g1 g2 => ?_⟩
          rw [hM2 k (by omega)]
          exact q1 k (by omega)
        · have ec : c = kn := by omega
          subst ec
          have ep : svP c V P c = V := by unfold svP; rw [if_neg e6, if_neg e5]
          rw [ep]
          refine Or.inr ⟨nb, nc, e10, e12, ?_⟩
          rw [show 11 + 8 * ((1 + 6 - (c + 1) + c) % 6) = 11 by omega]
          exact q4.kept (fun k g1 g2 => hM2 k (by omega))
    refine kp _ (fun k g => by rw [upd2_ne g, upd2_ne g]) ?_ ?_
    · rw [upd2_off (by decide), upd2_at]; first | rfl | (rw [e9 1, h1]; decide)
    · rw [upd2_at]; exact e2

theorem m_save_1 {V : Nat → Int} {nb nc kn : Nat} {P : Nat → Nat → Int} (M : Me) (h : Ml) (hR : OfRel M 1 V nb nc) (hb : nb ≤ 12) (hc : nc ≤ 10) (e10 : V 10 = (nb : Int)) (e12 : V 12 = (nc : Int)) (h1 : M 9 1 = 1) (h2 : M 9 2 = (kn : Int)) (h3 : kn ≤ 6) (h5 : ∀ c, c < kn → ∃ nb nc : Nat, P c 10 = (nb : Int) ∧ P c 12 = (nc : Int) ∧ OfRel M (11 + 8 * ((1 + 6 - kn + c) % 6)) (P c) nb nc) :
    Wp zS0 tX2_save none 0 [zr 9, zr 1] [] M h (fun v M' h' => v = none ∧ h' = h ∧ (∀ k, k < 9 ∨ 59 ≤ k → M' k = M k) ∧ HiRel M' (svK kn) (svP kn V P)) := by
  refine Wp.g1 rfl ?_
  rw [h1]
  refine Wp.brf rfl (by decide) ?_
  refine Wp.g1 rfl ?_
  rw [h1]
  refine Wp.brf rfl (by decide) ?_
  refine Wp.g1 rfl ?_
  refine Wp.ald rfl rfl 1 h1 (by decide) rfl ?_
  refine Wp.g1 rfl ?_
  refine Wp.ald rfl rfl 1 h1 (by decide) rfl ?_
  refine Wp.g1 rfl ?_
  refine Wp.call rfl (m_cpO_19_1 M h hR hb hc) (fun v M1 h1' q => ?_)
  obtain ⟨rfl, rfl, q1, -, -, q4⟩ := q
  have e9 : ∀ j, M1 9 j = M 9 j := fun j => by rw [q1 9 (by decide)]
  refine Wp.g1 rfl ?_
  rw [e9 1, h1]
  refine Wp.brt rfl (by decide) ?_
  refine Wp.g1 rfl ?_
  have e2 : min (w32 (upd2 M1 9 1 2 9 2 + 1)) 6 = ((svK kn : Nat) : Int) := by
    rw [upd2_off (by decide), e9 2, h2, w32_s (by omega)]
    unfold svK
    split <;> omega
  refine Wp.re rfl ⟨rfl, rfl, fun k g => ?_, ?_⟩
  · rw [upd2_ne (by omega), upd2_ne (by omega)]
    exact q1 k (by omega)
  · have kp : ∀ M2 : Me, (∀ k, k ≠ 9 → M2 k = M1 k) → M2 9 1 = ((2 : Nat) : Int) → M2 9 2 = ((svK kn : Nat) : Int) → HiRel M2 (svK kn) (svP kn V P) := by
      intro M2 hM2 hm1 hm2
      refine HiRel.of (nx' := 2) h5 (by decide) hm1 hm2 (by unfold svK; split <;> omega) (fun c hc' => ?_)
      by_cases e6 : kn = 6
      · have ek : svK kn = 6 := by unfold svK; rw [if_pos e6]
        rw [ek] at hc' ⊢
        by_cases e5 : c < 5
        · refine Or.inl ⟨c + 1, by omega, by unfold svP; rw [if_pos e6, if_pos e5], by omega, fun k g1 g2 => ?_⟩
          rw [hM2 k (by omega)]
          exact q1 k (by omega)
        · have ec : c = 5 := by omega
          subst ec
          have ep : svP kn V P 5 = V := by unfold svP; rw [if_pos e6, if_neg e5]
          rw [ep]
          exact Or.inr ⟨nb, nc, e10, e12, q4.kept (fun k g1 g2 => hM2 k (by omega))⟩
      · have ek : svK kn = kn + 1 := by unfold svK; rw [if_neg e6]
        rw [ek] at hc' ⊢
        by_cases e5 : c < kn
        · refine Or.inl ⟨c, by omega, by unfold svP; rw [if_neg e6, if_pos e5], by omega, fun k g1 g2 => ?_⟩
          rw [hM2 k (by omega)]
          exact q1 k (by omega)
        · have ec : c = kn := by omega
          subst ec
          have ep : svP c V P c = V := by unfold svP; rw [if_neg e6, if_neg e5]
          rw [ep]
          refine Or.inr ⟨nb, nc, e10, e12, ?_⟩
          rw [show 11 + 8 * ((2 + 6 - (c + 1) + c) % 6) = 19 by omega]
          exact q4.kept (fun k g1 g2 => hM2 k (by omega))
    refine kp _ (fun k g => by rw [upd2_ne g, upd2_ne g]) ?_ ?_
    · rw [upd2_off (by decide), upd2_at]; first | rfl | (rw [e9 1, h1]; decide)
    · rw [upd2_at]; exact e2

theorem m_save_2 {V : Nat → Int} {nb nc kn : Nat} {P : Nat → Nat → Int} (M : Me) (h : Ml) (hR : OfRel M 1 V nb nc) (hb : nb ≤ 12) (hc : nc ≤ 10) (e10 : V 10 = (nb : Int)) (e12 : V 12 = (nc : Int)) (h1 : M 9 1 = 2) (h2 : M 9 2 = (kn : Int)) (h3 : kn ≤ 6) (h5 : ∀ c, c < kn → ∃ nb nc : Nat, P c 10 = (nb : Int) ∧ P c 12 = (nc : Int) ∧ OfRel M (11 + 8 * ((2 + 6 - kn + c) % 6)) (P c) nb nc) :
    Wp zS0 tX2_save none 0 [zr 9, zr 1] [] M h (fun v M' h' => v = none ∧ h' = h ∧ (∀ k, k < 9 ∨ 59 ≤ k → M' k = M k) ∧ HiRel M' (svK kn) (svP kn V P)) := by
  refine Wp.g1 rfl ?_
  rw [h1]
  refine Wp.brf rfl (by decide) ?_
  refine Wp.g1 rfl ?_
  rw [h1]
  refine Wp.brf rfl (by decide) ?_
  refine Wp.g1 rfl ?_
  refine Wp.ald rfl rfl 2 h1 (by decide) rfl ?_
  refine Wp.g1 rfl ?_
  refine Wp.ald rfl rfl 2 h1 (by decide) rfl ?_
  refine Wp.g1 rfl ?_
  refine Wp.call rfl (m_cpO_27_1 M h hR hb hc) (fun v M1 h1' q => ?_)
  obtain ⟨rfl, rfl, q1, -, -, q4⟩ := q
  have e9 : ∀ j, M1 9 j = M 9 j := fun j => by rw [q1 9 (by decide)]
  refine Wp.g1 rfl ?_
  rw [e9 1, h1]
  refine Wp.brt rfl (by decide) ?_
  refine Wp.g1 rfl ?_
  have e2 : min (w32 (upd2 M1 9 1 3 9 2 + 1)) 6 = ((svK kn : Nat) : Int) := by
    rw [upd2_off (by decide), e9 2, h2, w32_s (by omega)]
    unfold svK
    split <;> omega
  refine Wp.re rfl ⟨rfl, rfl, fun k g => ?_, ?_⟩
  · rw [upd2_ne (by omega), upd2_ne (by omega)]
    exact q1 k (by omega)
  · have kp : ∀ M2 : Me, (∀ k, k ≠ 9 → M2 k = M1 k) → M2 9 1 = ((3 : Nat) : Int) → M2 9 2 = ((svK kn : Nat) : Int) → HiRel M2 (svK kn) (svP kn V P) := by
      intro M2 hM2 hm1 hm2
      refine HiRel.of (nx' := 3) h5 (by decide) hm1 hm2 (by unfold svK; split <;> omega) (fun c hc' => ?_)
      by_cases e6 : kn = 6
      · have ek : svK kn = 6 := by unfold svK; rw [if_pos e6]
        rw [ek] at hc' ⊢
        by_cases e5 : c < 5
        · refine Or.inl ⟨c + 1, by omega, by unfold svP; rw [if_pos e6, if_pos e5], by omega, fun k g1 g2 => ?_⟩
          rw [hM2 k (by omega)]
          exact q1 k (by omega)
        · have ec : c = 5 := by omega
          subst ec
          have ep : svP kn V P 5 = V := by unfold svP; rw [if_pos e6, if_neg e5]
          rw [ep]
          exact Or.inr ⟨nb, nc, e10, e12, q4.kept (fun k g1 g2 => hM2 k (by omega))⟩
      · have ek : svK kn = kn + 1 := by unfold svK; rw [if_neg e6]
        rw [ek] at hc' ⊢
        by_cases e5 : c < kn
        · refine Or.inl ⟨c, by omega, by unfold svP; rw [if_neg e6, if_pos e5], by omega, fun k g1 g2 => ?_⟩
          rw [hM2 k (by omega)]
          exact q1 k (by omega)
        · have ec : c = kn := by omega
          subst ec
          have ep : svP c V P c = V := by unfold svP; rw [if_neg e6, if_neg e5]
          rw [ep]
          refine Or.inr ⟨nb, nc, e10, e12, ?_⟩
          rw [show 11 + 8 * ((3 + 6 - (c + 1) + c) % 6) = 27 by omega]
          exact q4.kept (fun k g1 g2 => hM2 k (by omega))
    refine kp _ (fun k g => by rw [upd2_ne g, upd2_ne g]) ?_ ?_
    · rw [upd2_off (by decide), upd2_at]; first | rfl | (rw [e9 1, h1]; decide)
    · rw [upd2_at]; exact e2

theorem m_save_3 {V : Nat → Int} {nb nc kn : Nat} {P : Nat → Nat → Int} (M : Me) (h : Ml) (hR : OfRel M 1 V nb nc) (hb : nb ≤ 12) (hc : nc ≤ 10) (e10 : V 10 = (nb : Int)) (e12 : V 12 = (nc : Int)) (h1 : M 9 1 = 3) (h2 : M 9 2 = (kn : Int)) (h3 : kn ≤ 6) (h5 : ∀ c, c < kn → ∃ nb nc : Nat, P c 10 = (nb : Int) ∧ P c 12 = (nc : Int) ∧ OfRel M (11 + 8 * ((3 + 6 - kn + c) % 6)) (P c) nb nc) :
    Wp zS0 tX2_save none 0 [zr 9, zr 1] [] M h (fun v M' h' => v = none ∧ h' = h ∧ (∀ k, k < 9 ∨ 59 ≤ k → M' k = M k) ∧ HiRel M' (svK kn) (svP kn V P)) := by
  refine Wp.g1 rfl ?_
  rw [h1]
  refine Wp.brf rfl (by decide) ?_
  refine Wp.g1 rfl ?_
  rw [h1]
  refine Wp.brf rfl (by decide) ?_
  refine Wp.g1 rfl ?_
  refine Wp.ald rfl rfl 3 h1 (by decide) rfl ?_
  refine Wp.g1 rfl ?_
  refine Wp.ald rfl rfl 3 h1 (by decide) rfl ?_
  refine Wp.g1 rfl ?_
  refine Wp.call rfl (m_cpO_35_1 M h hR hb hc) (fun v M1 h1' q => ?_)
  obtain ⟨rfl, rfl, q1, -, -, q4⟩ := q
  have e9 : ∀ j, M1 9 j = M 9 j := fun j => by rw [q1 9 (by decide)]
  refine Wp.g1 rfl ?_
  rw [e9 1, h1]
  refine Wp.brt rfl (by decide) ?_
  refine Wp.g1 rfl ?_
  have e2 : min (w32 (upd2 M1 9 1 4 9 2 + 1)) 6 = ((svK kn : Nat) : Int) := by
    rw [upd2_off (by decide), e9 2, h2, w32_s (by omega)]
    unfold svK
    split <;> omega
  refine Wp.re rfl ⟨rfl, rfl, fun k g => ?_, ?_⟩
  · rw [upd2_ne (by omega), upd2_ne (by omega)]
    exact q1 k (by omega)
  · have kp : ∀ M2 : Me, (∀ k, k ≠ 9 → M2 k = M1 k) → M2 9 1 = ((4 : Nat) : Int) → M2 9 2 = ((svK kn : Nat) : Int) → HiRel M2 (svK kn) (svP kn V P) := by
      intro M2 hM2 hm1 hm2
      refine HiRel.of (nx' := 4) h5 (by decide) hm1 hm2 (by unfold svK; split <;> omega) (fun c hc' => ?_)
      by_cases e6 : kn = 6
      · have ek : svK kn = 6 := by unfold svK; rw [if_pos e6]
        rw [ek] at hc' ⊢
        by_cases e5 : c < 5
        · refine Or.inl ⟨c + 1, by omega, by unfold svP; rw [if_pos e6, if_pos e5], by omega, fun k g1 g2 => ?_⟩
          rw [hM2 k (by omega)]
          exact q1 k (by omega)
        · have ec : c = 5 := by omega
          subst ec
          have ep : svP kn V P 5 = V := by unfold svP; rw [if_pos e6, if_neg e5]
          rw [ep]
          exact Or.inr ⟨nb, nc, e10, e12, q4.kept (fun k g1 g2 => hM2 k (by omega))⟩
      · have ek : svK kn = kn + 1 := by unfold svK; rw [if_neg e6]
        rw [ek] at hc' ⊢
        by_cases e5 : c < kn
        · refine Or.inl ⟨c, by omega, by unfold svP; rw [if_neg e6, if_pos e5], by omega, fun k g1 g2 => ?_⟩
          rw [hM2 k (by omega)]
          exact q1 k (by omega)
        · have ec : c = kn := by omega
          subst ec
          have ep : svP c V P c = V := by unfold svP; rw [if_neg e6, if_neg e5]
          rw [ep]
          refine Or.inr ⟨nb, nc, e10, e12, ?_⟩
          rw [show 11 + 8 * ((4 + 6 - (c + 1) + c) % 6) = 35 by omega]
          exact q4.kept (fun k g1 g2 => hM2 k (by omega))
    refine kp _ (fun k g => by rw [upd2_ne g, upd2_ne g]) ?_ ?_
    · rw [upd2_off (by decide), upd2_at]; first | rfl | (rw [e9 1, h1]; decide)
    · rw [upd2_at]; exact e2

theorem m_save_4 {V : Nat → Int} {nb nc kn : Nat} {P : Nat → Nat → Int} (M : Me) (h : Ml) (hR : OfRel M 1 V nb nc) (hb : nb ≤ 12) (hc : nc ≤ 10) (e10 : V 10 = (nb : Int)) (e12 : V 12 = (nc : Int)) (h1 : M 9 1 = 4) (h2 : M 9 2 = (kn : Int)) (h3 : kn ≤ 6) (h5 : ∀ c, c < kn → ∃ nb nc : Nat, P c 10 = (nb : Int) ∧ P c 12 = (nc : Int) ∧ OfRel M (11 + 8 * ((4 + 6 - kn + c) % 6)) (P c) nb nc) :
    Wp zS0 tX2_save none 0 [zr 9, zr 1] [] M h (fun v M' h' => v = none ∧ h' = h ∧ (∀ k, k < 9 ∨ 59 ≤ k → M' k = M k) ∧ HiRel M' (svK kn) (svP kn V P)) := by
  refine Wp.g1 rfl ?_
  rw [h1]
  refine Wp.brf rfl (by decide) ?_
  refine Wp.g1 rfl ?_
  rw [h1]
  refine Wp.brf rfl (by decide) ?_
  refine Wp.g1 rfl ?_
  refine Wp.ald rfl rfl 4 h1 (by decide) rfl ?_
  refine Wp.g1 rfl ?_
  refine Wp.ald rfl rfl 4 h1 (by decide) rfl ?_
  refine Wp.g1 rfl ?_
  refine Wp.call rfl (m_cpO_43_1 M h hR hb hc) (fun v M1 h1' q => ?_)
  obtain ⟨rfl, rfl, q1, -, -, q4⟩ := q
  have e9 : ∀ j, M1 9 j = M 9 j := fun j => by rw [q1 9 (by decide)]
  refine Wp.g1 rfl ?_
  rw [e9 1, h1]
  refine Wp.brt rfl (by decide) ?_
  refine Wp.g1 rfl ?_
  have e2 : min (w32 (upd2 M1 9 1 5 9 2 + 1)) 6 = ((svK kn : Nat) : Int) := by
    rw [upd2_off (by decide), e9 2, h2, w32_s (by omega)]
    unfold svK
    split <;> omega
  refine Wp.re rfl ⟨rfl, rfl, fun k g => ?_, ?_⟩
  · rw [upd2_ne (by omega), upd2_ne (by omega)]
    exact q1 k (by omega)
  · have kp : ∀ M2 : Me, (∀ k, k ≠ 9 → M2 k = M1 k) → M2 9 1 = ((5 : Nat) : Int) → M2 9 2 = ((svK kn : Nat) : Int) → HiRel M2 (svK kn) (svP kn V P) := by
      intro M2 hM2 hm1 hm2
      refine HiRel.of (nx' := 5) h5 (by decide) hm1 hm2 (by unfold svK; split <;> omega) (fun c hc' => ?_)
      by_cases e6 : kn = 6
      · have ek : svK kn = 6 := by unfold svK; rw [if_pos e6]
        rw [ek] at hc' ⊢
        by_cases e5 : c < 5
        · refine Or.inl ⟨c + 1, by omega, by unfold svP; rw [if_pos e6, if_pos e5], by omega, fun k g1 g2 => ?_⟩
          rw [hM2 k (by omega)]
          exact q1 k (by omega)
        · have ec : c = 5 := by omega
          subst ec
          have ep : svP kn V P 5 = V := by unfold svP; rw [if_pos e6, if_neg e5]
          rw [ep]
          exact Or.inr ⟨nb, nc, e10, e12, q4.kept (fun k g1 g2 => hM2 k (by omega))⟩
      · have ek : svK kn = kn + 1 := by unfold svK; rw [if_neg e6]
        rw [ek] at hc' ⊢
        by_cases e5 : c < kn
        · refine Or.inl ⟨c, by omega, by unfold svP; rw [if_neg e6, if_pos e5], by omega, fun k g1 g2 => ?_⟩
          rw [hM2 k (by omega)]
          exact q1 k (by omega)
        · have ec : c = kn := by omega
          subst ec
          have ep : svP c V P c = V := by unfold svP; rw [if_neg e6, if_neg e5]
          rw [ep]
          refine Or.inr ⟨nb, nc, e10, e12, ?_⟩
          rw [show 11 + 8 * ((5 + 6 - (c + 1) + c) % 6) = 43 by omega]
          exact q4.kept (fun k g1 g2 => hM2 k (by omega))
    refine kp _ (fun k g => by rw [upd2_ne g, upd2_ne g]) ?_ ?_
    · rw [upd2_off (by decide), upd2_at]; first | rfl | (rw [e9 1, h1]; decide)
    · rw [upd2_at]; exact e2

theorem m_save_5 {V : Nat → Int} {nb nc kn : Nat} {P : Nat → Nat → Int} (M : Me) (h : Ml) (hR : OfRel M 1 V nb nc) (hb : nb ≤ 12) (hc : nc ≤ 10) (e10 : V 10 = (nb : Int)) (e12 : V 12 = (nc : Int)) (h1 : M 9 1 = 5) (h2 : M 9 2 = (kn : Int)) (h3 : kn ≤ 6) (h5 : ∀ c, c < kn → ∃ nb nc : Nat, P c 10 = (nb : Int) ∧ P c 12 = (nc : Int) ∧ OfRel M (11 + 8 * ((5 + 6 - kn + c) % 6)) (P c) nb nc) :
    Wp zS0 tX2_save none 0 [zr 9, zr 1] [] M h (fun v M' h' => v = none ∧ h' = h ∧ (∀ k, k < 9 ∨ 59 ≤ k → M' k = M k) ∧ HiRel M' (svK kn) (svP kn V P)) := by
  refine Wp.g1 rfl ?_
  rw [h1]
  refine Wp.brf rfl (by decide) ?_
  refine Wp.g1 rfl ?_
  rw [h1]
  refine Wp.brf rfl (by decide) ?_
  refine Wp.g1 rfl ?_
  refine Wp.ald rfl rfl 5 h1 (by decide) rfl ?_
  refine Wp.g1 rfl ?_
  refine Wp.ald rfl rfl 5 h1 (by decide) rfl ?_
  refine Wp.g1 rfl ?_
  refine Wp.call rfl (m_cpO_51_1 M h hR hb hc) (fun v M1 h1' q => ?_)
  obtain ⟨rfl, rfl, q1, -, -, q4⟩ := q
  have e9 : ∀ j, M1 9 j = M 9 j := fun j => by rw [q1 9 (by decide)]
  refine Wp.g1 rfl ?_
  rw [e9 1, h1]
  refine Wp.brf rfl (by decide) ?_
  refine Wp.g1 rfl ?_
  have e2 : min (w32 (upd2 M1 9 1 0 9 2 + 1)) 6 = ((svK kn : Nat) : Int) := by
    rw [upd2_off (by decide), e9 2, h2, w32_s (by omega)]
    unfold svK
    split <;> omega
  refine Wp.re rfl ⟨rfl, rfl, fun k g => ?_, ?_⟩
  · rw [upd2_ne (by omega), upd2_ne (by omega)]
    exact q1 k (by omega)
  · have kp : ∀ M2 : Me, (∀ k, k ≠ 9 → M2 k = M1 k) → M2 9 1 = ((0 : Nat) : Int) → M2 9 2 = ((svK kn : Nat) : Int) → HiRel M2 (svK kn) (svP kn V P) := by
      intro M2 hM2 hm1 hm2
      refine HiRel.of (nx' := 0) h5 (by decide) hm1 hm2 (by unfold svK; split <;> omega) (fun c hc' => ?_)
      by_cases e6 : kn = 6
      · have ek : svK kn = 6 := by unfold svK; rw [if_pos e6]
        rw [ek] at hc' ⊢
        by_cases e5 : c < 5
        · refine Or.inl ⟨c + 1, by omega, by unfold svP; rw [if_pos e6, if_pos e5], by omega, fun k g1 g2 => ?_⟩
          rw [hM2 k (by omega)]
          exact q1 k (by omega)
        · have ec : c = 5 := by omega
          subst ec
          have ep : svP kn V P 5 = V := by unfold svP; rw [if_pos e6, if_neg e5]
          rw [ep]
          exact Or.inr ⟨nb, nc, e10, e12, q4.kept (fun k g1 g2 => hM2 k (by omega))⟩
      · have ek : svK kn = kn + 1 := by unfold svK; rw [if_neg e6]
        rw [ek] at hc' ⊢
        by_cases e5 : c < kn
        · refine Or.inl ⟨c, by omega, by unfold svP; rw [if_neg e6, if_pos e5], by omega, fun k g1 g2 => ?_⟩
          rw [hM2 k (by omega)]
          exact q1 k (by omega)
        · have ec : c = kn := by omega
          subst ec
          have ep : svP c V P c = V := by unfold svP; rw [if_neg e6, if_neg e5]
          rw [ep]
          refine Or.inr ⟨nb, nc, e10, e12, ?_⟩
          rw [show 11 + 8 * ((0 + 6 - (c + 1) + c) % 6) = 51 by omega]
          exact q4.kept (fun k g1 g2 => hM2 k (by omega))
    refine kp _ (fun k g => by rw [upd2_ne g, upd2_ne g]) ?_ ?_
    · rw [upd2_off (by decide), upd2_at]; first | rfl | (rw [e9 1, h1]; decide)
    · rw [upd2_at]; exact e2

theorem m_restore_0 {kn : Nat} {P : Nat → Nat → Int} (M : Me) (h : Ml) (h1 : M 9 1 = 0) (h2 : M 9 2 = (kn : Int)) (h3 : kn ≤ 6) (h0 : 0 < kn) (h5 : ∀ c, c < kn → ∃ nb nc : Nat, P c 10 = (nb : Int) ∧ P c 12 = (nc : Int) ∧ OfRel M (11 + 8 * ((0 + 6 - kn + c) % 6)) (P c) nb nc) (nb nc : Nat) (e10 : P (kn - 1) 10 = (nb : Int)) (e12 : P (kn - 1) 12 = (nc : Int)) (hb : nb ≤ 12) (hc : nc ≤ 10) :
    Wp zS0 tX2_restore none 0 [zr 9, zr 1, zn] [] M h (fun v M' h' => v = none ∧ h' = h ∧ (∀ k, 59 ≤ k → M' k = M k) ∧ M' 2 0 = M 2 0 ∧ M' 5 0 = M 5 0 ∧ OfRel M' 1 (P (kn - 1)) nb nc ∧ HiRel M' (kn - 1) P) := by
  have hR : OfRel M 51 (P (kn - 1)) nb nc := by
    obtain ⟨nb', nc', f1, f2, f3⟩ := h5 (kn - 1) (by omega)
    rw [show 11 + 8 * ((0 + 6 - kn + (kn - 1)) % 6) = 51 by omega] at f3
    have a1 : nb' = nb := by omega
    have a2 : nc' = nc := by omega
    rw [a1, a2] at f3
    exact f3
  refine Wp.g1 rfl ?_
  rw [h1]
  refine Wp.brf rfl (by decide) ?_
  refine Wp.g1 rfl ?_
  rw [h2]
  refine Wp.brf rfl (by omega) ?_
  refine Wp.g1 rfl ?_
  refine Wp.brf rfl (by decide) ?_
  refine Wp.g1 rfl ?_
  refine Wp.brf rfl (by decide) ?_
  refine Wp.g1 rfl ?_
  refine Wp.ald rfl rfl 5 (by decide) (by decide) rfl ?_
  refine Wp.g1 rfl ?_
  refine Wp.ald rfl rfl 5 (by decide) (by decide) rfl ?_
  refine Wp.call rfl (m_cpO_1_51 M h hR hb hc) (fun v M1 h1' q => ?_)
  obtain ⟨rfl, rfl, q1, q2, q3, q4⟩ := q
  have e9 : ∀ j, M1 9 j = M 9 j := fun j => by rw [q1 9 (by decide)]
  refine Wp.g1 rfl ?_
  have kp : ∀ M2 : Me, (∀ k, k ≠ 9 → M2 k = M1 k) → M2 9 1 = ((5 : Nat) : Int) → M2 9 2 = ((kn - 1 : Nat) : Int) → HiRel M2 (kn - 1) P := by
    intro M2 hM2 hm1 hm2
    refine HiRel.of (nx' := 5) h5 (by decide) hm1 hm2 (by omega) (fun c hc' => Or.inl ⟨c, by omega, rfl, by omega, fun k g1 g2 => ?_⟩)
    rw [hM2 k (by omega)]
    exact q1 k (by omega)
  refine Wp.re rfl ⟨rfl, rfl, fun k g => ?_, ?_, ?_, ?_, kp _ (fun k g => by rw [upd2_ne g, upd2_ne g]) ?_ ?_⟩
  · rw [upd2_ne (by omega), upd2_ne (by omega)]
    exact q1 k (by omega)
  · rw [upd2_ne (by decide), upd2_ne (by decide)]; exact q2
  · rw [upd2_ne (by decide), upd2_ne (by decide)]; exact q3
  · exact q4.kept (fun k g1 g2 => by rw [upd2_ne (by omega), upd2_ne (by omega)])
  · rw [upd2_off (by decide), upd2_at]; rfl
  · rw [upd2_at, upd2_off (by decide), e9 2, h2, w32_id (x := (kn : Int) - 1) ⟨by omega, by omega⟩]
    omega

theorem m_restore_1 {kn : Nat} {P : Nat → Nat → Int} (M : Me) (h : Ml) (h1 : M 9 1 = 1) (h2 : M 9 2 = (kn : Int)) (h3 : kn ≤ 6) (h0 : 0 < kn) (h5 : ∀ c, c < kn → ∃ nb nc : Nat, P c 10 = (nb : Int) ∧ P c 12 = (nc : Int) ∧ OfRel M (11 + 8 * ((1 + 6 - kn + c) % 6)) (P c) nb nc) (nb nc : Nat) (e10 : P (kn - 1) 10 = (nb : Int)) (e12 : P (kn - 1) 12 = (nc : Int)) (hb : nb ≤ 12) (hc : nc ≤ 10) :
    Wp zS0 tX2_restore none 0 [zr 9, zr 1, zn] [] M h (fun v M' h' => v = none ∧ h' = h ∧ (∀ k, 59 ≤ k → M' k = M k) ∧ M' 2 0 = M 2 0 ∧ M' 5 0 = M 5 0 ∧ OfRel M' 1 (P (kn - 1)) nb nc ∧ HiRel M' (kn - 1) P) := by
  have hR : OfRel M 11 (P (kn - 1)) nb nc := by
    obtain ⟨nb', nc', f1, f2, f3⟩ := h5 (kn - 1) (by omega)
    rw [show 11 + 8 * ((1 + 6 - kn + (kn - 1)) % 6) = 11 by omega] at f3
    have a1 : nb' = nb := by omega
    have a2 : nc' = nc := by omega
    rw [a1, a2] at f3
    exact f3
  refine Wp.g1 rfl ?_
  rw [h1]
  refine Wp.brt rfl (by decide) ?_
  refine Wp.g1 rfl ?_
  rw [h1, h2]
  refine Wp.brf rfl (by omega) ?_
  refine Wp.g1 rfl ?_
  refine Wp.brf rfl (by decide) ?_
  refine Wp.g1 rfl ?_
  refine Wp.brf rfl (by decide) ?_
  refine Wp.g1 rfl ?_
  refine Wp.ald rfl rfl 0 (by decide) (by decide) rfl ?_
  refine Wp.g1 rfl ?_
  refine Wp.ald rfl rfl 0 (by decide) (by decide) rfl ?_
  refine Wp.call rfl (m_cpO_1_11 M h hR hb hc) (fun v M1 h1' q => ?_)
  obtain ⟨rfl, rfl, q1, q2, q3, q4⟩ := q
  have e9 : ∀ j, M1 9 j = M 9 j := fun j => by rw [q1 9 (by decide)]
  refine Wp.g1 rfl ?_
  have kp : ∀ M2 : Me, (∀ k, k ≠ 9 → M2 k = M1 k) → M2 9 1 = ((0 : Nat) : Int) → M2 9 2 = ((kn - 1 : Nat) : Int) → HiRel M2 (kn - 1) P := by
    intro M2 hM2 hm1 hm2
    refine HiRel.of (nx' := 0) h5 (by decide) hm1 hm2 (by omega) (fun c hc' => Or.inl ⟨c, by omega, rfl, by omega, fun k g1 g2 => ?_⟩)
    rw [hM2 k (by omega)]
    exact q1 k (by omega)
  refine Wp.re rfl ⟨rfl, rfl, fun k g => ?_, ?_, ?_, ?_, kp _ (fun k g => by rw [upd2_ne g, upd2_ne g]) ?_ ?_⟩
  · rw [upd2_ne (by omega), upd2_ne (by omega)]
    exact q1 k (by omega)
  · rw [upd2_ne (by decide), upd2_ne (by decide)]; exact q2
  · rw [upd2_ne (by decide), upd2_ne (by decide)]; exact q3
  · exact q4.kept (fun k g1 g2 => by rw [upd2_ne (by omega), upd2_ne (by omega)])
  · rw [upd2_off (by decide), upd2_at]; rfl
  · rw [upd2_at, upd2_off (by decide), e9 2, h2, w32_id (x := (kn : Int) - 1) ⟨by omega, by omega⟩]
    omega

theorem m_restore_2 {kn : Nat} {P : Nat → Nat → Int} (M : Me) (h : Ml) (h1 : M 9 1 = 2) (h2 : M 9 2 = (kn : Int)) (h3 : kn ≤ 6) (h0 : 0 < kn) (h5 : ∀ c, c < kn → ∃ nb nc : Nat, P c 10 = (nb : Int) ∧ P c 12 = (nc : Int) ∧ OfRel M (11 + 8 * ((2 + 6 - kn + c) % 6)) (P c) nb nc) (nb nc : Nat) (e10 : P (kn - 1) 10 = (nb : Int)) (e12 : P (kn - 1) 12 = (nc : Int)) (hb : nb ≤ 12) (hc : nc ≤ 10) :
    Wp zS0 tX2_restore none 0 [zr 9, zr 1, zn] [] M h (fun v M' h' => v = none ∧ h' = h ∧ (∀ k, 59 ≤ k → M' k = M k) ∧ M' 2 0 = M 2 0 ∧ M' 5 0 = M 5 0 ∧ OfRel M' 1 (P (kn - 1)) nb nc ∧ HiRel M' (kn - 1) P) := by
  have hR : OfRel M 19 (P (kn - 1)) nb nc := by
    obtain ⟨nb', nc', f1, f2, f3⟩ := h5 (kn - 1) (by omega)
    rw [show 11 + 8 * ((2 + 6 - kn + (kn - 1)) % 6) = 19 by omega] at f3
    have a1 : nb' = nb := by omega
    have a2 : nc' = nc := by omega
    rw [a1, a2] at f3
    exact f3
  refine Wp.g1 rfl ?_
  rw [h1]
  refine Wp.brt rfl (by decide) ?_
  refine Wp.g1 rfl ?_
  rw [h1, h2]
  refine Wp.brf rfl (by omega) ?_
  refine Wp.g1 rfl ?_
  refine Wp.brf rfl (by decide) ?_
  refine Wp.g1 rfl ?_
  refine Wp.brf rfl (by decide) ?_
  refine Wp.g1 rfl ?_
  refine Wp.ald rfl rfl 1 (by decide) (by decide) rfl ?_
  refine Wp.g1 rfl ?_
  refine Wp.ald rfl rfl 1 (by decide) (by decide) rfl ?_
  refine Wp.call rfl (m_cpO_1_19 M h hR hb hc) (fun v M1 h1' q => ?_)
  obtain ⟨rfl, rfl, q1, q2, q3, q4⟩ := q
  have e9 : ∀ j, M1 9 j = M 9 j := fun j => by rw [q1 9 (by decide)]
  refine Wp.g1 rfl ?_
  have kp : ∀ M2 : Me, (∀ k, k ≠ 9 → M2 k = M1 k) → M2 9 1 = ((1 : Nat) : Int) → M2 9 2 = ((kn - 1 : Nat) : Int) → HiRel M2 (kn - 1) P := by
    intro M2 hM2 hm1 hm2
    refine HiRel.of (nx' := 1) h5 (by decide) hm1 hm2 (by omega) (fun c hc' => Or.inl ⟨c, by omega, rfl, by omega, fun k g1 g2 => ?_⟩)
    rw [hM2 k (by omega)]
    exact q1 k (by omega)
  refine Wp.re rfl ⟨rfl, rfl, fun k g => ?_, ?_, ?_, ?_, kp _ (fun k g => by rw [upd2_ne g, upd2_ne g]) ?_ ?_⟩
  · rw [upd2_ne (by omega), upd2_ne (by omega)]
    exact q1 k (by omega)
  · rw [upd2_ne (by decide), upd2_ne (by decide)]; exact q2
  · rw [upd2_ne (by decide), upd2_ne (by decide)]; exact q3
  · exact q4.kept (fun k g1 g2 => by rw [upd2_ne (by omega), upd2_ne (by omega)])
  · rw [upd2_off (by decide), upd2_at]; rfl
  · rw [upd2_at, upd2_off (by decide), e9 2, h2, w32_id (x := (kn : Int) - 1) ⟨by omega, by omega⟩]
    omega

theorem m_restore_3 {kn : Nat} {P : Nat → Nat → Int} (M : Me) (h : Ml) (h1 : M 9 1 = 3) (h2 : M 9 2 = (kn : Int)) (h3 : kn ≤ 6) (h0 : 0 < kn) (h5 : ∀ c, c < kn → ∃ nb nc : Nat, P c 10 = (nb : Int) ∧ P c 12 = (nc : Int) ∧ OfRel M (11 + 8 * ((3 + 6 - kn + c) % 6)) (P c) nb nc) (nb nc : Nat) (e10 : P (kn - 1) 10 = (nb : Int)) (e12 : P (kn - 1) 12 = (nc : Int)) (hb : nb ≤ 12) (hc : nc ≤ 10) :
    Wp zS0 tX2_restore none 0 [zr 9, zr 1, zn] [] M h (fun v M' h' => v = none ∧ h' = h ∧ (∀ k, 59 ≤ k → M' k = M k) ∧ M' 2 0 = M 2 0 ∧ M' 5 0 = M 5 0 ∧ OfRel M' 1 (P (kn - 1)) nb nc ∧ HiRel M' (kn - 1) P) := by
  have hR : OfRel M 27 (P (kn - 1)) nb nc := by
    obtain ⟨nb', nc', f1, f2, f3⟩ := h5 (kn - 1) (by omega)
    rw [show 11 + 8 * ((3 + 6 - kn + (kn - 1)) % 6) = 27 by omega] at f3
    have a1 : nb' = nb := by omega
    have a2 : nc' = nc := by omega
    rw [a1, a2] at f3
    exact f3
  refine Wp.g1 rfl ?_
  rw [h1]
  refine Wp.brt rfl (by decide) ?_
  refine Wp.g1 rfl ?_
  rw [h1, h2]
  refine Wp.brf rfl (by omega) ?_
  refine Wp.g1 rfl ?_
  refine Wp.brf rfl (by decide) ?_
  refine Wp.g1 rfl ?_
  refine Wp.brf rfl (by decide) ?_
  refine Wp.g1 rfl ?_
  refine Wp.ald rfl rfl 2 (by decide) (by decide) rfl ?_
  refine Wp.g1 rfl ?_
  refine Wp.ald rfl rfl 2 (by decide) (by decide) rfl ?_
  refine Wp.call rfl (m_cpO_1_27 M h hR hb hc) (fun v M1 h1' q => ?_)
  obtain ⟨rfl, rfl, q1, q2, q3, q4⟩ := q
  have e9 : ∀ j, M1 9 j = M 9 j := fun j => by rw [q1 9 (by decide)]
  refine Wp.g1 rfl ?_
  have kp : ∀ M2 : Me, (∀ k, k ≠ 9 → M2 k = M1 k) → M2 9 1 = ((2 : Nat) : Int) → M2 9 2 = ((kn - 1 : Nat) : Int) → HiRel M2 (kn - 1) P := by
    intro M2 hM2 hm1 hm2
    refine HiRel.of (nx' := 2) h5 (by decide) hm1 hm2 (by omega) (fun c hc' => Or.inl ⟨c, by omega, rfl, by omega, fun k g1 g2 => ?_⟩)
    rw [hM2 k (by omega)]
    exact q1 k (by omega)
  refine Wp.re rfl ⟨rfl, rfl, fun k g => ?_, ?_, ?_, ?_, kp _ (fun k g => by rw [upd2_ne g, upd2_ne g]) ?_ ?_⟩
  · rw [upd2_ne (by omega), upd2_ne (by omega)]
    exact q1 k (by omega)
  · rw [upd2_ne (by decide), upd2_ne (by decide)]; exact q2
  · rw [upd2_ne (by decide), upd2_ne (by decide)]; exact q3
  · exact q4.kept (fun k g1 g2 => by rw [upd2_ne (by omega), upd2_ne (by omega)])
  · rw [upd2_off (by decide), upd2_at]; rfl
  · rw [upd2_at, upd2_off (by decide), e9 2, h2, w32_id (x := (kn : Int) - 1) ⟨by omega, by omega⟩]
    omega

theorem m_restore_4 {kn : Nat} {P : Nat → Nat → Int} (M : Me) (h : Ml) (h1 : M 9 1 = 4) (h2 : M 9 2 = (kn : Int)) (h3 : kn ≤ 6) (h0 : 0 < kn) (h5 : ∀ c, c < kn → ∃ nb nc : Nat, P c 10 = (nb : Int) ∧ P c 12 = (nc : Int) ∧ OfRel M (11 + 8 * ((4 + 6 - kn + c) % 6)) (P c) nb nc) (nb nc : Nat) (e10 : P (kn - 1) 10 = (nb : Int)) (e12 : P (kn - 1) 12 = (nc : Int)) (hb : nb ≤ 12) (hc : nc ≤ 10) :
    Wp zS0 tX2_restore none 0 [zr 9, zr 1, zn] [] M h (fun v M' h' => v = none ∧ h' = h ∧ (∀ k, 59 ≤ k → M' k = M k) ∧ M' 2 0 = M 2 0 ∧ M' 5 0 = M 5 0 ∧ OfRel M' 1 (P (kn - 1)) nb nc ∧ HiRel M' (kn - 1) P) := by
  have hR : OfRel M 35 (P (kn - 1)) nb nc := by
    obtain ⟨nb', nc', f1, f2, f3⟩ := h5 (kn - 1) (by omega)
    rw [show 11 + 8 * ((4 + 6 - kn + (kn - 1)) % 6) = 35 by omega] at f3
    have a1 : nb' = nb := by omega
    have a2 : nc' = nc := by omega
    rw [a1, a2] at f3
    exact f3
  refine Wp.g1 rfl ?_
  rw [h1]
  refine Wp.brt rfl (by decide) ?_
  refine Wp.g1 rfl ?_
  rw [h1, h2]
  refine Wp.brf rfl (by omega) ?_
  refine Wp.g1 rfl ?_
  refine Wp.brf rfl (by decide) ?_
  refine Wp.g1 rfl ?_
  refine Wp.brf rfl (by decide) ?_
  refine Wp.g1 rfl ?_
  refine Wp.ald rfl rfl 3 (by decide) (by decide) rfl ?_
  refine Wp.g1 rfl ?_
  refine Wp.ald rfl rfl 3 (by decide) (by decide) rfl ?_
  refine Wp.call rfl (m_cpO_1_35 M h hR hb hc) (fun v M1 h1' q => ?_)
  obtain ⟨rfl, rfl, q1, q2, q3, q4⟩ := q
  have e9 : ∀ j, M1 9 j = M 9 j := fun j => by rw [q1 9 (by decide)]
  refine Wp.g1 rfl ?_
  have kp : ∀ M2 : Me, (∀ k, k ≠ 9 → M2 k = M1 k) → M2 9 1 = ((3 : Nat) : Int) → M2 9 2 = ((kn - 1 : Nat) : Int) → HiRel M2 (kn - 1) P := by
    intro M2 hM2 hm1 hm2
    refine HiRel.of (nx' := 3) h5 (by decide) hm1 hm2 (by omega) (fun c hc' => Or.inl ⟨c, by omega, rfl, by omega, fun k g1 g2 => ?_⟩)
    rw [hM2 k (by omega)]
    exact q1 k (by omega)
  refine Wp.re rfl ⟨rfl, rfl, fun k g => ?_, ?_, ?_, ?_, kp _ (fun k g => by rw [upd2_ne g, upd2_ne g]) ?_ ?_⟩
  · rw [upd2_ne (by omega), upd2_ne (by omega)]
    exact q1 k (by omega)
  · rw [upd2_ne (by decide), upd2_ne (by decide)]; exact q2
  · rw [upd2_ne (by decide), upd2_ne (by decide)]; exact q3
  · exact q4.kept (fun k g1 g2 => by rw [upd2_ne (by omega), upd2_ne (by omega)])
  · rw [upd2_off (by decide), upd2_at]; rfl
  · rw [upd2_at, upd2_off (by decide), e9 2, h2, w32_id (x := (kn : Int) - 1) ⟨by omega, by omega⟩]
    omega

theorem m_restore_5 {kn : Nat} {P : Nat → Nat → Int} (M : Me) (h : Ml) (h1 : M 9 1 = 5) (h2 : M 9 2 = (kn : Int)) (h3 : kn ≤ 6) (h0 : 0 < kn) (h5 : ∀ c, c < kn → ∃ nb nc : Nat, P c 10 = (nb : Int) ∧ P c 12 = (nc : Int) ∧ OfRel M (11 + 8 * ((5 + 6 - kn + c) % 6)) (P c) nb nc) (nb nc : Nat) (e10 : P (kn - 1) 10 = (nb : Int)) (e12 : P (kn - 1) 12 = (nc : Int)) (hb : nb ≤ 12) (hc : nc ≤ 10) :
    Wp zS0 tX2_restore none 0 [zr 9, zr 1, zn] [] M h (fun v M' h' => v = none ∧ h' = h ∧ (∀ k, 59 ≤ k → M' k = M k) ∧ M' 2 0 = M 2 0 ∧ M' 5 0 = M 5 0 ∧ OfRel M' 1 (P (kn - 1)) nb nc ∧ HiRel M' (kn - 1) P) := by
  have hR : OfRel M 43 (P (kn - 1)) nb nc := by
    obtain ⟨nb', nc', f1, f2, f3⟩ := h5 (kn - 1) (by omega)
    rw [show 11 + 8 * ((5 + 6 - kn + (kn - 1)) % 6) = 43 by omega] at f3
    have a1 : nb' = nb := by omega
    have a2 : nc' = nc := by omega
    rw [a1, a2] at f3
    exact f3
  refine Wp.g1 rfl ?_
  rw [h1]
  refine Wp.brt rfl (by decide) ?_
  refine Wp.g1 rfl ?_
  rw [h1, h2]
  refine Wp.brf rfl (by omega) ?_
  refine Wp.g1 rfl ?_
  refine Wp.brf rfl (by decide) ?_
  refine Wp.g1 rfl ?_
  refine Wp.brf rfl (by decide) ?_
  refine Wp.g1 rfl ?_
  refine Wp.ald rfl rfl 4 (by decide) (by decide) rfl ?_
  refine Wp.g1 rfl ?_
  refine Wp.ald rfl rfl 4 (by decide) (by decide) rfl ?_
  refine Wp.call rfl (m_cpO_1_43 M h hR hb hc) (fun v M1 h1' q => ?_)
  obtain ⟨rfl, rfl, q1, q2, q3, q4⟩ := q
  have e9 : ∀ j, M1 9 j = M 9 j := fun j => by rw [q1 9 (by decide)]
  refine Wp.g1 rfl ?_
  have kp : ∀ M2 : Me, (∀ k, k ≠ 9 → M2 k = M1 k) → M2 9 1 = ((4 : Nat) : Int) → M2 9 2 = ((kn - 1 : Nat) : Int) → HiRel M2 (kn - 1) P := by
    intro M2 hM2 hm1 hm2
    refine HiRel.of (nx' := 4) h5 (by decide) hm1 hm2 (by omega) (fun c hc' => Or.inl ⟨c, by omega, rfl, by omega, fun k g1 g2 => ?_⟩)
    rw [hM2 k (by omega)]
    exact q1 k (by omega)
  refine Wp.re rfl ⟨rfl, rfl, fun k g => ?_, ?_, ?_, ?_, kp _ (fun k g => by rw [upd2_ne g, upd2_ne g]) ?_ ?_⟩
  · rw [upd2_ne (by omega), upd2_ne (by omega)]
    exact q1 k (by omega)
  · rw [upd2_ne (by decide), upd2_ne (by decide)]; exact q2
  · rw [upd2_ne (by decide), upd2_ne (by decide)]; exact q3
  · exact q4.kept (fun k g1 g2 => by rw [upd2_ne (by omega), upd2_ne (by omega)])
  · rw [upd2_off (by decide), upd2_at]; rfl
  · rw [upd2_at, upd2_off (by decide), e9 2, h2, w32_id (x := (kn : Int) - 1) ⟨by omega, by omega⟩]
    omega

/-- what the two leave of the object -/
theorem c_save {V : Nat → Int} {nb nc kn : Nat} {P : Nat → Nat → Int} {len : Nat} {tx : Nat → Int} {p0 p1 p2 : Int} {M : Me} {h : Ml} {t : Nat} (hC : CRel M V nb nc kn P len tx p0 p1 p2) (hW : WF V nb nc t) :
    Wp zS0 tX2_save none 0 [zr 9, zr 1] [] M h (fun v M' h' => v = none ∧ h' = h ∧ (∀ k, 74 ≤ k → M' k = M k) ∧ CRel M' V nb nc (svK kn) (svP kn V P) len tx p0 p1 p2) := by
  obtain ⟨hR, hw, ⟨nx, g1, g2, g3, g4, g5⟩, ht, hp⟩ := hC
  have fin : ∀ (v : Option ZV) (M' : Me) (h' : Ml), (v = none ∧ h' = h ∧ (∀ k, k < 9 ∨ 59 ≤ k → M' k = M k) ∧ HiRel M' (svK kn) (svP kn V P)) → (v = none ∧ h' = h ∧ (∀ k, 74 ≤ k → M' k = M k) ∧ CRel M' V nb nc (svK kn) (svP kn V P) len tx p0 p1 p2) := by
    intro v M' h' q
    obtain ⟨q1, q2, q3, q4⟩ := q
    refine ⟨q1, q2, fun k g => q3 k (by omega), hR.kept (fun k _ g => q3 k (by omega)), ?_, q4, ?_, ?_⟩
    · rw [q3 2 (by omega), q3 5 (by omega)]; exact hw
    · rw [q3 59 (by omega), q3 60 (by omega)]; exact ht
    · rw [q3 71 (by omega)]; exact hp
  obtain ⟨e10, e12, hb, hc⟩ := hW.1
  rcases (show nx = 0 ∨ nx = 1 ∨ nx = 2 ∨ nx = 3 ∨ nx = 4 ∨ nx = 5 by omega) with e | e | e | e | e | e <;> subst e
  · exact (m_save_0 M h hR hb hc e10 e12 g2 g3 g4 g5).imp fin
  · exact (m_save_1 M h hR hb hc e10 e12 g2 g3 g4 g5).imp fin
  · exact (m_save_2 M h hR hb hc e10 e12 g2 g3 g4 g5).imp fin
  · exact (m_save_3 M h hR hb hc e10 e12 g2 g3 g4 g5).imp fin
  · exact (m_save_4 M h hR hb hc e10 e12 g2 g3 g4 g5).imp fin
  · exact (m_save_5 M h hR hb hc e10 e12 g2 g3 g4 g5).imp fin
theorem c_restore {V : Nat → Int} {nb nc kn : Nat} {P : Nat → Nat → Int} {len : Nat} {tx : Nat → Int} {p0 p1 p2 : Int} {M : Me} {h : Ml} {t nb' nc' : Nat} (hC : CRel M V nb nc kn P len tx p0 p1 p2) (h0 : 0 < kn) (hW : WF (P (kn - 1)) nb' nc' t) :
    Wp zS0 tX2_restore none 0 [zr 9, zr 1, zn] [] M h (fun v M' h' => v = none ∧ h' = h ∧ (∀ k, 74 ≤ k → M' k = M k) ∧ CRel M' (P (kn - 1)) nb' nc' (kn - 1) P len tx p0 p1 p2) := by
  obtain ⟨hR, hw, ⟨nx, g1, g2, g3, g4, g5⟩, ht, hp⟩ := hC
  have fin : ∀ (v : Option ZV) (M' : Me) (h' : Ml), (v = none ∧ h' = h ∧ (∀ k, 59 ≤ k → M' k = M k) ∧ M' 2 0 = M 2 0 ∧ M' 5 0 = M 5 0 ∧ OfRel M' 1 (P (kn - 1)) nb' nc' ∧ HiRel M' (kn - 1) P) → (v = none ∧ h' = h ∧ (∀ k, 74 ≤ k → M' k = M k) ∧ CRel M' (P (kn - 1)) nb' nc' (kn - 1) P len tx p0 p1 p2) := by
    intro v M' h' q
    obtain ⟨q1, q2, q3, q5, q6, q7, q8⟩ := q
    refine ⟨q1, q2, fun k g => q3 k (by omega), q7, ?_, q8, ?_, ?_⟩
    · rw [q5, q6]; exact hw
    · rw [q3 59 (by omega), q3 60 (by omega)]; exact ht
    · rw [q3 71 (by omega)]; exact hp
  obtain ⟨e10, e12, hb, hc⟩ := hW.1
  rcases (show nx = 0 ∨ nx = 1 ∨ nx = 2 ∨ nx = 3 ∨ nx = 4 ∨ nx = 5 by omega) with e | e | e | e | e | e <;> subst e
  · exact (m_restore_0 M h g2 g3 g4 h0 g5 nb' nc' e10 e12 hb hc).imp fin
  · exact (m_restore_1 M h g2 g3 g4 h0 g5 nb' nc' e10 e12 hb hc).imp fin
  · exact (m_restore_2 M h g2 g3 g4 h0 g5 nb' nc' e10 e12 hb hc).imp fin
  · exact (m_restore_3 M h g2 g3 g4 h0 g5 nb' nc' e10 e12 hb hc).imp fin
  · exact (m_restore_4 M h g2 g3 g4 h0 g5 nb' nc' e10 e12 hb hc).imp fin
  · exact (m_restore_5 M h g2 g3 g4 h0 g5 nb' nc' e10 e12 hb hc).imp fin
