theorem m_cpT_12_2 (M : Me) (h : Ml) : Wp zS0 tX6_copyFrom none 0 [zr 12, zr 2] [] M h (fun v M' h' => v = none ∧ h' = h ∧ (∀ k, k ≠ 12 → k ≠ 13 → k ≠ 14 → M' k = M k) ∧ M' 12 0 = M 12 0 ∧ M' 12 3 = min (M 2 3) 12 ∧ M' 12 4 = M 2 4 ∧ (∀ r, r < 12 → M' 13 r = M 3 r) ∧ ∀ i, i < 96 → M' 14 i = M 4 i) := by
  refine Wp.g1 rfl ?_
  refine Wp.acp rfl rfl rfl 0 0 96 rfl rfl (by decide) (by decide) (by decide) ?_
  refine Wp.g1 rfl ?_
  refine Wp.acp rfl rfl rfl 0 0 12 rfl rfl (by decide) (by decide) (by decide) ?_
  refine Wp.g1 rfl ?_
  refine Wp.re rfl ⟨rfl, rfl, fun k g1 g2 g3 => ?_, ?_, ?_, ?_, fun r hr => ?_, fun i hi => ?_⟩
  · funext j
    simp [upd2, cpy2, g1, g2, g3]
  · simp [upd2, cpy2]
  · simp [upd2, cpy2]
  · simp [upd2, cpy2]
  · simp [upd2, cpy2, hr]
  · simp [upd2, cpy2, hi]

theorem m_cpT_15_5 (M : Me) (h : Ml) : Wp zS0 tX6_copyFrom none 0 [zr 15, zr 5] [] M h (fun v M' h' => v = none ∧ h' = h ∧ (∀ k, k ≠ 15 → k ≠ 16 → k ≠ 17 → M' k = M k) ∧ M' 15 0 = M 15 0 ∧ M' 15 3 = min (M 5 3) 10 ∧ M' 15 4 = M 5 4 ∧ (∀ r, r < 10 → M' 16 r = M 6 r) ∧ ∀ i, i < 90 → M' 17 i = M 7 i) := by
  refine Wp.g1 rfl ?_
  refine Wp.acp rfl rfl rfl 0 0 90 rfl rfl (by decide) (by decide) (by decide) ?_
  refine Wp.g1 rfl ?_
  refine Wp.acp rfl rfl rfl 0 0 10 rfl rfl (by decide) (by decide) (by decide) ?_
  refine Wp.g1 rfl ?_
  refine Wp.re rfl ⟨rfl, rfl, fun k g1 g2 g3 => ?_, ?_, ?_, ?_, fun r hr => ?_, fun i hi => ?_⟩
  · funext j
    simp [upd2, cpy2, g1, g2, g3]
  · simp [upd2, cpy2]
  · simp [upd2, cpy2]
  · simp [upd2, cpy2]
  · simp [upd2, cpy2, hr]
  · simp [upd2, cpy2, hi]

theorem m_cpO_11_1 {V : Nat → Int} {nb nc : Nat} (M : Me) (h : Ml) (hR : OfRel M 1 V nb nc) (hb : nb ≤ 12) (hc : nc ≤ 10) : Wp zS0 tX3_copyFrom none 0 [zr 11, zr 1] [] M h (fun v M' h' => v = none ∧ h' = h ∧ (∀ k, k < 11 ∨ 19 ≤ k → M' k = M k) ∧ M' 12 0 = M 12 0 ∧ M' 15 0 = M 15 0 ∧ OfRel M' 11 V nb nc) := by
  obtain ⟨⟨r0, r1, r2, r3, r4, r5, r6, r7⟩, rw6, ⟨t1, t2, t3, t4⟩, rB, rC⟩ := hR
  refine Wp.g1 rfl ?_
  refine Wp.call rfl (m_cpT_12_2 M h) (fun v M1 h1 q => ?_)
  obtain ⟨rfl, rfl, q1, q2, q3, q4, q5, q6⟩ := q
  refine Wp.g1 rfl ?_
  refine Wp.call rfl (m_cpT_15_5 M1 h1) (fun v M2 h2 q => ?_)
  obtain ⟨rfl, rfl, p1, p2, p3, p4, p5, p6⟩ := q
  refine Wp.g1 rfl ?_
  refine Wp.acp rfl rfl rfl 0 0 6 rfl rfl (by decide) (by decide) (by decide) ?_
  refine Wp.g1 rfl ?_
  have eb : ∀ j, M2 1 j = M 1 j := fun j => by rw [p1 1 (by decide) (by decide) (by decide), q1 1 (by decide) (by decide) (by decide)]
  have e7 : ∀ j, M2 8 j = M 8 j := fun j => by rw [p1 8 (by decide) (by decide) (by decide), q1 8 (by decide) (by decide) (by decide)]
  refine Wp.re rfl ⟨rfl, rfl, fun k g => ?_, ?_, ?_, ⟨⟨?_, ?_, ?_, ?_, ?_, ?_, ?_, ?_⟩, fun i hi => ?_, ⟨?_, ?_, ?_, ?_⟩, fun r hr => ⟨?_, fun c hc' => ?_, ?_⟩, fun r hr => ⟨?_, fun c hc' => ?_, ?_⟩⟩⟩
  · have n0 : k ≠ 11 := by omega
    have n7 : k ≠ 18 := by omega
    have : M2 k = M k := (p1 k (by omega) (by omega) (by omega)).trans (q1 k (by omega) (by omega) (by omega))
    rw [← this]
    funext j
    simp [upd2, cpy2, n0, n7]
  · simp [upd2, cpy2]
    rw [p1 12 (by decide) (by decide) (by decide)]; exact q2
  · simp [upd2, cpy2]
    rw [p2, q1 15 (by decide) (by decide) (by decide)]
  · simp [upd2, cpy2, eb]; exact r0
  · simp [upd2, cpy2, eb]; exact r1
  · simp [upd2, cpy2, eb]; exact r2
  · simp [upd2, cpy2, eb]; exact r3
  · simp [upd2, cpy2, eb]; exact r4
  · simp [upd2, cpy2, eb]; exact r5
  · simp [upd2, cpy2, eb]; exact r6
  · simp [upd2, cpy2, eb]; exact r7
  · simp [upd2, cpy2, e7, hi]; exact rw6 i hi
  · simp [upd2, cpy2]
    rw [p1 12 (by decide) (by decide) (by decide), q3]
    have t1' : M 2 3 = (nb : Int) := t1
    rw [t1']; omega
  · simp [upd2, cpy2]
    rw [p1 12 (by decide) (by decide) (by decide), q4]; exact t2
  · simp [upd2, cpy2]
    rw [p3, q1 5 (by decide) (by decide) (by decide)]
    have t3' : M 5 3 = (nc : Int) := t3
    rw [t3']; omega
  · simp [upd2, cpy2]
    rw [p4, q1 5 (by decide) (by decide) (by decide)]; exact t4
  · simp [upd2, cpy2]
    rw [p1 13 (by decide) (by decide) (by decide), q5 r (by omega)]; exact (rB r hr).1
  · simp [upd2, cpy2]
    rw [p1 14 (by decide) (by decide) (by decide), q6 _ (by omega)]; exact (rB r hr).2.1 c hc'
  · simp [upd2, cpy2]
    rw [p1 14 (by decide) (by decide) (by decide), q6 _ (by omega)]; exact (rB r hr).2.2
  · simp [upd2, cpy2]
    rw [p5 r (by omega), q1 6 (by decide) (by decide) (by decide)]; exact (rC r hr).1
  · simp [upd2, cpy2]
    rw [p6 _ (by omega), q1 7 (by decide) (by decide) (by decide)]; exact (rC r hr).2.1 c hc'
  · simp [upd2, cpy2]
    rw [p6 _ (by omega), q1 7 (by decide) (by decide) (by decide)]; exact (rC r hr).2.2

theorem m_cpT_2_12 (M : Me) (h : Ml) : Wp zS0 tX6_copyFrom none 0 [zr 2, zr 12] [] M h (fun v M' h' => v = none ∧ h' = h ∧ (∀ k, k ≠ 2 → k ≠ 3 → k ≠ 4 → M' k = M k) ∧ M' 2 0 = M 2 0 ∧ M' 2 3 = min (M 12 3) 12 ∧ M' 2 4 = M 12 4 ∧ (∀ r, r < 12 → M' 3 r = M 13 r) ∧ ∀ i, i < 96 → M' 4 i = M 14 i) := by
  refine Wp.g1 rfl ?_
  refine Wp.acp rfl rfl rfl 0 0 96 rfl rfl (by decide) (by decide) (by decide) ?_
  refine Wp.g1 rfl ?_
  refine Wp.acp rfl rfl rfl 0 0 12 rfl rfl (by decide) (by decide) (by decide) ?_
  refine Wp.g1 rfl ?_
  refine Wp.re rfl ⟨rfl, rfl, fun k g1 g2 g3 => ?_, ?_, ?_, ?_, fun r hr => ?_, fun i hi => ?_⟩
  · funext j
    simp [upd2, cpy2, g1, g2, g3]
  · simp [upd2, cpy2]
  · simp [upd2, cpy2]
  · simp [upd2, cpy2]
  · simp [upd2, cpy2, hr]
  · simp [upd2, cpy2, hi]

theorem m_cpT_5_15 (M : Me) (h : Ml) : Wp zS0 tX6_copyFrom none 0 [zr 5, zr 15] [] M h (fun v M' h' => v = none ∧ h' = h ∧ (∀ k, k ≠ 5 → k ≠ 6 → k ≠ 7 → M' k = M k) ∧ M' 5 0 = M 5 0 ∧ M' 5 3 = min (M 15 3) 10 ∧ M' 5 4 = M 15 4 ∧ (∀ r, r < 10 → M' 6 r = M 16 r) ∧ ∀ i, i < 90 → M' 7 i = M 17 i) := by
  refine Wp.g1 rfl ?_
  refine Wp.acp rfl rfl rfl 0 0 90 rfl rfl (by decide) (by decide) (by decide) ?_
  refine Wp.g1 rfl ?_
  refine Wp.acp rfl rfl rfl 0 0 10 rfl rfl (by decide) (by decide) (by decide) ?_
  refine Wp.g1 rfl ?_
  refine Wp.re rfl ⟨rfl, rfl, fun k g1 g2 g3 => ?_, ?_, ?_, ?_, fun r hr => ?_, fun i hi => ?_⟩
  · funext j
    simp [upd2, cpy2, g1, g2, g3]
  · simp [upd2, cpy2]
  · simp [upd2, cpy2]
  · simp [upd2, cpy2]
  · simp [upd2, cpy2, hr]
  · simp [upd2, cpy2, hi]

theorem m_cpO_1_11 {V : Nat → Int} {nb nc : Nat} (M : Me) (h : Ml) (hR : OfRel M 11 V nb nc) (hb : nb ≤ 12) (hc : nc ≤ 10) : Wp zS0 tX3_copyFrom none 0 [zr 1, zr 11] [] M h (fun v M' h' => v = none ∧ h' = h ∧ (∀ k, k < 1 ∨ 9 ≤ k → M' k = M k) ∧ M' 2 0 = M 2 0 ∧ M' 5 0 = M 5 0 ∧ OfRel M' 1 V nb nc) := by
  obtain ⟨⟨r0, r1, r2, r3, r4, r5, r6, r7⟩, rw6, ⟨t1, t2, t3, t4⟩, rB, rC⟩ := hR
  refine Wp.g1 rfl ?_
  refine Wp.call rfl (m_cpT_2_12 M h) (fun v M1 h1 q => ?_)
  obtain ⟨rfl, rfl, q1, q2, q3, q4, q5, q6⟩ := q
  refine Wp.g1 rfl ?_
  refine Wp.call rfl (m_cpT_5_15 M1 h1) (fun v M2 h2 q => ?_)
  obtain ⟨rfl, rfl, p1, p2, p3, p4, p5, p6⟩ := q
  refine Wp.g1 rfl ?_
  refine Wp.acp rfl rfl rfl 0 0 6 rfl rfl (by decide) (by decide) (by decide) ?_
  refine Wp.g1 rfl ?_
  have eb : ∀ j, M2 11 j = M 11 j := fun j => by rw [p1 11 (by decide) (by decide) (by decide), q1 11 (by decide) (by decide) (by decide)]
  have e7 : ∀ j, M2 18 j = M 18 j := fun j => by rw [p1 18 (by decide) (by decide) (by decide), q1 18 (by decide) (by decide) (by decide)]
  refine Wp.re rfl ⟨rfl, rfl, fun k g => ?_, ?_, ?_, ⟨⟨?_, ?_, ?_, ?_, ?_, ?_, ?_, ?_⟩, fun i hi => ?_, ⟨?_, ?_, ?_, ?_⟩, fun r hr => ⟨?_, fun c hc' => ?_, ?_⟩, fun r hr => ⟨?_, fun c hc' => ?_, ?_⟩⟩⟩
  · have n0 : k ≠ 1 := by omega
    have n7 : k ≠ 8 := by omega
    have : M2 k = M k := (p1 k (by omega) (by omega) (by omega)).trans (q1 k (by omega) (by omega) (by omega))
    rw [← this]
    funext j
    simp [upd2, cpy2, n0, n7]
  · simp [upd2, cpy2]
    rw [p1 2 (by decide) (by decide) (by decide)]; exact q2
  · simp [upd2, cpy2]
    rw [p2, q1 5 (by decide) (by decide) (by decide)]
  · simp [upd2, cpy2, eb]; exact r0
  · simp [upd2, cpy2, eb]; exact r1
  · simp [upd2, cpy2, eb]; exact r2
  · simp [upd2, cpy2, eb]; exact r3
  · simp [upd2, cpy2, eb]; exact r4
  · simp [upd2, cpy2, eb]; exact r5
  · simp [upd2, cpy2, eb]; exact r6
  · simp [upd2, cpy2, eb]; exact r7
  · simp [upd2, cpy2, e7, hi]; exact rw6 i hi
  · simp [upd2, cpy2]
    rw [p1 2 (by decide) (by decide) (by decide), q3]
    have t1' : M 12 3 = (nb : Int) := t1
    rw [t1']; omega
  · simp [upd2, cpy2]
    rw [p1 2 (by decide) (by decide) (by decide), q4]; exact t2
  · simp [upd2, cpy2]
    rw [p3, q1 15 (by decide) (by decide) (by decide)]
    have t3' : M 15 3 = (nc : Int) := t3
    rw [t3']; omega
  · simp [upd2, cpy2]
    rw [p4, q1 15 (by decide) (by decide) (by decide)]; exact t4
  · simp [upd2, cpy2]
    rw [p1 3 (by decide) (by decide) (by decide), q5 r (by omega)]; exact (rB r hr).1
  · simp [upd2, cpy2]
    rw [p1 4 (by decide) (by decide) (by decide), q6 _ (by omega)]; exact (rB r hr).2.1 c hc'
  · simp [upd2, cpy2]
    rw [p1 4 (by decide) (by decide) (by decide), q6 _ (by omega)]; exact (rB r hr).2.2
  · simp [upd2, cpy2]
    rw [p5 r (by omega), q1 16 (by decide) (by decide) (by decide)]; exact (rC r hr).1
  · simp [upd2, cpy2]
    rw [p6 _ (by omega), q1 17 (by decide) (by decide) (by decide)]; exact (rC r hr).2.1 c hc'
  · simp [upd2, cpy2]
    rw [p6 _ (by omega), q1 17 (by decide) (by decide) (by decide)]; exact (rC r hr).2.2

theorem m_cpT_20_2 (M : Me) (h : Ml) : Wp zS0 tX6_copyFrom none 0 [zr 20, zr 2] [] M h (fun v M' h' => v = none ∧ h' = h ∧ (∀ k, k ≠ 20 → k ≠ 21 → k ≠ 22 → M' k = M k) ∧ M' 20 0 = M 20 0 ∧ M' 20 3 = min (M 2 3) 12 ∧ M' 20 4 = M 2 4 ∧ (∀ r, r < 12 → M' 21 r = M 3 r) ∧ ∀ i, i < 96 → M' 22 i = M 4 i) := by
  refine Wp.g1 rfl ?_
  refine Wp.acp rfl rfl rfl 0 0 96 rfl rfl (by decide) (by decide) (by decide) ?_
  refine Wp.g1 rfl ?_
  refine Wp.acp rfl rfl rfl 0 0 12 rfl rfl (by decide) (by decide) (by decide) ?_
  refine Wp.g1 rfl ?_
  refine Wp.re rfl ⟨rfl, rfl, fun k g1 g2 g3 => ?_, ?_, ?_, ?_, fun r hr => ?_, fun i hi => ?_⟩
  · funext j
    simp [upd2, cpy2, g1, g2, g3]
  · simp [upd2, cpy2]
  · simp [upd2, cpy2]
  · simp [upd2, cpy2]
  · simp [upd2, cpy2, hr]
  · simp [upd2, cpy2, hi]

theorem m_cpT_23_5 (M : Me) (h : Ml) : Wp zS0 tX6_copyFrom none 0 [zr 23, zr 5] [] M h (fun v M' h' => v = none ∧ h' = h ∧ (∀ k, k ≠ 23 → k ≠ 24 → k ≠ 25 → M' k = M k) ∧ M' 23 0 = M 23 0 ∧ M' 23 3 = min (M 5 3) 10 ∧ M' 23 4 = M 5 4 ∧ (∀ r, r < 10 → M' 24 r = M 6 r) ∧ ∀ i, i < 90 → M' 25 i = M 7 i) := by
  refine Wp.g1 rfl ?_
  refine Wp.acp rfl rfl rfl 0 0 90 rfl rfl (by decide) (by decide) (by decide) ?_
  refine Wp.g1 rfl ?_
  refine Wp.acp rfl rfl rfl 0 0 10 rfl rfl (by decide) (by decide) (by decide) ?_
  refine Wp.g1 rfl ?_
  refine Wp.re rfl ⟨rfl, rfl, fun k g1 g2 g3 => ?_, ?_, ?_, ?_, fun r hr => ?_, fun i hi => ?_⟩
  · funext j
    simp [upd2, cpy2, g1, g2, g3]
  · simp [upd2, cpy2]
  · simp [upd2, cpy2]
  · simp [upd2, cpy2]
  · simp [upd2, cpy2, hr]
  · simp [upd2, cpy2, hi]

theorem m_cpO_19_1 {V : Nat → Int} {nb nc : Nat} (M : Me) (h : Ml) (hR : OfRel M 1 V nb nc) (hb : nb ≤ 12) (hc : nc ≤ 10) : Wp zS0 tX3_copyFrom none 0 [zr 19, zr 1] [] M h (fun v M' h' => v = none ∧ h' = h ∧ (∀ k, k < 19 ∨ 27 ≤ k → M' k = M k) ∧ M' 20 0 = M 20 0 ∧ M' 23 0 = M 23 0 ∧ OfRel M' 19 V nb nc) := by
  obtain ⟨⟨r0, r1, r2, r3, r4, r5, r6, r7⟩, rw6, ⟨t1, t2, t3, t4⟩, rB, rC⟩ := hR
  refine Wp.g1 rfl ?_
  refine Wp.call rfl (m_cpT_20_2 M h) (fun v M1 h1 q => ?_)
  obtain ⟨rfl, rfl, q1, q2, q3, q4, q5, q6⟩ := q
  refine Wp.g1 rfl ?_
  refine Wp.call rfl (m_cpT_23_5 M1 h1) (fun v M2 h2 q => ?_)
  obtain ⟨rfl, rfl, p1, p2, p3, p4, p5, p6⟩ := q
  refine Wp.g1 rfl ?_
  refine Wp.acp rfl rfl rfl 0 0 6 rfl rfl (by decide) (by decide) (by decide) ?_
  refine Wp.g1 rfl ?_
  have eb : ∀ j, M2 1 j = M 1 j := fun j => by rw [p1 1 (by decide) (by decide) (by decide), q1 1 (by decide) (by decide) (by decide)]
  have e7 : ∀ j, M2 8 j = M 8 j := fun j => by rw [p1 8 (by decide) (by decide) (by decide), q1 8 (by decide) (by decide) (by decide)]
  refine Wp.re rfl ⟨rfl, rfl, fun k g => ?_, ?_, ?_, ⟨⟨?_, ?_, ?_, ?_, ?_, ?_, ?_, ?_⟩, fun i hi => ?_, ⟨?_, ?_, ?_, ?_⟩, fun r hr => ⟨?_, fun c hc' => ?_, ?_⟩, fun r hr => ⟨?_, fun c hc' => ?_, ?_⟩⟩⟩
  · have n0 : k ≠ 19 := by omega
    have n7 : k ≠ 26 := by omega
    have : M2 k = M k := (p1 k (by omega) (by omega) (by omega)).trans (q1 k (by omega) (by omega) (by omega))
    rw [← this]
    funext j
    simp [upd2, cpy2, n0, n7]
  · simp [upd2, cpy2]
    rw [p1 20 (by decide) (by decide) (by decide)]; exact q2
  · simp [upd2, cpy2]
    rw [p2, q1 23 (by decide) (by decide) (by decide)]
  · simp [upd2, cpy2, eb]; exact r0
  · simp [upd2, cpy2, eb]; exact r1
  · simp [upd2, cpy2, eb]; exact r2
  · simp [upd2, cpy2, eb]; exact r3
  · simp [upd2, cpy2, eb]; exact r4
  · simp [upd2, cpy2, eb]; exact r5
  · simp [upd2, cpy2, eb]; exact r6
  · simp [upd2, cpy2, eb]; exact r7
  · simp [upd2, cpy2, e7, hi]; exact rw6 i hi
  · simp [upd2, cpy2]
    rw [p1 20 (by decide) (by decide) (by decide), q3]
    have t1' : M 2 3 = (nb : Int) := t1
    rw [t1']; omega
  · simp [upd2, cpy2]
    rw [p1 20 (by decide) (by decide) (by decide), q4]; exact t2
  · simp [upd2, cpy2]
    rw [p3, q1 5 (by decide) (by decide) (by decide)]
    have t3' : M 5 3 = (nc : Int) := t3
    rw [t3']; omega
  · simp [upd2, cpy2]
    rw [p4, q1 5 (by decide) (by decide) (by decide)]; exact t4
  · simp [upd2, cpy2]
    rw [p1 21 (by decide) (by decide) (by decide), q5 r (by omega)]; exact (rB r hr).1
  · simp [upd2, cpy2]
    rw [p1 22 (by decide) (by decide) (by decide), q6 _ (by omega)]; exact (rB r hr).2.1 c hc'
  · simp [upd2, cpy2]
    rw [p1 22 (by decide) (by decide) (by decide), q6 _ (by omega)]; exact (rB r hr).2.2
  · simp [upd2, cpy2]
    rw [p5 r (by omega), q1 6 (by decide) (by decide) (by decide)]; exact (rC r hr).1
  · simp [upd2, cpy2]
    rw [p6 _ (by omega), q1 7 (by decide) (by decide) (by decide)]; exact (rC r hr).2.1 c hc'
  · simp [upd2, cpy2]
    rw [p6 _ (by omega), q1 7 (by decide) (by decide) (by decide)]; exact (rC r hr).2.2

theorem m_cpT_2_20 (M : Me) (h : Ml) : Wp zS0 tX6_copyFrom none 0 [zr 2, zr 20] [] M h (fun v M' h' => v = none ∧ h' = h ∧ (∀ k, k ≠ 2 → k ≠ 3 → k ≠ 4 → M' k = M k) ∧ M' 2 0 = M 2 0 ∧ M' 2 3 = min (M 20 3) 12 ∧ M' 2 4 = M 20 4 ∧ (∀ r, r < 12 → M' 3 r = M 21 r) ∧ ∀ i, i < 96 → M' 4 i = M 22 i) := by
  refine Wp.g1 rfl ?_
  refine Wp.acp rfl rfl rfl 0 0 96 rfl rfl (by decide) (by decide) (by decide) ?_
  refine Wp.g1 rfl ?_
  refine Wp.acp rfl rfl rfl 0 0 12 rfl rfl (by decide) (by decide) (by decide) ?_
  refine Wp.g1 rfl ?_
  refine Wp.re rfl ⟨rfl, rfl, fun k g1 g2 g3 => ?_, ?_, ?_, ?_, fun r hr => ?_, fun i hi => ?_⟩
  · funext j
    simp [upd2, cpy2, g1, g2, g3]
  · simp [upd2, cpy2]
  · simp [upd2, cpy2]
  · simp [upd2, cpy2]
  · simp [upd2, cpy2, hr]
  · simp [upd2, cpy2, hi]

theorem m_cpT_5_23 (M : Me) (h : Ml) : Wp zS0 tX6_copyFrom none 0 [zr 5, zr 23] [] M h (fun v M' h' => v = none ∧ h' = h ∧ (∀ k, k ≠ 5 → k ≠ 6 → k ≠ 7 → M' k = M k) ∧ M' 5 0 = M 5 0 ∧ M' 5 3 = min (M 23 3) 10 ∧ M' 5 4 = M 23 4 ∧ (∀ r, r < 10 → M' 6 r = M 24 r) ∧ ∀ i, i < 90 → M' 7 i = M 25 i) := by
  refine Wp.g1 rfl ?_
  refine Wp.acp rfl rfl rfl 0 0 90 rfl rfl (by decide) (by decide) (by decide) ?_
  refine Wp.g1 rfl ?_
  refine Wp.acp rfl rfl rfl 0 0 10 rfl rfl (by decide) (by decide) (by decide) ?_
  refine Wp.g1 rfl ?_
  refine Wp.re rfl ⟨rfl, rfl, fun k g1 g2 g3 => ?_, ?_, ?_, ?_, fun r hr => ?_, fun i hi => ?_⟩
  · funext j
    simp [upd2, cpy2, g1, g2, g3]
  · simp [upd2, cpy2]
  · simp [upd2, cpy2]
  · simp [upd2, cpy2]
  · simp [upd2, cpy2, hr]
  · simp [upd2, cpy2, hi]

theorem m_cpO_1_19 {V : Nat → Int} {nb nc : Nat} (M : Me) (h : Ml) (hR : OfRel M 19 V nb nc) (hb : nb ≤ 12) (hc : nc ≤ 10) : Wp zS0 tX3_copyFrom none 0 [zr 1, zr 19] [] M h (fun v M' h' => v = none ∧ h' = h ∧ (∀ k, k < 1 ∨ 9 ≤ k → M' k = M k) ∧ M' 2 0 = M 2 0 ∧ M' 5 0 = M 5 0 ∧ OfRel M' 1 V nb nc) := by
  obtain ⟨⟨r0, r1, r2, r3, r4, r5, r6, r7⟩, rw6, ⟨t1, t2, t3, t4⟩, rB, rC⟩ := hR
  refine Wp.g1 rfl ?_
  refine Wp.call rfl (m_cpT_2_20 M h) (fun v M1 h1 q => ?_)
  obtain ⟨rfl, rfl, q1, q2, q3, q4, q5, q6⟩ := q
  refine Wp.g1 rfl ?_
  refine Wp.call rfl (m_cpT_5_23 M1 h1) (fun v M2 h2 q => ?_)
  obtain ⟨rfl, rfl, p1, p2, p3, p4, p5, p6⟩ := q
  refine Wp.g1 rfl ?_
  refine Wp.acp rfl rfl rfl 0 0 6 rfl rfl (by decide) (by decide) (by decide) ?_
  refine Wp.g1 rfl ?_
  have eb : ∀ j, M2 19 j = M 19 j := fun j => by rw [p1 19 (by decide) (by decide) (by decide), q1 19 (by decide) (by decide) (by decide)]
  have e7 : ∀ j, M2 26 j = M 26 j := fun j => by rw [p1 26 (by decide) (by decide) (by decide), q1 26 (by decide) (by decide) (by decide)]
  refine Wp.re rfl ⟨rfl, rfl, fun k g => ?_, ?_, ?_, ⟨⟨?_, ?_, ?_, ?_, ?_, ?_, ?_, ?_⟩, fun i hi => ?_, ⟨?_, ?_, ?_, ?_⟩, fun r hr => ⟨?_, fun c hc' => ?_, ?_⟩, fun r hr => ⟨?_, fun c hc' => ?_, ?_⟩⟩⟩
  · have n0 : k ≠ 1 := by omega
    have n7 : k ≠ 8 := by omega
    have : M2 k = M k := (p1 k (by omega) (by omega) (by omega)).trans (q1 k (by omega) (by omega) (by omega))
    rw [← this]
    funext j
    simp [upd2, cpy2, n0, n7]
  · simp [upd2, cpy2]
    rw [p1 2 (by decide) (by decide) (by decide)]; exact q2
  · simp [upd2, cpy2]
    rw [p2, q1 5 (by decide) (by decide) (by decide)]
  · simp [upd2, cpy2, eb]; exact r0
  · simp [upd2, cpy2, eb]; exact r1
  · simp [upd2, cpy2, eb]; exact r2
  · simp [upd2, cpy2, eb]; exact r3
  · simp [upd2, cpy2, eb]; exact r4
  · simp [upd2, cpy2, eb]; exact r5
  · simp [upd2, cpy2, eb]; exact r6
  · simp [upd2, cpy2, eb]; exact r7
  · simp [upd2, cpy2, e7, hi]; exact rw6 i hi
  · simp [upd2, cpy2]
    rw [p1 2 (by decide) (by decide) (by decide), q3]
    have t1' : M 20 3 = (nb : Int) := t1
    rw [t1']; omega
  · simp [upd2, cpy2]
    rw [p1 2 (by decide) (by decide) (by decide), q4]; exact t2
  · simp [upd2, cpy2]
    rw [p3, q1 23 (by decide) (by decide) (by decide)]
    have t3' : M 23 3 = (nc : Int) := t3
    rw [t3']; omega
  · simp [upd2, cpy2]
    rw [p4, q1 23 (by decide) (by decide) (by decide)]; exact t4
  · simp [upd2, cpy2]
    rw [p1 3 (by decide) (by decide) (by decide), q5 r (by omega)]; exact (rB r hr).1
  · simp [upd2, cpy2]
    rw [p1 4 (by decide) (by decide) (by decide), q6 _ (by omega)]; exact (rB r hr).2.1 c hc'
  · simp [upd2, cpy2]
    rw [p1 4 (by decide) (by decide) (by decide), q6 _ (by omega)]; exact (rB r hr).2.2
  · simp [upd2, cpy2]
    rw [p5 r (by omega), q1 24 (by decide) (by decide) (by decide)]; exact (rC r hr).1
  · simp [upd2, cpy2]
    rw [p6 _ (by omega), q1 25 (by decide) (by decide) (by decide)]; exact (rC r hr).2.1 c hc'
  · simp [upd2, cpy2]
    rw [p6 _ (by omega), q1 25 (by decide) (by decide) (by decide)]; exact (rC r hr).2.2

theorem m_cpT_28_2 (M : Me) (h : Ml) : Wp zS0 tX6_copyFrom none 0 [zr 28, zr 2] [] M h (fun v M' h' => v = none ∧ h' = h ∧ (∀ k, k ≠ 28 → k ≠ 29 → k ≠ 30 → M' k = M k) ∧ M' 28 0 = M 28 0 ∧ M' 28 3 = min (M 2 3) 12 ∧ M' 28 4 = M 2 4 ∧ (∀ r, r < 12 → M' 29 r = M 3 r) ∧ ∀ i, i < 96 → M' 30 i = M 4 i) := by
  refine Wp.g1 rfl ?_
  refine Wp.acp rfl rfl rfl 0 0 96 rfl rfl (by decide) (by decide) (by decide) ?_
  refine Wp.g1 rfl ?_
  refine Wp.acp rfl rfl rfl 0 0 12 rfl rfl (by decide) (by decide) (by decide) ?_
  refine Wp.g1 rfl ?_
  refine Wp.re rfl ⟨rfl, rfl, fun k g1 g2 g3 => ?_, ?_, ?_, ?_, fun r hr => ?_, fun i hi => ?_⟩
  · funext j
    simp [upd2, cpy2, g1, g2, g3]
  · simp [upd2, cpy2]
  · simp [upd2, cpy2]
  · simp [upd2, cpy2]
  · simp [upd2, cpy2, hr]
  · simp [upd2, cpy2, hi]

theorem m_cpT_31_5 (M : Me) (h : Ml) : Wp zS0 tX6_copyFrom none 0 [zr 31, zr 5] [] M h (fun v M' h' => v = none ∧ h' = h ∧ (∀ k, k ≠ 31 → k ≠ 32 → k ≠ 33 → M' k = M k) ∧ M' 31 0 = M 31 0 ∧ M' 31 3 = min (M 5 3) 10 ∧ M' 31 4 = M 5 4 ∧ (∀ r, r < 10 → M' 32 r = M 6 r) ∧ ∀ i, i < 90 → M' 33 i = M 7 i) := by
  refine Wp.g1 rfl ?_
  refine Wp.acp rfl rfl rfl 0 0 90 rfl rfl (by decide) (by decide) (by decide) ?_
  refine Wp.g1 rfl ?_
  refine Wp.acp rfl rfl rfl 0 0 10 rfl rfl (by decide) (by decide) (by decide) ?_
  refine Wp.g1 rfl ?_
  refine Wp.re rfl ⟨rfl, rfl, fun k g1 g2 g3 => ?_, ?_, ?_, ?_, fun r hr => ?_, fun i hi => ?_⟩
  · funext j
    simp [upd2, cpy2, g1, g2, g3]
  · simp [upd2, cpy2]
  · simp [upd2, cpy2]
  · simp [upd2, cpy2]
  · simp [upd2, cpy2, hr]
  · simp [upd2, cpy2, hi]

theorem m_cpO_27_1 {V : Nat → Int} {nb nc : Nat} (M : Me) (h : Ml) (hR : OfRel M 1 V nb nc) (hb : nb ≤ 12) (hc : nc ≤ 10) : Wp zS0 tX3_copyFrom none 0 [zr 27, zr 1] [] M h (fun v M' h' => v = none ∧ h' = h ∧ (∀ k, k < 27 ∨ 35 ≤ k → M' k = M k) ∧ M' 28 0 = M 28 0 ∧ M' 31 0 = M 31 0 ∧ OfRel M' 27 V nb nc) := by
  obtain ⟨⟨r0, r1, r2, r3, r4, r5, r6, r7⟩, rw6, ⟨t1, t2, t3, t4⟩, rB, rC⟩ := hR
  refine Wp.g1 rfl ?_
  refine Wp.call rfl (m_cpT_28_2 M h) (fun v M1 h1 q => ?_)
  obtain ⟨rfl, rfl, q1, q2, q3, q4, q5, q6⟩ := q
  refine Wp.g1 rfl ?_
  refine Wp.call rfl (m_cpT_31_5 M1 h1) (fun v M2 h2 q => ?_)
  obtain ⟨rfl, rfl, p1, p2, p3, p4, p5, p6⟩ := q
  refine Wp.g1 rfl ?_
  refine Wp.acp rfl rfl rfl 0 0 6 rfl rfl (by decide) (by decide) (by decide) ?_
  refine Wp.g1 rfl ?_
  have eb : ∀ j, M2 1 j = M 1 j := fun j => by rw [p1 1 (by decide) (by decide) (by decide), q1 1 (by decide) (by decide) (by decide)]
  have e7 : ∀ j, M2 8 j = M 8 j := fun j => by rw [p1 8 (by decide) (by decide) (by decide), q1 8 (by decide) (by decide) (by decide)]
  refine Wp.re rfl ⟨rfl, rfl, fun k g => ?_, ?_, ?_, ⟨⟨?_, ?_, ?_, ?_, ?_, ?_, ?_, ?_⟩, fun i hi => ?_, ⟨?_, ?_, ?_, ?_⟩, fun r hr => ⟨?_, fun c hc' => ?_, ?_⟩, fun r hr => ⟨?_, fun c hc' => ?_, ?_⟩⟩⟩
  · have n0 : k ≠ 27 := by omega
    have n7 : k ≠ 34 := by omega
    have : M2 k = M k := (p1 k (by omega) (by omega) (by omega)).trans (q1 k (by omega) (by omega) (by omega))
    rw [← this]
    funext j
    simp [upd2, cpy2, n0, n7]
  · simp [upd2, cpy2]
    rw [p1 28 (by decide) (by decide) (by decide)]; exact q2
  · simp [upd2, cpy2]
    rw [p2, q1 31 (by decide) (by decide) (by decide)]
  · simp [upd2, cpy2, eb]; exact r0
  · simp [upd2, cpy2, eb]; exact r1
  · simp [upd2, cpy2, eb]; exact r2
  · simp [upd2, cpy2, eb]; exact r3
  · simp [upd2, cpy2, eb]; exact r4
  · simp [upd2, cpy2, eb]; exact r5
  · simp [upd2, cpy2, eb]; exact r6
  · simp [upd2, cpy2, eb]; exact r7
  · simp [upd2, cpy2, e7, hi]; exact rw6 i hi
  · simp [upd2, cpy2]
    rw [p1 28 (by decide) (by decide) (by decide), q3]
    have t1' : M 2 3 = (nb : Int) := t1
    rw [t1']; omega
  · simp [upd2, cpy2]
    rw [p1 28 (by decide) (by decide) (by decide), q4]; exact t2
  · simp [upd2, cpy2]
    rw [p3, q1 5 (by decide) (by decide) (by decide)]
    have t3' : M 5 3 = (nc : Int) := t3
    rw [t3']; omega
  · simp [upd2, cpy2]
    rw [p4, q1 5 (by decide) (by decide) (by decide)]; exact t4
  · simp [upd2, cpy2]
    rw [p1 29 (by decide) (by decide) (by decide), q5 r (by omega)]; exact (rB r hr).1
  · simp [upd2, cpy2]
    rw [p1 30 (by decide) (by decide) (by decide), q6 _ (by omega)]; exact (rB r hr).2.1 c hc'
  · simp [upd2, cpy2]
    rw [p1 30 (by decide) (by decide) (by decide), q6 _ (by omega)]; exact (rB r hr).2.2
  · simp [upd2, cpy2]
    rw [p5 r (by omega), q1 6 (by decide) (by decide) (by decide)]; exact (rC r hr).1
  · simp [upd2, cpy2]
    rw [p6 _ (by omega), q1 7 (by decide) (by decide) (by decide)]; exact (rC r hr).2.1 c hc'
  · simp [upd2, cpy2]
    rw [p6 _ (by omega), q1 7 (by decide) (by decide) (by decide)]; exact (rC r hr).2.2

theorem m_cpT_2_28 (M : Me) (h : Ml) : Wp zS0 tX6_copyFrom none 0 [zr 2, zr 28] [] M h (fun v M' h' => v = none ∧ h' = h ∧ (∀ k, k ≠ 2 → k ≠ 3 → k ≠ 4 → M' k = M k) ∧ M' 2 0 = M 2 0 ∧ M' 2 3 = min (M 28 3) 12 ∧ M' 2 4 = M 28 4 ∧ (∀ r, r < 12 → M' 3 r = M 29 r) ∧ ∀ i, i < 96 → M' 4 i = M 30 i) := by
  refine Wp.g1 rfl ?_
  refine Wp.acp rfl rfl rfl 0 0 96 rfl rfl (by decide) (by decide) (by decide) ?_
  refine Wp.g1 rfl ?_
  refine Wp.acp rfl rfl rfl 0 0 12 rfl rfl (by decide) (by decide) (by decide) ?_
  refine Wp.g1 rfl ?_
  refine Wp.re rfl ⟨rfl, rfl, fun k g1 g2 g3 => ?_, ?_, ?_, ?_, fun r hr => ?_, fun i hi => ?_⟩
  · funext j
    simp [upd2, cpy2, g1, g2, g3]
  · simp [upd2, cpy2]
  · simp [upd2, cpy2]
  · simp [upd2, cpy2]
  · simp [upd2, cpy2, hr]
  · simp [upd2, cpy2, hi]

theorem m_cpT_5_31 (M : Me) (h : Ml) : Wp zS0 tX6_copyFrom none 0 [zr 5, zr 31] [] M h (fun v M' h' => v = none ∧ h' = h ∧ (∀ k, k ≠ 5 → k ≠ 6 → k ≠ 7 → M' k = M k) ∧ M' 5 0 = M 5 0 ∧ M' 5 3 = min (M 31 3) 10 ∧ M' 5 4 = M 31 4 ∧ (∀ r, r < 10 → M' 6 r = M 32 r) ∧ ∀ i, i < 90 → M' 7 i = M 33 i) := by
  refine Wp.g1 rfl ?_
  refine Wp.acp rfl rfl rfl 0 0 90 rfl rfl (by decide) (by decide) (by decide) ?_
  refine Wp.g1 rfl ?_
  refine Wp.acp rfl rfl rfl 0 0 10 rfl rfl (by decide) (by decide) (by decide) ?_
  refine Wp.g1 rfl ?_
  refine Wp.re rfl ⟨rfl, rfl, fun k g1 g2 g3 => ?_, ?_, ?_, ?_, fun r hr => ?_, fun i hi => ?_⟩
  · funext j
    simp [upd2, cpy2, g1, g2, g3]
  · simp [upd2, cpy2]
  · simp [upd2, cpy2]
  · simp [upd2, cpy2]
  · simp [upd2, cpy2, hr]
  · simp [upd2, cpy2, hi]

theorem m_cpO_1_27 {V : Nat → Int} {nb nc : Nat} (M : Me) (h : Ml) (hR : OfRel M 27 V nb nc) (hb : nb ≤ 12) (hc : nc ≤ 10) : Wp zS0 tX3_copyFrom none 0 [zr 1, zr 27] [] M h (fun v M' h' => v = none ∧ h' = h ∧ (∀ k, k < 1 ∨ 9 ≤ k → M' k = M k) ∧ M' 2 0 = M 2 0 ∧ M' 5 0 = M 5 0 ∧ OfRel M' 1 V nb nc) := by
  obtain ⟨⟨r0, r1, r2, r3, r4, r5, r6, r7⟩, rw6, ⟨t1, t2, t3, t4⟩, rB, rC⟩ := hR
  refine Wp.g1 rfl ?_
  refine Wp.call rfl (m_cpT_2_28 M h) (fun v M1 h1 q => ?_)
  obtain ⟨rfl, rfl, q1, q2, q3, q4, q5, q6⟩ := q
  refine Wp.g1 rfl ?_
  refine Wp.call rfl (m_cpT_5_31 M1 h1) (fun v M2 h2 q => ?_)
  obtain ⟨rfl, rfl, p1, p2, p3, p4, p5, p6⟩ := q
  refine Wp.g1 rfl ?_
  refine Wp.acp rfl rfl rfl 0 0 6 rfl rfl (by decide) (by decide) (by decide) ?_
  refine Wp.g1 rfl ?_
  have eb : ∀ j, M2 27 j = M 27 j := fun j => by rw [p1 27 (by decide) (by decide) (by decide), q1 27 (by decide) (by decide) (by decide)]
  have e7 : ∀ j, M2 34 j = M 34 j := fun j => by rw [p1 34 (by decide) (by decide) (by decide), q1 34 (by decide) (by decide) (by decide)]
  refine Wp.re rfl ⟨rfl, rfl, fun k g => ?_, ?_, ?_, ⟨⟨?_, ?_, ?_, ?_, ?_, ?_, ?_, ?_⟩, fun i hi => ?_, ⟨?_, ?_, ?_, ?_⟩, fun r hr => ⟨?_, fun c hc' => ?_, ?_⟩, fun r hr => ⟨?_, fun c hc' => ?_, ?_⟩⟩⟩
  · have n0 : k ≠ 1 := by omega
    have n7 : k ≠ 8 := by omega
    have : M2 k = M k := (p1 k (by omega) (by omega) (by omega)).trans (q1 k (by omega) (by omega) (by omega))
    rw [← this]
    funext j
    simp [upd2, cpy2, n0, n7]
  · simp [upd2, cpy2]
    rw [p1 2 (by decide) (by decide) (by decide)]; exact q2
  · simp [upd2, cpy2]
    rw [p2, q1 5 (by decide) (by decide) (by decide)]
  · simp [upd2, cpy2, eb]; exact r0
  · simp [upd2, cpy2, eb]; exact r1
  · simp [upd2, cpy2, eb]; exact r2
  · simp [upd2, cpy2, eb]; exact r3
  · simp [upd2, cpy2, eb]; exact r4
  · simp [upd2, cpy2, eb]; exact r5
  · simp [upd2, cpy2, eb]; exact r6
  · simp [upd2, cpy2, eb]; exact r7
  · simp [upd2, cpy2, e7, hi]; exact rw6 i hi
  · simp [upd2, cpy2]
    rw [p1 2 (by decide) (by decide) (by decide), q3]
    have t1' : M 28 3 = (nb : Int) := t1
    rw [t1']; omega
  · simp [upd2, cpy2]
    rw [p1 2 (by decide) (by decide) (by decide), q4]; exact t2
  · simp [upd2, cpy2]
    rw [p3, q1 31 (by decide) (by decide) (by decide)]
    have t3' : M 31 3 = (nc : Int) := t3
    rw [t3']; omega
  · simp [upd2, cpy2]
    rw [p4, q1 31 (by decide) (by decide) (by decide)]; exact t4
  · simp [upd2, cpy2]
    rw [p1 3 (by decide) (by decide) (by decide), q5 r (by omega)]; exact (rB r hr).1
  · simp [upd2, cpy2]
    rw [p1 4 (by decide) (by decide) (by decide), q6 _ (by omega)]; exact (rB r hr).2.1 c hc'
  · simp [upd2, cpy2]
    rw [p1 4 (by decide) (by decide) (by decide), q6 _ (by omega)]; exact (rB r hr).2.2
  · simp [upd2, cpy2]
    rw [p5 r (by omega), q1 32 (by decide) (by decide) (by decide)]; exact (rC r hr).1
  · simp [upd2, cpy2]
    rw [p6 _ (by omega), q1 33 (by decide) (by decide) (by decide)]; exact (rC r hr).2.1 c hc'
  · simp [upd2, cpy2]
    rw [p6 _ (by omega), q1 33 (by decide) (by decide) (by decide)]; exact (rC r hr).2.2

theorem m_cpT_36_2 (M : Me) (h : Ml) : Wp zS0 tX6_copyFrom none 0 [zr 36, zr 2] [] M h (fun v M' h' => v = none ∧ h' = h ∧ (∀ k, k ≠ 36 → k ≠ 37 → k ≠ 38 → M' k = M k) ∧ M' 36 0 = M 36 0 ∧ M' 36 3 = min (M 2 3) 12 ∧ M' 36 4 = M 2 4 ∧ (∀ r, r < 12 → M' 37 r = M 3 r) ∧ ∀ i, i < 96 → M' 38 i = M 4 i) := by
  refine Wp.g1 rfl ?_
  refine Wp.acp rfl rfl rfl 0 0 96 rfl rfl (by decide) (by decide) (by decide) ?_
  refine Wp.g1 rfl ?_
  refine Wp.acp rfl rfl rfl 0 0 12 rfl rfl (by decide) (by decide) (by decide) ?_
  refine Wp.g1 rfl ?_
  refine Wp.re rfl ⟨rfl, rfl, fun k g1 g2 g3 => ?_, ?_, ?_, ?_, fun r hr => ?_, fun i hi => ?_⟩
  · funext j
    simp [upd2, cpy2, g1, g2, g3]
  · simp [upd2, cpy2]
  · simp [upd2, cpy2]
  · simp [upd2, cpy2]
  · simp [upd2, cpy2, hr]
  · simp [upd2, cpy2, hi]

theorem m_cpT_39_5 (M : Me) (h : Ml) : Wp zS0 tX6_copyFrom none 0 [zr 39, zr 5] [] M h (fun v M' h' => v = none ∧ h' = h ∧ (∀ k, k ≠ 39 → k ≠ 40 → k ≠ 41 → M' k = M k) ∧ M' 39 0 = M 39 0 ∧ M' 39 3 = min (M 5 3) 10 ∧ M' 39 4 = M 5 4 ∧ (∀ r, r < 10 → M' 40 r = M 6 r) ∧ ∀ i, i < 90 → M' 41 i = M 7 i) := by
  refine Wp.g1 rfl ?_
  refine Wp.acp rfl rfl rfl 0 0 90 rfl rfl (by decide) (by decide) (by decide) ?_
  refine Wp.g1 rfl ?_
  refine Wp.acp rfl rfl rfl 0 0 10 rfl rfl (by decide) (by decide) (by decide) ?_
  refine Wp.g1 rfl ?_
  refine Wp.re rfl ⟨rfl, rfl, fun k g1 g2 g3 => ?_, ?_, ?_, ?_, fun r hr => ?_, fun i hi => ?_⟩
  · funext j
    simp [upd2, cpy2, g1, g2, g3]
  · simp [upd2, cpy2]
  · simp [upd2, cpy2]
  · simp [upd2, cpy2]
  · simp [upd2, cpy2, hr]
  · simp [upd2, cpy2, hi]

theorem m_cpO_35_1 {V : Nat → Int} {nb nc : Nat} (M : Me) (h : Ml) (hR : OfRel M 1 V nb nc) (hb : nb ≤ 12) (hc : nc ≤ 10) : Wp zS0 tX3_copyFrom none 0 [zr 35, zr 1] [] M h (fun v M' h' => v = none ∧ h' = h ∧ (∀ k, k < 35 ∨ 43 ≤ k → M' k = M k) ∧ M' 36 0 = M 36 0 ∧ M' 39 0 = M 39 0 ∧ OfRel M' 35 V nb nc) := by
  obtain ⟨⟨r0, r1, r2, r3, r4, r5, r6, r7⟩, rw6, ⟨t1, t2, t3, t4⟩, rB, rC⟩ := hR
  refine Wp.g1 rfl ?_
  refine Wp.call rfl (m_cpT_36_2 M h) (fun v M1 h1 q => ?_)
  obtain ⟨rfl, rfl, q1, q2, q3, q4, q5, q6⟩ := q
  refine Wp.g1 rfl ?_
  refine Wp.call rfl (m_cpT_39_5 M1 h1) (fun v M2 h2 q => ?_)
  obtain ⟨rfl, rfl, p1, p2, p3, p4, p5, p6⟩ := q
  refine Wp.g1 rfl ?_
  refine Wp.acp rfl rfl rfl 0 0 6 rfl rfl (by decide) (by decide) (by decide) ?_
  refine Wp.g1 rfl ?_
  have eb : ∀ j, M2 1 j = M 1 j := fun j => by rw [p1 1 (by decide) (by decide) (by decide), q1 1 (by decide) (by decide) (by decide)]
  have e7 : ∀ j, M2 8 j = M 8 j := fun j => by rw [p1 8 (by decide) (by decide) (by decide), q1 8 (by decide) (by decide) (by decide)]
  refine Wp.re rfl ⟨rfl, rfl, fun k g => ?_, ?_, ?_, ⟨⟨?_, ?_, ?_, ?_, ?_, ?_, ?_, ?_⟩, fun i hi => ?_, ⟨?_, ?_, ?_, ?_⟩, fun r hr => ⟨?_, fun c hc' => ?_, ?_⟩, fun r hr => ⟨?_, fun c hc' => ?_, ?_⟩⟩⟩
  · have n0 : k ≠ 35 := by omega
    have n7 : k ≠ 42 := by omega
    have : M2 k = M k := (p1 k (by omega) (by omega) (by omega)).trans (q1 k (by omega) (by omega) (by omega))
    rw [← this]
    funext j
    simp [upd2, cpy2, n0, n7]
  · simp [upd2, cpy2]
    rw [p1 36 (by decide) (by decide) (by decide)]; exact q2
  · simp [upd2, cpy2]
    rw [p2, q1 39 (by decide) (by decide) (by decide)]
  · simp [upd2, cpy2, eb]; exact r0
  · simp [upd2, cpy2, eb]; exact r1
  · simp [upd2, cpy2, eb]; exact r2
  · simp [upd2, cpy2, eb]; exact r3
  · simp [upd2, cpy2, eb]; exact r4
  · simp [upd2, cpy2, eb]; exact r5
  · simp [upd2, cpy2, eb]; exact r6
  · simp [upd2, cpy2, eb]; exact r7
  · simp [upd2, cpy2, e7, hi]; exact rw6 i hi
  · simp [upd2, cpy2]
    rw [p1 36 (by decide) (by decide) (by decide), q3]
    have t1' : M 2 3 = (nb : Int) := t1
    rw [t1']; omega
  · simp [upd2, cpy2]
    rw [p1 36 (by decide) (by decide) (by decide), q4]; exact t2
  · simp [upd2, cpy2]
    rw [p3, q1 5 (by decide) (by decide) (by decide)]
    have t3' : M 5 3 = (nc : Int) := t3
    rw [t3']; omega
  · simp [upd2, cpy2]
    rw [p4, q1 5 (by decide) (by decide) (by decide)]; exact t4
  · simp [upd2, cpy2]
    rw [p1 37 (by decide) (by decide) (by decide), q5 r (by omega)]; exact (rB r hr).1
  · simp [upd2, cpy2]
    rw [p1 38 (by decide) (by decide) (by decide), q6 _ (by omega)]; exact (rB r hr).2.1 c hc'
  · simp [upd2, cpy2]
    rw [p1 38 (by decide) (by decide) (by decide), q6 _ (by omega)]; exact (rB r hr).2.2
  · simp [upd2, cpy2]
    rw [p5 r (by omega), q1 6 (by decide) (by decide) (by decide)]; exact (rC r hr).1
  · simp [upd2, cpy2]
    rw [p6 _ (by omega), q1 7 (by decide) (by decide) (by decide)]; exact (rC r hr).2.1 c hc'
  · simp [upd2, cpy2]
    rw [p6 _ (by omega), q1 7 (by decide) (by decide) (by decide)]; exact (rC r hr).2.2

theorem m_cpT_2_36 (M : Me) (h : Ml) : Wp zS0 tX6_copyFrom none 0 [zr 2, zr 36] [] M h (fun v M' h' => v = none ∧ h' = h ∧ (∀ k, k ≠ 2 → k ≠ 3 → k ≠ 4 → M' k = M k) ∧ M' 2 0 = M 2 0 ∧ M' 2 3 = min (M 36 3) 12 ∧ M' 2 4 = M 36 4 ∧ (∀ r, r < 12 → M' 3 r = M 37 r) ∧ ∀ i, i < 96 → M' 4 i = M 38 i) := by
  refine Wp.g1 rfl ?_
  refine Wp.acp rfl rfl rfl 0 0 96 rfl rfl (by decide) (by decide) (by decide) ?_
  refine Wp.g1 rfl ?_
  refine Wp.acp rfl rfl rfl 0 0 12 rfl rfl (by decide) (by decide) (by decide) ?_
  refine Wp.g1 rfl ?_
  refine Wp.re rfl ⟨rfl, rfl, fun k g1 g2 g3 => ?_, ?_, ?_, ?_, fun r hr => ?_, fun i hi => ?_⟩
  · funext j
    simp [upd2, cpy2, g1, g2, g3]
  · simp [upd2, cpy2]
  · simp [upd2, cpy2]
  · simp [upd2, cpy2]
  · simp [upd2, cpy2, hr]
  · simp [upd2, cpy2, hi]

theorem m_cpT_5_39 (M : Me) (h : Ml) : Wp zS0 tX6_copyFrom none 0 [zr 5, zr 39] [] M h (fun v M' h' => v = none ∧ h' = h ∧ (∀ k, k ≠ 5 → k ≠ 6 → k ≠ 7 → M' k = M k) ∧ M' 5 0 = M 5 0 ∧ M' 5 3 = min (M 39 3) 10 ∧ M' 5 4 = M 39 4 ∧ (∀ r, r < 10 → M' 6 r = M 40 r) ∧ ∀ i, i < 90 → M' 7 i = M 41 i) := by
  refine Wp.g1 rfl ?_
  refine Wp.acp rfl rfl rfl 0 0 90 rfl rfl (by decide) (by decide) (by decide) ?_
  refine Wp.g1 rfl ?_
  refine Wp.acp rfl rfl rfl 0 0 10 rfl rfl (by decide) (by decide) (by decide) ?_
  refine Wp.g1 rfl ?_
  refine Wp.re rfl ⟨rfl, rfl, fun k g1 g2 g3 => ?_, ?_, ?_, ?_, fun r hr => ?_, fun i hi => ?_⟩
  · funext j
    simp [upd2, cpy2, g1, g2, g3]
  · simp [upd2, cpy2]
  · simp [upd2, cpy2]
  · simp [upd2, cpy2]
  · simp [upd2, cpy2, hr]
  · simp [upd2, cpy2, hi]

theorem m_cpO_1_35 {V : Nat → Int} {nb nc : Nat} (M : Me) (h : Ml) (hR : OfRel M 35 V nb nc) (hb : nb ≤ 12) (hc : nc ≤ 10) : Wp zS0 tX3_copyFrom none 0 [zr 1, zr 35] [] M h (fun v M' h' => v = none ∧ h' = h ∧ (∀ k, k < 1 ∨ 9 ≤ k → M' k = M k) ∧ M' 2 0 = M 2 0 ∧ M' 5 0 = M 5 0 ∧ OfRel M' 1 V nb nc) := by
  obtain ⟨⟨r0, r1, r2, r3, r4, r5, r6, r7⟩, rw6, ⟨t1, t2, t3, t4⟩, rB, rC⟩ := hR
  refine Wp.g1 rfl ?_
  refine Wp.call rfl (m_cpT_2_36 M h) (fun v M1 h1 q => ?_)
  obtain ⟨rfl, rfl, q1, q2, q3, q4, q5, q6⟩ := q
  refine Wp.g1 rfl ?_
  refine Wp.call rfl (m_cpT_5_39 M1 h1) (fun v M2 h2 q => ?_)
  obtain ⟨rfl, rfl, p1, p2, p3, p4, p5, p6⟩ := q
  refine Wp.g1 rfl ?_
  refine Wp.acp rfl rfl rfl 0 0 6 rfl rfl (by decide) (by decide) (by decide) ?_
  refine Wp.g1 rfl ?_
  have eb : ∀ j, M2 35 j = M 35 j := fun j => by rw [p1 35 (by decide) (by decide) (by decide), q1 35 (by decide) (by decide) (by decide)]
  have e7 : ∀ j, M2 42 j = M 42 j := fun j => by rw [p1 42 (by decide) (by decide) (by decide), q1 42 (by decide) (by decide) (by decide)]
  refine Wp.re rfl ⟨rfl, rfl, fun k g => ?_, ?_, ?_, ⟨⟨?_, ?_, ?_, ?_, ?_, ?_, ?_, ?_⟩, fun i hi => ?_, ⟨?_, ?_, ?_, ?_⟩, fun r hr => ⟨?_, fun c hc' => ?_, ?_⟩, fun r hr => ⟨?_, fun c hc' => ?_, ?_⟩⟩⟩
  · have n0 : k ≠ 1 := by omega
    have n7 : k ≠ 8 := by omega
    have : M2 k = M k := (p1 k (by omega) (by omega) (by omega)).trans (q1 k (by omega) (by omega) (by omega))
    rw [← this]
    funext j
    simp [upd2, cpy2, n0, n7]
  · simp [upd2, cpy2]
    rw [p1 2 (by decide) (by decide) (by decide)]; exact q2
  · simp [upd2, cpy2]
    rw [p2, q1 5 (by decide) (by decide) (by decide)]
  · simp [upd2, cpy2, eb]; exact r0
  · simp [upd2, cpy2, eb]; exact r1
  · simp [upd2, cpy2, eb]; exact r2
  · simp [upd2, cpy2, eb]; exact r3
  · simp [upd2, cpy2, eb]; exact r4
  · simp [upd2, cpy2, eb]; exact r5
  · simp [upd2, cpy2, eb]; exact r6
  · simp [upd2, cpy2, eb]; exact r7
  · simp [upd2, cpy2, e7, hi]; exact rw6 i hi
  · simp [upd2, cpy2]
    rw [p1 2 (by decide) (by decide) (by decide), q3]
    have t1' : M 36 3 = (nb : Int) := t1
    rw [t1']; omega
  · simp [upd2, cpy2]
    rw [p1 2 (by decide) (by decide) (by decide), q4]; exact t2
  · simp [upd2, cpy2]
    rw [p3, q1 39 (by decide) (by decide) (by decide)]
    have t3' : M 39 3 = (nc : Int) := t3
    rw [t3']; omega
  · simp [upd2, cpy2]
    rw [p4, q1 39 (by decide) (by decide) (by decide)]; exact t4
  · simp [upd2, cpy2]
    rw [p1 3 (by decide) (by decide) (by decide), q5 r (by omega)]; exact (rB r hr).1
  · simp [upd2, cpy2]
    rw [p1 4 (by decide) (by decide) (by decide), q6 _ (by omega)]; exact (rB r hr).2.1 c hc'
  · simp [upd2, cpy2]
    rw [p1 4 (by decide) (by decide) (by decide), q6 _ (by omega)]; exact (rB r hr).2.2
  · simp [upd2, cpy2]
    rw [p5 r (by omega), q1 40 (by decide) (by decide) (by decide)]; exact (rC r hr).1
  · simp [upd2, cpy2]
    rw [p6 _ (by omega), q1 41 (by decide) (by decide) (by decide)]; exact (rC r hr).2.1 c hc'
  · simp [upd2, cpy2]
    rw [p6 _ (by omega), q1 41 (by decide) (by decide) (by decide)]; exact (rC r hr).2.2

theorem m_cpT_44_2 (M : Me) (h : Ml) : Wp zS0 tX6_copyFrom none 0 [zr 44, zr 2] [] M h (fun v M' h' => v = none ∧ h' = h ∧ (∀ k, k ≠ 44 → k ≠ 45 → k ≠ 46 → M' k = M k) ∧ M' 44 0 = M 44 0 ∧ M' 44 3 = min (M 2 3) 12 ∧ M' 44 4 = M 2 4 ∧ (∀ r, r < 12 → M' 45 r = M 3 r) ∧ ∀ i, i < 96 → M' 46 i = M 4 i) := by
  refine Wp.g1 rfl ?_
  refine Wp.acp rfl rfl rfl 0 0 96 rfl rfl (by decide) (by decide) (by decide) ?_
  refine Wp.g1 rfl ?_
  refine Wp.acp rfl rfl rfl 0 0 12 rfl rfl (by decide) (by decide) (by decide) ?_
  refine Wp.g1 rfl ?_
  refine Wp.re rfl ⟨rfl, rfl, fun k g1 g2 g3 => ?_, ?_, ?_, ?_, fun r hr => ?_, fun i hi => ?_⟩
  · funext j
    simp [upd2, cpy2, g1, g2, g3]
  · simp [upd2, cpy2]
  · simp [upd2, cpy2]
  · simp [upd2, cpy2]
  · simp [upd2, cpy2, hr]
  · simp [upd2, cpy2, hi]

theorem m_cpT_47_5 (M : Me) (h : Ml) : Wp zS0 tX6_copyFrom none 0 [zr 47, zr 5] [] M h (fun v M' h' => v = none ∧ h' = h ∧ (∀ k, k ≠ 47 → k ≠ 48 → k ≠ 49 → M' k = M k) ∧ M' 47 0 = M 47 0 ∧ M' 47 3 = min (M 5 3) 10 ∧ M' 47 4 = M 5 4 ∧ (∀ r, r < 10 → M' 48 r = M 6 r) ∧ ∀ i, i < 90 → M' 49 i = M 7 i) := by
  refine Wp.g1 rfl ?_
  refine Wp.acp rfl rfl rfl 0 0 90 rfl rfl (by decide) (by decide) (by decide) ?_
  refine Wp.g1 rfl ?_
  refine Wp.acp rfl rfl rfl 0 0 10 rfl rfl (by decide) (by decide) (by decide) ?_
  refine Wp.g1 rfl ?_
  refine Wp.re rfl ⟨rfl, rfl, fun k g1 g2 g3 => ?_, ?_, ?_, ?_, fun r hr => ?_, fun i hi => ?_⟩
  · funext j
    simp [upd2, cpy2, g1, g2, g3]
  · simp [upd2, cpy2]
  · simp [upd2, cpy2]
  · simp [upd2, cpy2]
  · simp [upd2, cpy2, hr]
  · simp [upd2, cpy2, hi]

theorem m_cpO_43_1 {V : Nat → Int} {nb nc : Nat} (M : Me) (h : Ml) (hR : OfRel M 1 V nb nc) (hb : nb ≤ 12) (hc : nc ≤ 10) : Wp zS0 tX3_copyFrom none 0 [zr 43, zr 1] [] M h (fun v M' h' => v = none ∧ h' = h ∧ (∀ k, k < 43 ∨ 51 ≤ k → M' k = M k) ∧ M' 44 0 = M 44 0 ∧ M' 47 0 = M 47 0 ∧ OfRel M' 43 V nb nc) := by
  obtain ⟨⟨r0, r1, r2, r3, r4, r5, r6, r7⟩, rw6, ⟨t1, t2, t3, t4⟩, rB, rC⟩ := hR
  refine Wp.g1 rfl ?_
  refine Wp.call rfl (m_cpT_44_2 M h) (fun v M1 h1 q => ?_)
  obtain ⟨rfl, rfl, q1, q2, q3, q4, q5, q6⟩ := q
  refine Wp.g1 rfl ?_
  refine Wp.call rfl (m_cpT_47_5 M1 h1) (fun v M2 h2 q => ?_)
  obtain ⟨rfl, rfl, p1, p2, p3, p4, p5, p6⟩ := q
  refine Wp.g1 rfl ?_
  refine Wp.acp rfl rfl rfl 0 0 6 rfl rfl (by decide) (by decide) (by decide) ?_
  refine Wp.g1 rfl ?_
  have eb : ∀ j, M2 1 j = M 1 j := fun j => by rw [p1 1 (by decide) (by decide) (by decide), q1 1 (by decide) (by decide) (by decide)]
  have e7 : ∀ j, M2 8 j = M 8 j := fun j => by rw [p1 8 (by decide) (by decide) (by decide), q1 8 (by decide) (by decide) (by decide)]
  refine Wp.re rfl ⟨rfl, rfl, fun k g => ?_, ?_, ?_, ⟨⟨?_, ?_, ?_, ?_, ?_, ?_, ?_, ?_⟩, fun i hi => ?_, ⟨?_, ?_, ?_, ?_⟩, fun r hr => ⟨?_, fun c hc' => ?_, ?_⟩, fun r hr => ⟨?_, fun c hc' => ?_, ?_⟩⟩⟩
  · have n0 : k ≠ 43 := by omega
    have n7 : k ≠ 50 := by omega
    have : M2 k = M k := (p1 k (by omega) (by omega) (by omega)).trans (q1 k (by omega) (by omega) (by omega))
    rw [← this]
    funext j
    simp [upd2, cpy2, n0, n7]
  · simp [upd2, cpy2]
    rw [p1 44 (by decide) (by decide) (by decide)]; exact q2
  · simp [upd2, cpy2]
    rw [p2, q1 47 (by decide) (by decide) (by decide)]
  · simp [upd2, cpy2, eb]; exact r0
  · simp [upd2, cpy2, eb]; exact r1
  · simp [upd2, cpy2, eb]; exact r2
  · simp [upd2, cpy2, eb]; exact r3
  · simp [upd2, cpy2, eb]; exact r4
  · simp [upd2, cpy2, eb]; exact r5
  · simp [upd2, cpy2, eb]; exact r6
  · simp [upd2, cpy2, eb]; exact r7
  · simp [upd2, cpy2, e7, hi]; exact rw6 i hi
  · simp [upd2, cpy2]
    rw [p1 44 (by decide) (by decide) (by decide), q3]
    have t1' : M 2 3 = (nb : Int) := t1
    rw [t1']; omega
  · simp [upd2, cpy2]
    rw [p1 44 (by decide) (by decide) (by decide), q4]; exact t2
  · simp [upd2, cpy2]
    rw [p3, q1 5 (by decide) (by decide) (by decide)]
    have t3' : M 5 3 = (nc : Int) := t3
    rw [t3']; omega
  · simp [upd2, cpy2]
    rw [p4, q1 5 (by decide) (by decide) (by decide)]; exact t4
  · simp [upd2, cpy2]
    rw [p1 45 (by decide) (by decide) (by decide), q5 r (by omega)]; exact (rB r hr).1
  · simp [upd2, cpy2]
    rw [p1 46 (by decide) (by decide) (by decide), q6 _ (by omega)]; exact (rB r hr).2.1 c hc'
  · simp [upd2, cpy2]
    rw [p1 46 (by decide) (by decide) (by decide), q6 _ (by omega)]; exact (rB r hr).2.2
  · simp [upd2, cpy2]
    rw [p5 r (by omega), q1 6 (by decide) (by decide) (by decide)]; exact (rC r hr).1
  · simp [upd2, cpy2]
    rw [p6 _ (by omega), q1 7 (by decide) (by decide) (by decide)]; exact (rC r hr).2.1 c hc'
  · simp [upd2, cpy2]
    rw [p6 _ (by omega), q1 7 (by decide) (by decide) (by decide)]; exact (rC r hr).2.2

theorem m_cpT_2_44 (M : Me) (h : Ml) : Wp zS0 tX6_copyFrom none 0 [zr 2, zr 44] [] M h (fun v M' h' => v = none ∧ h' = h ∧ (∀ k, k ≠ 2 → k ≠ 3 → k ≠ 4 → M' k = M k) ∧ M' 2 0 = M 2 0 ∧ M' 2 3 = min (M 44 3) 12 ∧ M' 2 4 = M 44 4 ∧ (∀ r, r < 12 → M' 3 r = M 45 r) ∧ ∀ i, i < 96 → M' 4 i = M 46 i) := by
  refine Wp.g1 rfl ?_
  refine Wp.acp rfl rfl rfl 0 0 96 rfl rfl (by decide) (by decide) (by decide) ?_
  refine Wp.g1 rfl ?_
  refine Wp.acp rfl rfl rfl 0 0 12 rfl rfl (by decide) (by decide) (by decide) ?_
  refine Wp.g1 rfl ?_
  refine Wp.re rfl ⟨rfl, rfl, fun k g1 g2 g3 => ?_, ?_, ?_, ?_, fun r hr => ?_, fun i hi => ?_⟩
  · funext j
    simp [upd2, cpy2, g1, g2, g3]
  · simp [upd2, cpy2]
  · simp [upd2, cpy2]
  · simp [upd2, cpy2]
  · simp [upd2, cpy2, hr]
  · simp [upd2, cpy2, hi]

theorem m_cpT_5_47 (M : Me) (h : Ml) : Wp zS0 tX6_copyFrom none 0 [zr 5, zr 47] [] M h (fun v M' h' => v = none ∧ h' = h ∧ (∀ k, k ≠ 5 → k ≠ 6 → k ≠ 7 → M' k = M k) ∧ M' 5 0 = M 5 0 ∧ M' 5 3 = min (M 47 3) 10 ∧ M' 5 4 = M 47 4 ∧ (∀ r, r < 10 → M' 6 r = M 48 r) ∧ ∀ i, i < 90 → M' 7 i = M 49 i) := by
  refine Wp.g1 rfl ?_
  refine Wp.acp rfl rfl rfl 0 0 90 rfl rfl (by decide) (by decide) (by decide) ?_
  refine Wp.g1 rfl ?_
  refine Wp.acp rfl rfl rfl 0 0 10 rfl rfl (by decide) (by decide) (by decide) ?_
  refine Wp.g1 rfl ?_
  refine Wp.re rfl ⟨rfl, rfl, fun k g1 g2 g3 => ?_, ?_, ?_, ?_, fun r hr => ?_, fun i hi => ?_⟩
  · funext j
    simp [upd2, cpy2, g1, g2, g3]
  · simp [upd2, cpy2]
  · simp [upd2, cpy2]
  · simp [upd2, cpy2]
  · simp [upd2, cpy2, hr]
  · simp [upd2, cpy2, hi]

theorem m_cpO_1_43 {V : Nat → Int} {nb nc : Nat} (M : Me) (h : Ml) (hR : OfRel M 43 V nb nc) (hb : nb ≤ 12) (hc : nc ≤ 10) : Wp zS0 tX3_copyFrom none 0 [zr 1, zr 43] [] M h (fun v M' h' => v = none ∧ h' = h ∧ (∀ k, k < 1 ∨ 9 ≤ k → M' k = M k) ∧ M' 2 0 = M 2 0 ∧ M' 5 0 = M 5 0 ∧ OfRel M' 1 V nb nc) := by
  obtain ⟨⟨r0, r1, r2, r3, r4, r5, r6, r7⟩, rw6, ⟨t1, t2, t3, t4⟩, rB, rC⟩ := hR
  refine Wp.g1 rfl ?_
  refine Wp.call rfl (m_cpT_2_44 M h) (fun v M1 h1 q => ?_)
  obtain ⟨rfl, rfl, q1, q2, q3, q4, q5, q6⟩ := q
  refine Wp.g1 rfl ?_
  refine Wp.call rfl (m_cpT_5_47 M1 h1) (fun v M2 h2 q => ?_)
  obtain ⟨rfl, rfl, p1, p2, p3, p4, p5, p6⟩ := q
  refine Wp.g1 rfl ?_
  refine Wp.acp rfl rfl rfl 0 0 6 rfl rfl (by decide) (by decide) (by decide) ?_
  refine Wp.g1 rfl ?_
  have eb : ∀ j, M2 43 j = M 43 j := fun j => by rw [p1 43 (by decide) (by decide) (by decide), q1 43 (by decide) (by decide) (by decide)]
  have e7 : ∀ j, M2 50 j = M 50 j := fun j => by rw [p1 50 (by decide) (by decide) (by decide), q1 50 (by decide) (by decide) (by decide)]
  refine Wp.re rfl ⟨rfl, rfl, fun k g => ?_, ?_, ?_, ⟨⟨?_, ?_, ?_, ?_, ?_, ?_, ?_, ?_⟩, fun i hi => ?_, ⟨?_, ?_, ?_, ?_⟩, fun r hr => ⟨?_, fun c hc' => ?_, ?_⟩, fun r hr => ⟨?_, fun c hc' => ?_, ?_⟩⟩⟩
  · have n0 : k ≠ 1 := by omega
    have n7 : k ≠ 8 := by omega
    have : M2 k = M k := (p1 k (by omega) (by omega) (by omega)).trans (q1 k (by omega) (by omega) (by omega))
    rw [← this]
    funext j
    simp [upd2, cpy2, n0, n7]
  · simp [upd2, cpy2]
    rw [p1 2 (by decide) (by decide) (by decide)]; exact q2
  · simp [upd2, cpy2]
    rw [p2, q1 5 (by decide) (by decide) (by decide)]
  · simp [upd2, cpy2, eb]; exact r0
  · simp [upd2, cpy2, eb]; exact r1
  · simp [upd2, cpy2, eb]; exact r2
  · simp [upd2, cpy2, eb]; exact r3
  · simp [upd2, cpy2, eb]; exact r4
  · simp [upd2, cpy2, eb]; exact r5
  · simp [upd2, cpy2, eb]; exact r6
  · simp [upd2, cpy2, eb]; exact r7
  · simp [upd2, cpy2, e7, hi]; exact rw6 i hi
  · simp [upd2, cpy2]
    rw [p1 2 (by decide) (by decide) (by decide), q3]
    have t1' : M 44 3 = (nb : Int) := t1
    rw [t1']; omega
  · simp [upd2, cpy2]
    rw [p1 2 (by decide) (by decide) (by decide), q4]; exact t2
  · simp [upd2, cpy2]
    rw [p3, q1 47 (by decide) (by decide) (by decide)]
    have t3' : M 47 3 = (nc : Int) := t3
    rw [t3']; omega
  · simp [upd2, cpy2]
    rw [p4, q1 47 (by decide) (by decide) (by decide)]; exact t4
  · simp [upd2, cpy2]
    rw [p1 3 (by decide) (by decide) (by decide), q5 r (by omega)]; exact (rB r hr).1
  · simp [upd2, cpy2]
    rw [p1 4 (by decide) (by decide) (by decide), q6 _ (by omega)]; exact (rB r hr).2.1 c hc'
  · simp [upd2, cpy2]
    rw [p1 4 (by decide) (by decide) (by decide), q6 _ (by omega)]; exact (rB r hr).2.2
  · simp [upd2, cpy2]
    rw [p5 r (by omega), q1 48 (by decide) (by decide) (by decide)]; exact (rC r hr).1
  · simp [upd2, cpy2]
    rw [p6 _ (by omega), q1 49 (by decide) (by decide) (by decide)]; exact (rC r hr).2.1 c hc'
  · simp [upd2, cpy2]
    rw [p6 _ (by omega), q1 49 (by decide) (by decide) (by decide)]; exact (rC r hr).2.2

theorem m_cpT_52_2 (M : Me) (h : Ml) : Wp zS0 tX6_copyFrom none 0 [zr 52, zr 2] [] M h (fun v M' h' => v = none ∧ h' = h ∧ (∀ k, k ≠ 52 → k ≠ 53 → k ≠ 54 → M' k = M k) ∧ M' 52 0 = M 52 0 ∧ M' 52 3 = min (M 2 3) 12 ∧ M' 52 4 = M 2 4 ∧ (∀ r, r < 12 → M' 53 r = M 3 r) ∧ ∀ i, i < 96 → M' 54 i = M 4 i) := by
  refine Wp.g1 rfl ?_
  refine Wp.acp rfl rfl rfl 0 0 96 rfl rfl (by decide) (by decide) (by decide) ?_
  refine Wp.g1 rfl ?_
  refine Wp.acp rfl rfl rfl 0 0 12 rfl rfl (by decide) (by decide) (by decide) ?_
  refine Wp.g1 rfl ?_
  refine Wp.re rfl ⟨rfl, rfl, fun k g1 g2 g3 => ?_, ?_, ?_, ?_, fun r hr => ?_, fun i hi => ?_⟩
  · funext j
    simp [upd2, cpy2, g1, g2, g3]
  · simp [upd2, cpy2]
  · simp [upd2, cpy2]
  · simp [upd2, cpy2]
  · simp [upd2, cpy2, hr]
  · simp [upd2, cpy2, hi]

theorem m_cpT_55_5 (M : Me) (h : Ml) : Wp zS0 tX6_copyFrom none 0 [zr 55, zr 5] [] M h (fun v M' h' => v = none ∧ h' = h ∧ (∀ k, k ≠ 55 → k ≠ 56 → k ≠ 57 → M' k = M k) ∧ M' 55 0 = M 55 0 ∧ M' 55 3 = min (M 5 3) 10 ∧ M' 55 4 = M 5 4 ∧ (∀ r, r < 10 → M' 56 r = M 6 r) ∧ ∀ i, i < 90 → M' 57 i = M 7 i) := by
  refine Wp.g1 rfl ?_
  refine Wp.acp rfl rfl rfl 0 0 90 rfl rfl (by decide) (by decide) (by decide) ?_
  refine Wp.g1 rfl ?_
  refine Wp.acp rfl rfl rfl 0 0 10 rfl rfl (by decide) (by decide) (by decide) ?_
  refine Wp.g1 rfl ?_
  refine Wp.re rfl ⟨rfl, rfl, fun k g1 g2 g3 => ?_, ?_, ?_, ?_, fun r hr => ?_, fun i hi => ?_⟩
  · funext j
    simp [upd2, cpy2, g1, g2, g3]
  · simp [upd2, cpy2]
  · simp [upd2, cpy2]
  · simp [upd2, cpy2]
  · simp [upd2, cpy2, hr]
  · simp [upd2, cpy2, hi]

theorem m_cpO_51_1 {V : Nat → Int} {nb nc : Nat} (M : Me) (h : Ml) (hR : OfRel M 1 V nb nc) (hb : nb ≤ 12) (hc : nc ≤ 10) : Wp zS0 tX3_copyFrom none 0 [zr 51, zr 1] [] M h (fun v M' h' => v = none ∧ h' = h ∧ (∀ k, k < 51 ∨ 59 ≤ k → M' k = M k) ∧ M' 52 0 = M 52 0 ∧ M' 55 0 = M 55 0 ∧ OfRel M' 51 V nb nc) := by
  obtain ⟨⟨r0, r1, r2, r3, r4, r5, r6, r7⟩, rw6, ⟨t1, t2, t3, t4⟩, rB, rC⟩ := hR
  refine Wp.g1 rfl ?_
  refine Wp.call rfl (m_cpT_52_2 M h) (fun v M1 h1 q => ?_)
  obtain ⟨rfl, rfl, q1, q2, q3, q4, q5, q6⟩ := q
  refine Wp.g1 rfl ?_
  refine Wp.call rfl (m_cpT_55_5 M1 h1) (fun v M2 h2 q => ?_)
  obtain ⟨rfl, rfl, p1, p2, p3, p4, p5, p6⟩ := q
  refine Wp.g1 rfl ?_
  refine Wp.acp rfl rfl rfl 0 0 6 rfl rfl (by decide) (by decide) (by decide) ?_
  refine Wp.g1 rfl ?_
  have eb : ∀ j, M2 1 j = M 1 j := fun j => by rw [p1 1 (by decide) (by decide) (by decide), q1 1 (by decide) (by decide) (by decide)]
  have e7 : ∀ j, M2 8 j = M 8 j := fun j => by rw [p1 8 (by decide) (by decide) (by decide), q1 8 (by decide) (by decide) (by decide)]
  refine Wp.re rfl ⟨rfl, rfl, fun k g => ?_, ?_, ?_, ⟨⟨?_, ?_, ?_, ?_, ?_, ?_, ?_, ?_⟩, fun i hi => ?_, ⟨?_, ?_, ?_, ?_⟩, fun r hr => ⟨?_, fun c hc' => ?_, ?_⟩, fun r hr => ⟨?_, fun c hc' => ?_, ?_⟩⟩⟩
  · have n0 : k ≠ 51 := by omega
    have n7 : k ≠ 58 := by omega
    have : M2 k = M k := (p1 k (by omega) (by omega) (by omega)).trans (q1 k (by omega) (by omega) (by omega))
    rw [← this]
    funext j
    simp [upd2, cpy2, n0, n7]
  · simp [upd2, cpy2]
    rw [p1 52 (by decide) (by decide) (by decide)]; exact q2
  · simp [upd2, cpy2]
    rw [p2, q1 55 (by decide) (by decide) (by decide)]
  · simp [upd2, cpy2, eb]; exact r0
  · simp [upd2, cpy2, eb]; exact r1
  · simp [upd2, cpy2, eb]; exact r2
  · simp [upd2, cpy2, eb]; exact r3
  · simp [upd2, cpy2, eb]; exact r4
  · simp [upd2, cpy2, eb]; exact r5
  · simp [upd2, cpy2, eb]; exact r6
  · simp [upd2, cpy2, eb]; exact r7
  · simp [upd2, cpy2, e7, hi]; exact rw6 i hi
  · simp [upd2, cpy2]
    rw [p1 52 (by decide) (by decide) (by decide), q3]
    have t1' : M 2 3 = (nb : Int) := t1
    rw [t1']; omega
  · simp [upd2, cpy2]
    rw [p1 52 (by decide) (by decide) (by decide), q4]; exact t2
  · simp [upd2, cpy2]
    rw [p3, q1 5 (by decide) (by decide) (by decide)]
    have t3' : M 5 3 = (nc : Int) := t3
    rw [t3']; omega
  · simp [upd2, cpy2]
    rw [p4, q1 5 (by decide) (by decide) (by decide)]; exact t4
  · simp [upd2, cpy2]
    rw [p1 53 (by decide) (by decide) (by decide), q5 r (by omega)]; exact (rB r hr).1
  · simp [upd2, cpy2]
    rw [p1 54 (by decide) (by decide) (by decide), q6 _ (by omega)]; exact (rB r hr).2.1 c hc'
  · simp [upd2, cpy2]
    rw [p1 54 (by decide) (by decide) (by decide), q6 _ (by omega)]; exact (rB r hr).2.2
  · simp [upd2, cpy2]
    rw [p5 r (by omega), q1 6 (by decide) (by decide) (by decide)]; exact (rC r hr).1
  · simp [upd2, cpy2]
    rw [p6 _ (by omega), q1 7 (by decide) (by decide) (by decide)]; exact (rC r hr).2.1 c hc'
  · simp [upd2, cpy2]
    rw [p6 _ (by omega), q1 7 (by decide) (by decide) (by decide)]; exact (rC r hr).2.2

theorem m_cpT_2_52 (M : Me) (h : Ml) : Wp zS0 tX6_copyFrom none 0 [zr 2, zr 52] [] M h (fun v M' h' => v = none ∧ h' = h ∧ (∀ k, k ≠ 2 → k ≠ 3 → k ≠ 4 → M' k = M k) ∧ M' 2 0 = M 2 0 ∧ M' 2 3 = min (M 52 3) 12 ∧ M' 2 4 = M 52 4 ∧ (∀ r, r < 12 → M' 3 r = M 53 r) ∧ ∀ i, i < 96 → M' 4 i = M 54 i) := by
  refine Wp.g1 rfl ?_
  refine Wp.acp rfl rfl rfl 0 0 96 rfl rfl (by decide) (by decide) (by decide) ?_
  refine Wp.g1 rfl ?_
  refine Wp.acp rfl rfl rfl 0 0 12 rfl rfl (by decide) (by decide) (by decide) ?_
  refine Wp.g1 rfl ?_
  refine Wp.re rfl ⟨rfl, rfl, fun k g1 g2 g3 => ?_, ?_, ?_, ?_, fun r hr => ?_, fun i hi => ?_⟩
  · funext j
    simp [upd2, cpy2, g1, g2, g3]
  · simp [upd2, cpy2]
  · simp [upd2, cpy2]
  · simp [upd2, cpy2]
  · simp [upd2, cpy2, hr]
  · simp [upd2, cpy2, hi]

theorem m_cpT_5_55 (M : Me) (h : Ml) : Wp zS0 tX6_copyFrom none 0 [zr 5, zr 55] [] M h (fun v M' h' => v = none ∧ h' = h ∧ (∀ k, k ≠ 5 → k ≠ 6 → k ≠ 7 → M' k = M k) ∧ M' 5 0 = M 5 0 ∧ M' 5 3 = min (M 55 3) 10 ∧ M' 5 4 = M 55 4 ∧ (∀ r, r < 10 → M' 6 r = M 56 r) ∧ ∀ i, i < 90 → M' 7 i = M 57 i) := by
  refine Wp.g1 rfl ?_
  refine Wp.acp rfl rfl rfl 0 0 90 rfl rfl (by decide) (by decide) (by decide) ?_
  refine Wp.g1 rfl ?_
  refine Wp.acp rfl rfl rfl 0 0 10 rfl rfl (by decide) (by decide) (by decide) ?_
  refine Wp.g1 rfl ?_
  refine Wp.re rfl ⟨rfl, rfl, fun k g1 g2 g3 => ?_, ?_, ?_, ?_, fun r hr => ?_, fun i hi => ?_⟩
  · funext j
    simp [upd2, cpy2, g1, g2, g3]
  · simp [upd2, cpy2]
  · simp [upd2, cpy2]
  · simp [upd2, cpy2]
  · simp [upd2, cpy2, hr]
  · simp [upd2, cpy2, hi]

theorem m_cpO_1_51 {V : Nat → Int} {nb nc : Nat} (M : Me) (h : Ml) (hR : OfRel M 51 V nb nc) (hb : nb ≤ 12) (hc : nc ≤ 10) : Wp zS0 tX3_copyFrom none 0 [zr 1, zr 51] [] M h (fun v M' h' => v = none ∧ h' = h ∧ (∀ k, k < 1 ∨ 9 ≤ k → M' k = M k) ∧ M' 2 0 = M 2 0 ∧ M' 5 0 = M 5 0 ∧ OfRel M' 1 V nb nc) := by
  obtain ⟨⟨r0, r1, r2, r3, r4, r5, r6, r7⟩, rw6, ⟨t1, t2, t3, t4⟩, rB, rC⟩ := hR
  refine Wp.g1 rfl ?_
  refine Wp.call rfl (m_cpT_2_52 M h) (fun v M1 h1 q => ?_)
  obtain ⟨rfl, rfl, q1, q2, q3, q4, q5, q6⟩ := q
  refine Wp.g1 rfl ?_
  refine Wp.call rfl (m_cpT_5_55 M1 h1) (fun v M2 h2 q => ?_)
  obtain ⟨rfl, rfl, p1, p2, p3, p4, p5, p6⟩ := q
  refine Wp.g1 rfl ?_
  refine Wp.acp rfl rfl rfl 0 0 6 rfl rfl (by decide) (by decide) (by decide) ?_
  refine Wp.g1 rfl ?_
  have eb : ∀ j, M2 51 j = M 51 j := fun j => by rw [p1 51 (by decide) (by decide) (by decide), q1 51 (by decide) (by decide) (by decide)]
  have e7 : ∀ j, M2 58 j = M 58 j := fun j => by rw [p1 58 (by decide) (by decide) (by decide), q1 58 (by decide) (by decide) (by decide)]
  refine Wp.re rfl ⟨rfl, rfl, fun k g => ?_, ?_, ?_, ⟨⟨?_, ?_, ?_, ?_, ?_, ?_, ?_, ?_⟩, fun i hi => ?_, ⟨?_, ?_, ?_, ?_⟩, fun r hr => ⟨?_, fun c hc' => ?_, ?_⟩, fun r hr => ⟨?_, fun c hc' => ?_, ?_⟩⟩⟩
  · have n0 : k ≠ 1 := by omega
    have n7 : k ≠ 8 := by omega
    have : M2 k = M k := (p1 k (by omega) (by omega) (by omega)).trans (q1 k (by omega) (by omega) (by omega))
    rw [← this]
    funext j
    simp [upd2, cpy2, n0, n7]
  · simp [upd2, cpy2]
    rw [p1 2 (by decide) (by decide) (by decide)]; exact q2
  · simp [upd2, cpy2]
    rw [p2, q1 5 (by decide) (by decide) (by decide)]
  · simp [upd2, cpy2, eb]; exact r0
  · simp [upd2, cpy2, eb]; exact r1
  · simp [upd2, cpy2, eb]; exact r2
  · simp [upd2, cpy2, eb]; exact r3
  · simp [upd2, cpy2, eb]; exact r4
  · simp [upd2, cpy2, eb]; exact r5
  · simp [upd2, cpy2, eb]; exact r6
  · simp [upd2, cpy2, eb]; exact r7
  · simp [upd2, cpy2, e7, hi]; exact rw6 i hi
  · simp [upd2, cpy2]
    rw [p1 2 (by decide) (by decide) (by decide), q3]
    have t1' : M 52 3 = (nb : Int) := t1
    rw [t1']; omega
  · simp [upd2, cpy2]
    rw [p1 2 (by decide) (by decide) (by decide), q4]; exact t2
  · simp [upd2, cpy2]
    rw [p3, q1 55 (by decide) (by decide) (by decide)]
    have t3' : M 55 3 = (nc : Int) := t3
    rw [t3']; omega
  · simp [upd2, cpy2]
    rw [p4, q1 55 (by decide) (by decide) (by decide)]; exact t4
  · simp [upd2, cpy2]
    rw [p1 3 (by decide) (by decide) (by decide), q5 r (by omega)]; exact (rB r hr).1
  · simp [upd2, cpy2]
    rw [p1 4 (by decide) (by decide) (by decide), q6 _ (by omega)]; exact (rB r hr).2.1 c hc'
  · simp [upd2, cpy2]
    rw [p1 4 (by decide) (by decide) (by decide), q6 _ (by omega)]; exact (rB r hr).2.2
  · simp [upd2, cpy2]
    rw [p5 r (by omega), q1 56 (by decide) (by decide) (by decide)]; exact (rC r hr).1
  · simp [upd2, cpy2]
    rw [p6 _ (by omega), q1 57 (by decide) (by decide) (by decide)]; exact (rC r hr).2.1 c hc'
  · simp [upd2, cpy2]
    rw [p6 _ (by omega), q1 57 (by decide) (by decide) (by decide)]; exact (rC r hr).2.2
