/-! the class's best sum: placing -/
theorem HI.kept {M M' : Me} {w : Nat → Nat} (h : HI M w) (hk : ∀ k, k = 64 ∨ k = 66 ∨ k = 67 → M' k = M k) : HI M' w := by
  unfold HI cst gn at h ⊢
  rw [hk 64 (by omega), hk 66 (by omega), hk 67 (by omega)]
  exact h
theorem cst_kept {M M' : Me} (hk : ∀ k, k = 64 ∨ k = 66 ∨ k = 67 → M' k = M k) (c b : Nat) : cst M' c b = cst M c b := by
  unfold cst gn
  rw [hk 64 (by omega), hk 66 (by omega), hk 67 (by omega)]
/-- the columns of a placement handed on: the claim stands among the others -/
theorem HB.hand {M : Me} {h : Ml} {w : Nat → Nat} {c0 r m k : Nat} {bf tm : Nat → Nat} (hB : HB M w c0 r m bf tm) (h0 : 1 ≤ c0 ∧ c0 ≤ 10) (hu : ∀ b, 1 ≤ b → b ≤ 12 → w b ≠ c0) (hk : 1 ≤ k ∧ k ≤ 12 ∧ m.testBit k = false) (hwk : w k = 0) (hr : r ≤ 11) (hF0 : ∀ b, 1 ≤ b → b ≤ 12 → 0 ≤ cst M c0 b) (ht0 : cst M (wz c0 w (bf k)) k = 0) :
    Wp zS0 tX0_handOn none 0 [zr 65, zi k, zn, zn, zn] [] M h (fun v M' h' => v = none ∧ h' = h ∧ (∀ k, k ≠ 68 → M' k = M k) ∧ ∃ w' : Nat → Nat, (∀ j, 1 ≤ j → j ≤ 12 → M' 68 j = (w' j : Int)) ∧ HI M w' ∧ HU M w' 0 ∧ ∀ c, 1 ≤ c → ((∃ b, 1 ≤ b ∧ b ≤ 12 ∧ w' b = c) ↔ ((∃ b, 1 ≤ b ∧ b ≤ 12 ∧ w b = c) ∨ c = c0))) := by
  obtain ⟨f1, f2, f3, f4⟩ := hB.facts h0 hu
  obtain ⟨hI, hU, hP, hM, hR, hO, hX, hT, hS⟩ := hB
  obtain ⟨hW, hJ, hF, hTt, hN, hG⟩ := hI
  have hkS := hS k hk.1 hk.2.1 hk.2.2
  have wz0 : wz c0 w 0 = c0 := rfl
  have wzb : ∀ b, 1 ≤ b → wz c0 w b = w b := fun b b1 => by unfold wz; rw [if_neg (by omega)]
  have main := m_handOn (fun col w' => (col = k ∨ m.testBit col = true) ∧ col ≤ 12 ∧ (∀ j, j ≤ 12 → m.testBit j = true → (if j = k then r + 1 else tm j) ≤ (if col = k then r + 1 else tm col) → w' j = wz c0 w j) ∧
      (∀ b, 1 ≤ b → b ≤ 12 → w' b ≤ 10) ∧ (∀ b b', 1 ≤ b → b ≤ 12 → 1 ≤ b' → b' ≤ 12 → b ≠ col → b' ≠ col → w' b = w' b' → w' b ≠ 0 → b = b') ∧
      (∀ b, 1 ≤ b → b ≤ 12 → b ≠ col → w' b ≠ 0 → cst M (w' b) b = 0) ∧ (∀ b, 1 ≤ b → b ≤ 12 → b ≠ col → w' b = 0 → M 67 b = 0) ∧
      ∀ c, 1 ≤ c → ((∃ b, 1 ≤ b ∧ b ≤ 12 ∧ b ≠ col ∧ w' b = c) ↔ ((∃ b, 1 ≤ b ∧ b ≤ 12 ∧ w b = c) ∨ (col = 0 ∧ c = c0))))
    bf (fun j => if j = k then r + 1 else tm j) (wz c0 w) k M h hO ?_ ?_ ?_
  · refine main.imp (fun v M' h' q => ?_)
    obtain ⟨q1, q2, q3, w', q4, -, -, -, q5, q6, q7, q8, q9⟩ := q
    have q9' : ∀ c, 1 ≤ c → ((∃ b, 1 ≤ b ∧ b ≤ 12 ∧ w' b = c) ↔ ((∃ b, 1 ≤ b ∧ b ≤ 12 ∧ w b = c) ∨ c = c0)) := fun c hc => by
      have := q9 c hc
      constructor
      · rintro ⟨b, b1, b2, b3⟩
        rcases this.mp ⟨b, b1, b2, by omega, b3⟩ with g | g
        · exact Or.inl g
        · exact Or.inr g.2
      · rintro (g | g)
        · obtain ⟨b, b1, b2, -, b3⟩ := this.mpr (Or.inl g)
          exact ⟨b, b1, b2, b3⟩
        · obtain ⟨b, b1, b2, -, b3⟩ := this.mpr (Or.inr ⟨rfl, g⟩)
          exact ⟨b, b1, b2, b3⟩
    refine ⟨q1, q2, q3, w', fun j j1 j2 => q4 j j2, ⟨q5, fun b b' b1 b2 b3 b4 => q6 b b' b1 b2 b3 b4 (by omega) (by omega), fun b0 b g1 g2 b1 b2 g3 => ?_, fun b b1 b2 => q7 b b1 b2 (by omega), fun b b1 b2 => ⟨(hN b b1 b2).1, q8 b b1 b2 (by omega)⟩, hG⟩, ⟨hU.1, fun c c1 c2 c3 c4 => ?_⟩, q9'⟩
    · rcases (q9' (w' b0) (by omega)).mp ⟨b0, g1, g2, rfl⟩ with ⟨x, x1, x2, x3⟩ | g
      · rw [← x3]
        exact hF x b x1 x2 b1 b2 (by omega)
      · rw [g]; exact hF0 b b1 b2
    · refine hU.2 c c1 c2 (fun e => ?_) (fun b b1 b2 e => ?_)
      · obtain ⟨b, b1, b2, b3⟩ := (q9' c c1).mpr (Or.inr e)
        exact c4 b b1 b2 b3
      · obtain ⟨x, x1, x2, x3⟩ := (q9' c c1).mpr (Or.inl ⟨b, b1, b2, e⟩)
        exact c4 x x1 x2 x3
  · refine ⟨Or.inl rfl, hk.2.1, fun j _ _ _ => rfl, fun b b1 b2 => by rw [wzb b b1]; exact hW b b1 b2, fun b b' b1 b2 b3 b4 _ _ => by rw [wzb b b1, wzb b' b3]; exact hJ b b' b1 b2 b3 b4, fun b b1 b2 _ => by rw [wzb b b1]; exact hTt b b1 b2, fun b b1 b2 _ => by rw [wzb b b1]; exact (hN b b1 b2).2, fun c hc => ?_⟩
    constructor
    · rintro ⟨b, b1, b2, -, b3⟩
      rw [wzb b b1] at b3
      exact Or.inl ⟨b, b1, b2, b3⟩
    · rintro (⟨b, b1, b2, b3⟩ | ⟨g, -⟩)
      · exact ⟨b, b1, b2, fun e => by rw [e, hwk] at b3; omega, by rw [wzb b b1]; exact b3⟩
      · omega
  · show (if k = k then r + 1 else tm k) ≤ 12
    rw [if_pos rfl]; omega
  · rintro col w' ⟨p1, p2, p3, p4, p5, p6, p7, p8⟩ hc1
    -- the column ahead
    have ahead : bf col ≤ 12 ∧ M 69 col = (bf col : Int) ∧ m.testBit (bf col) = true ∧ (if bf col = k then r + 1 else tm (bf col)) < (if col = k then r + 1 else tm col) ∧ cst M (wz c0 w (bf col)) col = 0 := by
      have nek : ∀ j, m.testBit j = true → j ≠ k := fun j hj e => by rw [e, hk.2.2] at hj; cases hj
      by_cases ek : col = k
      · subst ek
        rw [if_pos rfl, if_neg (nek _ hkS.2.1)]
        exact ⟨hkS.1, hkS.2.2.1, hkS.2.1, by have := hT _ hkS.1 hkS.2.1; omega, ht0⟩
      · have hb : m.testBit col = true := p1.resolve_left ek
        obtain ⟨x1, x2, x3, x4, x5, x6⟩ := hX col hc1 p2 hb
        rw [if_neg ek, if_neg (nek _ x3)]
        exact ⟨x2, x4, x3, x6, x5⟩
    obtain ⟨y1, y2, y3, y4, y5⟩ := ahead
    have hne : bf col ≠ col := fun e => by rw [e] at y4; omega
    have hval : w' (bf col) = wz c0 w (bf col) := p3 _ y1 y3 (by omega)
    have hpos := f1 _ y1 y3
    refine ⟨p2, y1, y2, y4, Or.inr y3, y1, fun j j1 j2 j3 => ?_, fun b b1 b2 => ?_, fun b b' b1 b2 b3 b4 g1 g2 => ?_, fun b b1 b2 g1 => ?_, fun b b1 b2 g1 => ?_, fun c hc => ?_⟩
    · have : j ≠ col := fun e => by rw [e] at j3; omega
      show (if j = col then w' (bf col) else w' j) = _
      rw [if_neg this]
      exact p3 j j1 j2 (by omega)
    · show (if b = col then w' (bf col) else w' b) ≤ 10
      split
      · rw [hval]; exact hpos.2.1
      · exact p4 b b1 b2
    · -- one owner each
      have other : ∀ x, 1 ≤ x → x ≤ 12 → x ≠ col → x ≠ bf col → w' x ≠ w' (bf col) := fun x x1 x2 x3 x4 e => by
        by_cases ez : bf col = 0
        · rw [hval, ez, wz0] at e
          rcases (p8 c0 h0.1).mp ⟨x, x1, x2, x3, e⟩ with ⟨z, z1, z2, z3⟩ | ⟨z, -⟩
          · exact hu z z1 z2 z3
          · omega
        · have := p5 x (bf col) x1 x2 (by omega) y1 x3 hne e (by rw [e, hval]; omega)
          exact x4 this
      show (if b = col then w' (bf col) else w' b) = (if b' = col then w' (bf col) else w' b') → (if b = col then w' (bf col) else w' b) ≠ 0 → b = b'
      by_cases e1 : b = col
      · by_cases e2 : b' = col
        · intro _ _; omega
        · rw [if_pos e1, if_neg e2]
          intro e _
          exact absurd e.symm (other b' b3 b4 e2 g2)
      · by_cases e2 : b' = col
        · rw [if_neg e1, if_pos e2]
          intro e _
          exact absurd e (other b b1 b2 e1 g1)
        · rw [if_neg e1, if_neg e2]
          exact p5 b b' b1 b2 b3 b4 e1 e2
    · show (if b = col then w' (bf col) else w' b) ≠ 0 → cst M (if b = col then w' (bf col) else w' b) b = 0
      by_cases e1 : b = col
      · rw [if_pos e1, e1, hval]
        intro _; exact y5
      · rw [if_neg e1]
        exact p6 b b1 b2 e1
    · show (if b = col then w' (bf col) else w' b) = 0 → M 67 b = 0
      by_cases e1 : b = col
      · rw [if_pos e1, hval]
        intro e; omega
      · rw [if_neg e1]
        exact p7 b b1 b2 e1
    · show (∃ b, 1 ≤ b ∧ b ≤ 12 ∧ b ≠ bf col ∧ (if b = col then w' (bf col) else w' b) = c) ↔ _
      constructor
      · rintro ⟨b, b1, b2, b3, b4⟩
        by_cases e1 : b = col
        · rw [if_pos e1] at b4
          by_cases ez : bf col = 0
          · rw [hval, ez, wz0] at b4
            exact Or.inr ⟨ez, b4.symm⟩
          · rcases (p8 c hc).mp ⟨bf col, by omega, y1, hne, b4⟩ with g | ⟨g, -⟩
            · exact Or.inl g
            · omega
        · rw [if_neg e1] at b4
          rcases (p8 c hc).mp ⟨b, b1, b2, e1, b4⟩ with g | ⟨g, -⟩
          · exact Or.inl g
          · omega
      · rintro (g | ⟨g1, g2⟩)
        · obtain ⟨b, b1, b2, b3, b4⟩ := (p8 c hc).mpr (Or.inl g)
          by_cases e1 : b = bf col
          · exact ⟨col, hc1, p2, fun e => hne e.symm, by rw [if_pos rfl, ← e1]; exact b4⟩
          · exact ⟨b, b1, b2, e1, by rw [if_neg b3]; exact b4⟩
        · exact ⟨col, hc1, p2, fun e => hne e.symm, by rw [if_pos rfl, hval, g1, wz0]; exact g2.symm⟩
/-- another column is reached -/
theorem HB.next {M M' : Me} {w : Nat → Nat} {c0 r m m' k : Nat} {bf tm : Nat → Nat} (hB : HB M w c0 r m bf tm) (hF0 : ∀ b, 1 ≤ b → b ≤ 12 → 0 ≤ cst M c0 b) (hk : 1 ≤ k ∧ k ≤ 12 ∧ m.testBit k = false) (hwk : w k ≠ 0) (ht0 : cst M (wz c0 w (bf k)) k = 0)
    (hm : m' < 2 ^ 13) (hb : ∀ j, m'.testBit j = (m.testBit j || decide (k = j))) (e65 : M' 65 5 = (m' : Int)) (e1 : ∀ i, i ≠ 65 → i ≠ 69 → i ≠ 70 → M' i = M i)
    (hx : ∀ b, 1 ≤ b → b ≤ 12 → (m'.testBit b = false ∧ cst M (w k) b < M 70 b ∧ M' 70 b = cst M (w k) b ∧ M' 69 b = (k : Int)) ∨ (¬ (m'.testBit b = false ∧ cst M (w k) b < M 70 b) ∧ M' 70 b = M 70 b ∧ M' 69 b = M 69 b)) :
    ∃ bf' tm', HB M' w c0 (r + 1) m' bf' tm' := by
  obtain ⟨hI, hU, hP, hM, hR, hO, hX, hT, hS⟩ := hB
  have hkS := hS k hk.1 hk.2.1 hk.2.2
  have kc : ∀ c b, cst M' c b = cst M c b := cst_kept (fun i hi => e1 i (by omega) (by omega) (by omega))
  have bT : ∀ j, m.testBit j = true → m'.testBit j = true := fun j hj => by rw [hb, hj]; rfl
  have bF : ∀ j, m'.testBit j = true → j ≠ k → m.testBit j = true := fun j hj hne => by
    rw [hb, show decide (k = j) = false from decide_eq_false (fun e => hne e.symm)] at hj
    cases hq : m.testBit j
    · rw [hq] at hj; cases hj
    · rfl
  have bK : m'.testBit k = true := by rw [hb, hk.2.2]; simp
  have bU : ∀ j, m'.testBit j = false → m.testBit j = false ∧ j ≠ k := fun j hj => by
    constructor
    · cases hq : m.testBit j
      · rfl
      · rw [bT j hq] at hj; cases hj
    · intro e; rw [e, bK] at hj; cases hj
  have nek : ∀ j, m.testBit j = true → j ≠ k := fun j hj e => by rw [e, hk.2.2] at hj; cases hj
  have wzk : wz c0 w k = w k := by unfold wz; rw [if_neg (by omega)]
  refine ⟨fun b => if m'.testBit b = false ∧ cst M (w k) b < M 70 b then k else bf b, fun j => if j = k then r + 1 else tm j, hI.kept (fun i hi => e1 i (by omega) (by omega) (by omega)), ?_, ?_, ⟨hm, bT 0 hM.2.1, e65, ?_⟩, ⟨fun e => by omega, fun _ b b1 b2 => by rw [kc]; exact hF0 b b1 b2⟩, fun j hj => by rw [e1 68 (by decide) (by decide) (by decide)]; exact hO j hj, fun j j1 j2 j3 => ?_, fun j j1 j2 => ?_, fun b b1 b2 b3 => ?_⟩
  · unfold HU
    rw [e1 66 (by decide) (by decide) (by decide)]
    exact hU
  · rw [e1 66 (by decide) (by decide) (by decide)]
    exact hP
  · rw [cntm_add ⟨hk.1, hk.2.1⟩ hk.2.2 hb, hM.2.2.2]
    omega
  · have e69 : M' 69 j = M 69 j := by
      rcases hx j j1 j2 with ⟨g, -⟩ | ⟨-, -, g⟩
      · rw [j3] at g; cases g
      · exact g
    have ebf : (if m'.testBit j = false ∧ cst M (w k) j < M 70 j then k else bf j) = bf j := if_neg (fun q => by rw [j3] at q; cases q.1)
    show w j ≠ 0 ∧ (if m'.testBit j = false ∧ cst M (w k) j < M 70 j then k else bf j) ≤ 12 ∧ m'.testBit (if m'.testBit j = false ∧ cst M (w k) j < M 70 j then k else bf j) = true ∧ M' 69 j = ((if m'.testBit j = false ∧ cst M (w k) j < M 70 j then k else bf j : Nat) : Int) ∧ cst M' (wz c0 w (if m'.testBit j = false ∧ cst M (w k) j < M 70 j then k else bf j)) j = 0 ∧ (if (if m'.testBit j = false ∧ cst M (w k) j < M 70 j then k else bf j) = k then r + 1 else tm (if m'.testBit j = false ∧ cst M (w k) j < M 70 j then k else bf j)) < (if j = k then r + 1 else tm j)
    rw [ebf, kc, e69]
    by_cases ek : j = k
    · subst ek
      rw [if_pos rfl, if_neg (nek _ hkS.2.1)]
      exact ⟨hwk, hkS.1, bT _ hkS.2.1, hkS.2.2.1, ht0, by have := hT _ hkS.1 hkS.2.1; omega⟩
    · obtain ⟨x1, x2, x3, x4, x5, x6⟩ := hX j j1 j2 (bF j j3 ek)
      rw [if_neg ek, if_neg (nek _ x3)]
      exact ⟨x1, x2, bT _ x3, x4, x5, x6⟩
  · show (if j = k then r + 1 else tm j) ≤ r + 1
    split
    · exact Nat.le_refl _
    · next ek =>
      have := hT j j1 (bF j j2 ek)
      omega
  · obtain ⟨u1, u2⟩ := bU b b3
    obtain ⟨x1, x2, x3, x4, x5⟩ := hS b b1 b2 u1
    show (if m'.testBit b = false ∧ cst M (w k) b < M 70 b then k else bf b) ≤ 12 ∧ m'.testBit (if m'.testBit b = false ∧ cst M (w k) b < M 70 b then k else bf b) = true ∧ M' 69 b = ((if m'.testBit b = false ∧ cst M (w k) b < M 70 b then k else bf b : Nat) : Int) ∧ M' 70 b = cst M' (wz c0 w (if m'.testBit b = false ∧ cst M (w k) b < M 70 b then k else bf b)) b ∧ ∀ j, j ≤ 12 → m'.testBit j = true → M' 70 b ≤ cst M' (wz c0 w j) b
    rcases hx b b1 b2 with ⟨g1, g2, g3, g4⟩ | ⟨g1, g2, g3⟩
    · rw [if_pos ⟨g1, g2⟩, kc, wzk, g3, g4]
      refine ⟨hk.2.1, bK, rfl, rfl, fun j j1 j2 => ?_⟩
      rw [kc]
      by_cases ek : j = k
      · rw [ek, wzk]; exact Int.le_refl _
      · have := x5 j j1 (bF j j2 ek)
        omega
    · rw [if_neg g1, kc, g2, g3]
      refine ⟨x1, bT _ x2, x3, x4, fun j j1 j2 => ?_⟩
      rw [kc]
      by_cases ek : j = k
      · rw [ek, wzk]
        have : ¬ cst M (w k) b < M 70 b := fun q => g1 ⟨b3, q⟩
        omega
      · exact x5 j j1 (bF j j2 ek)
