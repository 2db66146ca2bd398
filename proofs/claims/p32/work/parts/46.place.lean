/-! the class's best sum: a claim is placed -/
def wz (c0 : Nat) (w : Nat → Nat) : Nat → Nat := fun j => if j = 0 then c0 else w j
def cntm (m : Nat) : Int := sumI (fun i => if m.testBit (i + 1) then 1 else 0) 12
theorem cntm_add {m m' k : Nat} (hk : 1 ≤ k ∧ k ≤ 12) (h0 : m.testBit k = false) (hb : ∀ j, m'.testBit j = (m.testBit j || decide (k = j))) : cntm m' = cntm m + 1 := by
  have e : cntm m' = sumI (fun i => (if m.testBit (i + 1) then 1 else 0) + (if i = k - 1 then 1 else 0)) 12 := sumI_congr 12 (fun i hi => by
    rw [hb]
    by_cases g : i = k - 1
    · have : k = i + 1 := by omega
      subst this
      rw [h0, if_pos g]
      simp
    · rw [if_neg g, show decide (k = i + 1) = false from decide_eq_false (by omega)]
      simp)
  rw [e, sumI_add, sumI_one (f := fun i => if i = k - 1 then (1 : Int) else 0) (k := k - 1) 12 (by omega) (fun j _ hne => if_neg hne), if_pos rfl]
  rfl
theorem cntm_le {m f : Nat} (hf : 1 ≤ f ∧ f ≤ 12) (h0 : m.testBit f = false) : cntm m ≤ 11 := by
  have e1 := sumI_le (f := fun i => (if m.testBit (i + 1) then 1 else 0) + (if i = f - 1 then 1 else 0)) (g := fun _ => (1 : Int)) 12 (fun j hj => by
    by_cases g : j = f - 1
    · have : f = j + 1 := by omega
      subst this
      show (if m.testBit (j + 1) then (1 : Int) else 0) + _ ≤ 1
      rw [h0, if_pos g]
      decide
    · rw [if_neg g]
      cases m.testBit (j + 1) <;> decide)
  rw [sumI_add, sumI_one (f := fun i => if i = f - 1 then (1 : Int) else 0) (k := f - 1) 12 (by omega) (fun j _ hne => if_neg hne), if_pos rfl, show sumI (fun _ => (1 : Int)) 12 = 12 by decide] at e1
  unfold cntm
  omega
def HU (M : Me) (w : Nat → Nat) (c0 : Nat) : Prop := M 66 0 = 0 ∧ ∀ c, 1 ≤ c → c ≤ 10 → c ≠ c0 → (∀ b, 1 ≤ b → b ≤ 12 → w b ≠ c) → M 66 c = 0
/-- in a placement, with r + 1 columns reached and the slacks of the others known -/
def HB (M : Me) (w : Nat → Nat) (c0 r m : Nat) (bf tm : Nat → Nat) : Prop :=
  HI M w ∧ HU M w c0 ∧ (-9600 ≤ M 66 c0 ∧ M 66 c0 ≤ 0) ∧ (m < 2 ^ 13 ∧ m.testBit 0 = true ∧ M 65 5 = (m : Int) ∧ cntm m = r) ∧
  ((r = 0 → ∀ j, 1 ≤ j → j ≤ 12 → m.testBit j = false) ∧ (1 ≤ r → ∀ b, 1 ≤ b → b ≤ 12 → 0 ≤ cst M c0 b)) ∧ (∀ j, j ≤ 12 → M 68 j = (wz c0 w j : Int)) ∧
  (∀ j, 1 ≤ j → j ≤ 12 → m.testBit j = true → w j ≠ 0 ∧ bf j ≤ 12 ∧ m.testBit (bf j) = true ∧ M 69 j = (bf j : Int) ∧ cst M (wz c0 w (bf j)) j = 0 ∧ tm (bf j) < tm j) ∧
  (∀ j, j ≤ 12 → m.testBit j = true → tm j ≤ r) ∧
  ∀ b, 1 ≤ b → b ≤ 12 → m.testBit b = false → bf b ≤ 12 ∧ m.testBit (bf b) = true ∧ M 69 b = (bf b : Int) ∧ M 70 b = cst M (wz c0 w (bf b)) b ∧ ∀ j, j ≤ 12 → m.testBit j = true → M 70 b ≤ cst M (wz c0 w j) b
theorem HB.facts {M : Me} {w : Nat → Nat} {c0 r m : Nat} {bf tm : Nat → Nat} (hB : HB M w c0 r m bf tm) (h0 : 1 ≤ c0 ∧ c0 ≤ 10) (hu : ∀ b, 1 ≤ b → b ≤ 12 → w b ≠ c0) :
    (∀ j, j ≤ 12 → m.testBit j = true → 1 ≤ wz c0 w j ∧ wz c0 w j ≤ 10 ∧ -9600 ≤ M 66 (wz c0 w j) ∧ M 66 (wz c0 w j) ≤ 0) ∧ (∀ i j, i ≤ 12 → j ≤ 12 → m.testBit i = true → m.testBit j = true → wz c0 w i = wz c0 w j → i = j) ∧ (∀ c, c ≤ 10 → -9600 ≤ M 66 c ∧ M 66 c ≤ 0) ∧ ∀ j b, j ≤ 12 → m.testBit j = true → 1 ≤ b → b ≤ 12 → -9600 ≤ cst M (wz c0 w j) b ∧ cst M (wz c0 w j) b ≤ 19200 := by
  obtain ⟨hI, hU, hP, hM, hR, hO, hX, hT, hS⟩ := hB
  obtain ⟨b1, b2⟩ := hI.bd
  obtain ⟨hW, hJ, hF, hTt, hN, hG⟩ := hI
  have a1 : ∀ j, j ≤ 12 → m.testBit j = true → 1 ≤ wz c0 w j ∧ wz c0 w j ≤ 10 ∧ -9600 ≤ M 66 (wz c0 w j) ∧ M 66 (wz c0 w j) ≤ 0 := fun j j1 j2 => by
    unfold wz
    by_cases e : j = 0
    · rw [if_pos e]; exact ⟨h0.1, h0.2, hP⟩
    · rw [if_neg e]
      have g := (hX j (by omega) j1 j2).1
      have g2 := b2 j (by omega) j1 g
      have g3 := hW j (by omega) j1
      exact ⟨by omega, g3, g2⟩
  refine ⟨a1, fun i j i1 j1 i2 j2 e => ?_, fun c hc => ?_, fun j b j1 j2 c1 c2 => ?_⟩
  · unfold wz at e
    by_cases e1 : i = 0
    · by_cases e2 : j = 0
      · omega
      · rw [if_pos e1, if_neg e2] at e
        exact absurd e.symm (hu j (by omega) j1)
    · by_cases e2 : j = 0
      · rw [if_neg e1, if_pos e2] at e
        exact absurd e (hu i (by omega) i1)
      · rw [if_neg e1, if_neg e2] at e
        exact hJ i j (by omega) i1 (by omega) j1 e (hX i (by omega) i1 i2).1
  · by_cases e0 : c = 0
    · rw [e0, hU.1]; omega
    · by_cases e1 : c = c0
      · rw [e1]; exact hP
      · by_cases e2 : ∀ b, 1 ≤ b → b ≤ 12 → w b ≠ c
        · rw [hU.2 c (by omega) hc e1 e2]; omega
        · have : ∃ b, 1 ≤ b ∧ b ≤ 12 ∧ w b = c := by
            apply Classical.byContradiction
            intro hn
            exact e2 (fun b g1 g2 g3 => hn ⟨b, g1, g2, g3⟩)
          obtain ⟨b, g1, g2, g3⟩ := this
          have := b2 b g1 g2 (by omega)
          rw [g3] at this
          exact this
  · have g1 := a1 j j1 j2
    have g2 := b1 b c1 c2
    have g3 := hG (wz c0 w j) b g1.1 g1.2.1 c1 c2
    unfold cst
    omega
/-- after the prices have moved by the least slack -/
theorem HB.shift {M M' : Me} {w : Nat → Nat} {c0 r m k : Nat} {bf tm : Nat → Nat} (hB : HB M w c0 r m bf tm) (h0 : 1 ≤ c0 ∧ c0 ≤ 10) (hu : ∀ b, 1 ≤ b → b ≤ 12 → w b ≠ c0) (hk : 1 ≤ k ∧ k ≤ 12 ∧ m.testBit k = false) (hmin : ∀ b, 1 ≤ b → b ≤ 12 → m.testBit b = false → M 70 k ≤ M 70 b)
    (e1 : ∀ i, i ≠ 66 → i ≠ 67 → i ≠ 70 → M' i = M i) (e70 : ∀ b, 1 ≤ b → b ≤ 12 → M' 70 b = if m.testBit b then M 70 b else M 70 b - M 70 k) (e67 : ∀ b, 1 ≤ b → b ≤ 12 → M' 67 b = if m.testBit b then M 67 b - M 70 k else M 67 b)
    (e66 : ∀ j, j ≤ 12 → m.testBit j = true → M' 66 (wz c0 w j) = M 66 (wz c0 w j) + M 70 k) (e66' : ∀ c, c ≤ 10 → (∀ j, j ≤ 12 → m.testBit j = true → wz c0 w j ≠ c) → M' 66 c = M 66 c) :
    HB M' w c0 r m bf tm ∧ (∀ b, 1 ≤ b → b ≤ 12 → 0 ≤ cst M' c0 b) ∧ cst M' (wz c0 w (bf k)) k = 0 := by
  obtain ⟨f1, f2, f3, f4⟩ := hB.facts h0 hu
  obtain ⟨hI, hU, hP, hM, hR, hO, hX, hT, hS⟩ := hB
  obtain ⟨bd1, bd2⟩ := hI.bd
  obtain ⟨hW, hJ, hF, hTt, hN, hG⟩ := hI
  obtain ⟨f, ff1, ff2, ff3⟩ := own_free hW hJ
  have hff : m.testBit f = false := by
    cases hr : m.testBit f
    · rfl
    · exact absurd ff3 (hX f ff1 ff2 hr).1
  have hkS := hS k hk.1 hk.2.1 hk.2.2
  have gne : ∀ c b, gn M' c b = gn M c b := fun c b => by unfold gn; rw [e1 64 (by decide) (by decide) (by decide)]
  -- the change is not below 0 once a bag is reached
  have hch : 1 ≤ r → 0 ≤ M 70 k := fun hr => by
    rw [hkS.2.2.2.1]
    unfold wz
    by_cases e : bf k = 0
    · rw [if_pos e]; exact hR.2 hr k hk.1 hk.2.1
    · rw [if_neg e]; exact hF (bf k) k (by omega) hkS.1 hk.1 hk.2.1 (hX _ (by omega) hkS.1 hkS.2.1).1
  have hrb : ∀ b, 1 ≤ b → b ≤ 12 → m.testBit b = true → 1 ≤ r := fun b b1 b2 b3 => by
    by_cases e : r = 0
    · rw [hR.1 e b b1 b2] at b3; cases b3
    · omega
  have cRR : ∀ j b, j ≤ 12 → m.testBit j = true → 1 ≤ b → b ≤ 12 → m.testBit b = true → cst M' (wz c0 w j) b = cst M (wz c0 w j) b := fun j b j1 j2 b1 b2 b3 => by
    unfold cst
    rw [gne, e66 j j1 j2, e67 b b1 b2, if_pos b3]; omega
  have cRU : ∀ j b, j ≤ 12 → m.testBit j = true → 1 ≤ b → b ≤ 12 → m.testBit b = false → cst M' (wz c0 w j) b = cst M (wz c0 w j) b - M 70 k := fun j b j1 j2 b1 b2 b3 => by
    unfold cst
    rw [gne, e66 j j1 j2, e67 b b1 b2, if_neg (by rw [b3]; decide)]; omega
  have cU : ∀ c b, c ≤ 10 → (∀ j, j ≤ 12 → m.testBit j = true → wz c0 w j ≠ c) → 1 ≤ b → b ≤ 12 → cst M' c b = cst M c b + (if m.testBit b then M 70 k else 0) := fun c b c1 c2 b1 b2 => by
    unfold cst
    rw [gne, e66' c c1 c2, e67 b b1 b2]
    cases m.testBit b
    · rw [if_neg (by decide), if_neg (by decide)]; omega
    · rw [if_pos rfl, if_pos rfl]; omega
  have ureach : ∀ b0, 1 ≤ b0 → b0 ≤ 12 → w b0 ≠ 0 → m.testBit b0 = false → ∀ j, j ≤ 12 → m.testBit j = true → wz c0 w j ≠ w b0 := fun b0 g1 g2 g3 g4 j j1 j2 e => by
    unfold wz at e
    by_cases ej : j = 0
    · rw [if_pos ej] at e; exact hu b0 g1 g2 e.symm
    · rw [if_neg ej] at e
      have := hJ b0 j g1 g2 (by omega) j1 e.symm g3
      rw [this, j2] at g4; cases g4
  have wzb : ∀ b, 1 ≤ b → wz c0 w b = w b := fun b b1 => by unfold wz; rw [if_neg (by omega)]
  have wz0 : wz c0 w 0 = c0 := rfl
  have c0pos : ∀ b, 1 ≤ b → b ≤ 12 → 0 ≤ cst M' c0 b := fun b b1 b2 => by
    cases hr : m.testBit b
    · have g1 := cRU 0 b (by omega) hM.2.1 b1 b2 hr
      rw [wz0] at g1
      have g2 := (hS b b1 b2 hr).2.2.2.2 0 (by omega) hM.2.1
      rw [wz0] at g2
      have g3 := hmin b b1 b2 hr
      omega
    · have g1 := cRR 0 b (by omega) hM.2.1 b1 b2 hr
      rw [wz0] at g1
      rw [g1]
      exact hR.2 (hrb b b1 b2 hr) b b1 b2
  refine ⟨⟨⟨hW, hJ, fun b0 b g1 g2 b1 b2 g3 => ?_, fun b b1 b2 g3 => ?_, fun b b1 b2 => ?_, fun c b c1 c2 b1 b2 => by rw [gne]; exact hG c b c1 c2 b1 b2⟩, ⟨?_, fun c c1 c2 c3 c4 => ?_⟩, ?_, ⟨hM.1, hM.2.1, by rw [e1 65 (by decide) (by decide) (by decide)]; exact hM.2.2.1, hM.2.2.2⟩, ⟨hR.1, fun _ => c0pos⟩, fun j hj => by rw [e1 68 (by decide) (by decide) (by decide)]; exact hO j hj, fun j j1 j2 j3 => ?_, hT, fun b b1 b2 b3 => ?_⟩, c0pos, ?_⟩
  · cases hr0 : m.testBit b0
    · rw [cU (w b0) b (hW b0 g1 g2) (ureach b0 g1 g2 g3 hr0) b1 b2]
      have := hF b0 b g1 g2 b1 b2 g3
      cases hr : m.testBit b
      · rw [if_neg (by decide)]; omega
      · rw [if_pos rfl]
        have := hch (hrb b b1 b2 hr)
        omega
    · rw [← wzb b0 g1]
      cases hr : m.testBit b
      · rw [cRU b0 b g2 hr0 b1 b2 hr]
        have g4 := (hS b b1 b2 hr).2.2.2.2 b0 g2 hr0
        have g5 := hmin b b1 b2 hr
        omega
      · rw [cRR b0 b g2 hr0 b1 b2 hr, wzb b0 g1]
        exact hF b0 b g1 g2 b1 b2 g3
  · cases hr : m.testBit b
    · rw [cU (w b) b (hW b b1 b2) (ureach b b1 b2 g3 hr) b1 b2, hr, if_neg (by decide), hTt b b1 b2 g3]; rfl
    · rw [← wzb b b1, cRR b b b2 hr b1 b2 hr, wzb b b1]
      exact hTt b b1 b2 g3
  · have g := hN b b1 b2
    rw [e67 b b1 b2]
    cases hr : m.testBit b
    · rw [if_neg (by decide)]; exact g
    · rw [if_pos rfl]
      have := hch (hrb b b1 b2 hr)
      exact ⟨by omega, fun e => absurd e (hX b b1 b2 hr).1⟩
  · rw [e66' 0 (by omega) (fun j j1 j2 => by have := (f1 j j1 j2).1; omega)]
    exact hU.1
  · rw [e66' c c2 (fun j j1 j2 => ?_)]
    · exact hU.2 c c1 c2 c3 c4
    · by_cases e : j = 0
      · rw [e, wz0]; exact fun q => c3 q.symm
      · rw [wzb j (by omega)]; exact c4 j (by omega) j1
  · have g1 := e66 0 (by omega) hM.2.1
    rw [wz0] at g1
    have g2 := (hS f ff1 ff2 hff).2.2.2.2 0 (by omega) hM.2.1
    rw [wz0] at g2
    have g3 := hmin f ff1 ff2 hff
    have g4 := (hN f ff1 ff2).2 ff3
    have g5 := hG c0 f h0.1 h0.2 ff1 ff2
    rw [g1]
    refine ⟨?_, by unfold cst at g2; omega⟩
    by_cases er : r = 0
    · have g6 : bf k = 0 := by
        by_cases e : bf k = 0
        · exact e
        · exfalso
          have := hR.1 er (bf k) (by omega) hkS.1
          rw [this] at hkS
          exact Bool.false_ne_true hkS.2.1
      have g7 := hkS.2.2.2.1
      rw [g6, wz0] at g7
      have g8 := hG c0 k h0.1 h0.2 hk.1 hk.2.1
      have g9 := bd1 k hk.1 hk.2.1
      unfold cst at g7
      omega
    · have := hch (by omega)
      omega
  · obtain ⟨x1, x2, x3, x4, x5, x6⟩ := hX j j1 j2 j3
    exact ⟨x1, x2, x3, by rw [e1 69 (by decide) (by decide) (by decide)]; exact x4, by rw [cRR _ _ x2 x3 j1 j2 j3]; exact x5, x6⟩
  · obtain ⟨x1, x2, x3, x4, x5⟩ := hS b b1 b2 b3
    refine ⟨x1, x2, by rw [e1 69 (by decide) (by decide) (by decide)]; exact x3, ?_, fun j j1 j2 => ?_⟩
    · rw [e70 b b1 b2, if_neg (by rw [b3]; decide), cRU _ _ x1 x2 b1 b2 b3, x4]
    · rw [e70 b b1 b2, if_neg (by rw [b3]; decide), cRU j b j1 j2 b1 b2 b3]
      have := x5 j j1 j2
      omega
  · rw [cRU _ _ hkS.1 hkS.2.1 hk.1 hk.2.1 hk.2.2, ← hkS.2.2.2.1]
    omega
