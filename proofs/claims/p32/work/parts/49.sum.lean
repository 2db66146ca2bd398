/-! the class's best sum: all claims placed, and the sum -/
def Bst (M : Me) (h : Ml) : Option ZV → Me → Ml → Prop := fun v M' h' => h' = h ∧ (∀ k, k < 65 ∨ 71 ≤ k → M' k = M k) ∧ ∃ (N : Me) (w : Nat → Nat), HI N w ∧ (∀ c b, gn N c b = gn M c b) ∧ (∀ c, 1 ≤ c → c ≤ 10 → (∀ b, 1 ≤ b → b ≤ 12 → w b ≠ c) → ∀ b, b < 12 → M 64 (12 * (c - 1) + b) = -1) ∧ v = some (zi (sumI (fun i => if w (i + 1) = 0 then 0 else gn M (w (i + 1)) (i + 1)) 12))
theorem m_bestSum {M : Me} {h : Ml} (hg : ∀ c b, 1 ≤ c → c ≤ 10 → 1 ≤ b → b ≤ 12 → gn M c b ≤ 9600) : Wp zS0 tX0_bestSum none 0 [zr 65, zr 63, zn, zn] [] M h (Bst M h) := by
  have sumloop : ∀ d b : Nat, b + d = 13 → 1 ≤ b → ∀ (M' : Me) (w : Nat → Nat) (s : Int), (∀ k, k < 65 ∨ 71 ≤ k → M' k = M k) → (∀ j, 1 ≤ j → j ≤ 12 → M' 68 j = (w j : Int)) → HI M' w → (∀ c, 1 ≤ c → c ≤ 10 → (∀ b, 1 ≤ b → b ≤ 12 → w b ≠ c) → ∀ b, b < 12 → M 64 (12 * (c - 1) + b) = -1) → s = sumI (fun i => if w (i + 1) = 0 then 0 else gn M (w (i + 1)) (i + 1)) (b - 1) → 0 ≤ s → s ≤ 9600 * (b : Int) →
      Wp zS0 tX0_bestSum none 58 [zr 65, zr 63, zi s, zi b] [] M' h (Bst M h) := by
    intro d
    induction d with
    | zero =>
      intro b hb _ M' w s hk hw hI hu hs s0 s1
      refine Wp.g1 rfl ?_
      refine Wp.brt rfl (by omega) ?_
      refine Wp.g1 rfl ?_
      have e : b - 1 = 12 := by omega
      rw [e] at hs
      exact Wp.re rfl ⟨rfl, hk, M', w, hI, fun c b => by unfold gn; rw [hk 64 (by decide)], hu, by rw [hs]⟩
    | succ d ih =>
      intro b hb hb1 M' w s hk hw hI hu hs s0 s1
      have hgk : ∀ c b, gn M' c b = gn M c b := fun c b => by unfold gn; rw [hk 64 (by decide)]
      have e1 : sumI (fun i => if w (i + 1) = 0 then 0 else gn M (w (i + 1)) (i + 1)) b = s + (if w b = 0 then 0 else gn M (w b) b) := by
        obtain ⟨b', rfl⟩ : ∃ b', b = b' + 1 := ⟨b - 1, by omega⟩
        rw [hs]
        rfl
      refine Wp.g1 rfl ?_
      refine Wp.brf rfl (by omega) ?_
      refine Wp.g1 rfl ?_
      refine Wp.ld rfl rfl b rfl (by omega) ?_
      rw [hw b hb1 (by omega)]
      refine Wp.g1 rfl ?_
      by_cases ew : w b = 0
      · rw [ew]
        refine Wp.calli rfl (m_gainA0 b ⟨hb1, by omega⟩ M' h) ?_
        refine Wp.gt 58 rfl ?_
        rw [w32_s (n := b) (by omega), Int.add_zero, w32_id (x := s) ⟨by omega, by omega⟩]
        rw [if_pos ew, Int.add_zero] at e1
        exact ih (b + 1) (by omega) (by omega) M' w s hk hw hI hu (by rw [show b + 1 - 1 = b by omega, e1]) s0 (by omega)
      · have hw10 := hI.1 b hb1 (by omega)
        refine Wp.calli rfl (m_gainA (w b) b ⟨by omega, hw10⟩ ⟨hb1, by omega⟩ M' h) ?_
        refine Wp.gt 58 rfl ?_
        have g1 := hg (w b) b (by omega) hw10 hb1 (by omega)
        have g2 := (hI.2.2.2.2.2 (w b) b (by omega) hw10 hb1 (by omega)).1
        rw [hgk] at g2
        rw [hgk, w32_s (n := b) (by omega), w32_id (x := s + gn M (w b) b) ⟨by omega, by omega⟩]
        rw [if_neg ew] at e1
        exact ih (b + 1) (by omega) (by omega) M' w _ hk hw hI hu (by rw [show b + 1 - 1 = b by omega, e1]) (by omega) (by omega)
  have loop : ∀ d c : Nat, c + d = 11 → 1 ≤ c → ∀ (M' : Me) (w : Nat → Nat) (x : ZV), (∀ k, k < 65 ∨ 71 ≤ k → M' k = M k) → (∀ j, 1 ≤ j → j ≤ 12 → M' 68 j = (w j : Int)) → HI M' w → HU M' w 0 → (∀ b, 1 ≤ b → b ≤ 12 → w b < c) → (∀ c', 1 ≤ c' → c' < c → (∀ b, 1 ≤ b → b ≤ 12 → w b ≠ c') → ∀ b, b < 12 → M 64 (12 * (c' - 1) + b) = -1) →
      Wp zS0 tX0_bestSum none 26 [zr 65, zr 63, zi c, x] [] M' h (Bst M h) := by
    intro d
    induction d with
    | zero =>
      intro c hc _ M' w x hk hw hI hU hp hu
      refine Wp.g1 rfl ?_
      refine Wp.brt rfl (by omega) ?_
      refine Wp.gt 58 rfl ?_
      exact sumloop 12 1 (by omega) (by omega) M' w 0 hk hw hI (fun c' c1 c2 c3 => hu c' c1 (by omega) c3) rfl (by decide) (by decide)
    | succ d ih =>
      intro c hc hc1 M' w x hk hw hI hU hp hu
      refine Wp.g1 rfl ?_
      refine Wp.brf rfl (by omega) ?_
      refine Wp.g1 rfl ?_
      rw [w32_p hc1 (by omega)]
      refine Wp.call rfl (m_hasGain (c - 1) (by omega) M' h) (fun v M1 h1 q => ?_)
      obtain ⟨rfl, rfl, q⟩ := q
      rcases q with ⟨rfl, -⟩ | ⟨rfl, q⟩
      · refine Wp.brf rfl (by decide) ?_
        refine Wp.g1 rfl ?_
        refine Wp.call rfl (m_place hI hU ⟨hc1, by omega⟩ (fun b b1 b2 => by have := hp b b1 b2; omega) hw) (fun v M2 h2 q => ?_)
        obtain ⟨rfl, rfl, q1, w', q2, q3, q4, q5⟩ := q
        refine Wp.gt 26 rfl ?_
        rw [w32_s (n := c) (by omega)]
        refine ih (c + 1) (by omega) (by omega) M2 w' _ (fun k g => (q1 k g).trans (hk k g)) q2 q3 q4 (fun b b1 b2 => ?_) (fun c' g1 g2 g3 => ?_)
        · by_cases e : w' b = 0
          · omega
          · rcases (q5 (w' b) (by omega)).mp ⟨b, b1, b2, rfl⟩ with ⟨y, y1, y2, y3⟩ | g
            · have := hp y y1 y2; omega
            · omega
        · by_cases e : c' = c
          · obtain ⟨y, y1, y2, y3⟩ := (q5 c' g1).mpr (Or.inr e)
            exact absurd y3 (g3 y y1 y2)
          · refine hu c' g1 (by omega) (fun b b1 b2 b3 => ?_)
            obtain ⟨y, y1, y2, y3⟩ := (q5 c' g1).mpr (Or.inl ⟨b, b1, b2, b3⟩)
            exact g3 y y1 y2 y3
      · refine Wp.brt rfl (by decide) ?_
        refine Wp.gt 26 rfl ?_
        rw [w32_s (n := c) (by omega)]
        refine ih (c + 1) (by omega) (by omega) M1 w _ hk hw hI hU (fun b b1 b2 => by have := hp b b1 b2; omega) (fun c' g1 g2 g3 => ?_)
        by_cases e : c' = c
        · subst e
          intro b b1
          have := q b b1
          rw [hk 64 (by decide)] at this
          exact this
        · exact hu c' g1 (by omega) g3
  refine Wp.g1 rfl ?_
  refine Wp.call rfl (m_fillA_66 0 M h) (fun v M1 h1 q => ?_)
  obtain ⟨rfl, rfl, q1, q2⟩ := q
  refine Wp.g1 rfl ?_
  refine Wp.call rfl (m_fillA_67 0 M1 h1) (fun v M2 h2 q => ?_)
  obtain ⟨rfl, rfl, q3, q4⟩ := q
  refine Wp.g1 rfl ?_
  refine Wp.call rfl (m_fillA_68 0 M2 h2) (fun v M3 h3 q => ?_)
  obtain ⟨rfl, rfl, q5, q6⟩ := q
  refine Wp.gt 26 rfl ?_
  have e66 : ∀ c, c ≤ 10 → M3 66 c = 0 := fun c hc => by rw [q5 66 (by decide), q3 66 (by decide)]; exact q2 c (by omega)
  have e67 : ∀ b, b ≤ 12 → M3 67 b = 0 := fun b hb => by rw [q5 67 (by decide)]; exact q4 b (by omega)
  refine loop 10 1 (by omega) (by omega) M3 (fun _ => 0) _ (fun k g => by rw [q5 k (by omega), q3 k (by omega), q1 k (by omega)]) (fun j j1 j2 => q6 j (by omega)) ⟨fun b _ _ => Nat.zero_le _, fun b b' _ _ _ _ _ g => absurd rfl g, fun b0 b _ _ _ _ g => absurd rfl g, fun b _ _ g => absurd rfl g, fun b b1 b2 => ?_, fun c b c1 c2 b1 b2 => ?_⟩ ⟨e66 0 (by decide), fun c c1 c2 _ _ => e66 c c2⟩ (fun b _ _ => Nat.zero_lt_one) (fun c' g1 g2 => by omega)
  · rw [e67 b b2]
    exact ⟨Int.le_refl _, fun _ => rfl⟩
  · have e : gn M3 c b = gn M c b := by unfold gn; rw [q5 64 (by decide), q3 64 (by decide), q1 64 (by decide)]
    rw [e]
    refine ⟨?_, hg c b c1 c2 b1 b2⟩
    unfold gn
    omega
