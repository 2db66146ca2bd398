/-! the class's best sum: filling, handing on, the state between placements -/
theorem m_fillA_66 (x : Int) (M : Me) (h : Ml) : Wp zS0 tJ7_fill_53178 none 0 [zr 66, zi x, zn, zn] [] M h (fun v M' h' => v = none ∧ h' = h ∧ (∀ k, k ≠ 66 → M' k = M k) ∧ ∀ i, i < 11 → M' 66 i = x) := by
  have loop : ∀ d i : Nat, i + d = 11 → ∀ (M' : Me), (∀ k, k ≠ 66 → M' k = M k) → (∀ j, j < i → M' 66 j = x) → Wp zS0 tJ7_fill_53178 none 5 [zr 66, zi x, zi i, zi 11] [] M' h (fun v M' h' => v = none ∧ h' = h ∧ (∀ k, k ≠ 66 → M' k = M k) ∧ ∀ i, i < 11 → M' 66 i = x) := by
    intro d
    induction d with
    | zero =>
      intro i hi M' hk hv
      refine Wp.g1 rfl ?_
      refine Wp.brt rfl (by omega) ?_
      exact Wp.re rfl ⟨rfl, rfl, hk, fun j hj => hv j (by omega)⟩
    | succ d ih =>
      intro i hi M' hk hv
      refine Wp.g1 rfl ?_
      refine Wp.brf rfl (by omega) ?_
      refine Wp.g1 rfl ?_
      refine Wp.sto rfl rfl i rfl (by omega) ?_
      refine Wp.gt 5 rfl ?_
      rw [w32_s (n := i) (by omega)]
      refine ih (i + 1) (by omega) _ (fun k g => by rw [upd2_ne g]; exact hk k g) (fun j hj => ?_)
      by_cases e : j = i
      · subst e; rw [upd2_at]
      · rw [upd2_off e]; exact hv j (by omega)
  refine Wp.gt 5 rfl ?_
  exact loop 11 0 (by omega) M (fun _ _ => rfl) (fun j hj => by omega)
theorem m_fillA_67 (x : Int) (M : Me) (h : Ml) : Wp zS0 tJ7_fill_53178 none 0 [zr 67, zi x, zn, zn] [] M h (fun v M' h' => v = none ∧ h' = h ∧ (∀ k, k ≠ 67 → M' k = M k) ∧ ∀ i, i < 13 → M' 67 i = x) := by
  have loop : ∀ d i : Nat, i + d = 13 → ∀ (M' : Me), (∀ k, k ≠ 67 → M' k = M k) → (∀ j, j < i → M' 67 j = x) → Wp zS0 tJ7_fill_53178 none 5 [zr 67, zi x, zi i, zi 13] [] M' h (fun v M' h' => v = none ∧ h' = h ∧ (∀ k, k ≠ 67 → M' k = M k) ∧ ∀ i, i < 13 → M' 67 i = x) := by
    intro d
    induction d with
    | zero =>
      intro i hi M' hk hv
      refine Wp.g1 rfl ?_
      refine Wp.brt rfl (by omega) ?_
      exact Wp.re rfl ⟨rfl, rfl, hk, fun j hj => hv j (by omega)⟩
    | succ d ih =>
      intro i hi M' hk hv
      refine Wp.g1 rfl ?_
      refine Wp.brf rfl (by omega) ?_
      refine Wp.g1 rfl ?_
      refine Wp.sto rfl rfl i rfl (by omega) ?_
      refine Wp.gt 5 rfl ?_
      rw [w32_s (n := i) (by omega)]
      refine ih (i + 1) (by omega) _ (fun k g => by rw [upd2_ne g]; exact hk k g) (fun j hj => ?_)
      by_cases e : j = i
      · subst e; rw [upd2_at]
      · rw [upd2_off e]; exact hv j (by omega)
  refine Wp.gt 5 rfl ?_
  exact loop 13 0 (by omega) M (fun _ _ => rfl) (fun j hj => by omega)
theorem m_fillA_68 (x : Int) (M : Me) (h : Ml) : Wp zS0 tJ7_fill_53178 none 0 [zr 68, zi x, zn, zn] [] M h (fun v M' h' => v = none ∧ h' = h ∧ (∀ k, k ≠ 68 → M' k = M k) ∧ ∀ i, i < 13 → M' 68 i = x) := by
  have loop : ∀ d i : Nat, i + d = 13 → ∀ (M' : Me), (∀ k, k ≠ 68 → M' k = M k) → (∀ j, j < i → M' 68 j = x) → Wp zS0 tJ7_fill_53178 none 5 [zr 68, zi x, zi i, zi 13] [] M' h (fun v M' h' => v = none ∧ h' = h ∧ (∀ k, k ≠ 68 → M' k = M k) ∧ ∀ i, i < 13 → M' 68 i = x) := by
    intro d
    induction d with
    | zero =>
      intro i hi M' hk hv
      refine Wp.g1 rfl ?_
      refine Wp.brt rfl (by omega) ?_
      exact Wp.re rfl ⟨rfl, rfl, hk, fun j hj => hv j (by omega)⟩
    | succ d ih =>
      intro i hi M' hk hv
      refine Wp.g1 rfl ?_
      refine Wp.brf rfl (by omega) ?_
      refine Wp.g1 rfl ?_
      refine Wp.sto rfl rfl i rfl (by omega) ?_
      refine Wp.gt 5 rfl ?_
      rw [w32_s (n := i) (by omega)]
      refine ih (i + 1) (by omega) _ (fun k g => by rw [upd2_ne g]; exact hk k g) (fun j hj => ?_)
      by_cases e : j = i
      · subst e; rw [upd2_at]
      · rw [upd2_off e]; exact hv j (by omega)
  refine Wp.gt 5 rfl ?_
  exact loop 13 0 (by omega) M (fun _ _ => rfl) (fun j hj => by omega)
theorem m_fillA_70 (x : Int) (M : Me) (h : Ml) : Wp zS0 tJ7_fill_53178 none 0 [zr 70, zi x, zn, zn] [] M h (fun v M' h' => v = none ∧ h' = h ∧ (∀ k, k ≠ 70 → M' k = M k) ∧ ∀ i, i < 13 → M' 70 i = x) := by
  have loop : ∀ d i : Nat, i + d = 13 → ∀ (M' : Me), (∀ k, k ≠ 70 → M' k = M k) → (∀ j, j < i → M' 70 j = x) → Wp zS0 tJ7_fill_53178 none 5 [zr 70, zi x, zi i, zi 13] [] M' h (fun v M' h' => v = none ∧ h' = h ∧ (∀ k, k ≠ 70 → M' k = M k) ∧ ∀ i, i < 13 → M' 70 i = x) := by
    intro d
    induction d with
    | zero =>
      intro i hi M' hk hv
      refine Wp.g1 rfl ?_
      refine Wp.brt rfl (by omega) ?_
      exact Wp.re rfl ⟨rfl, rfl, hk, fun j hj => hv j (by omega)⟩
    | succ d ih =>
      intro i hi M' hk hv
      refine Wp.g1 rfl ?_
      refine Wp.brf rfl (by omega) ?_
      refine Wp.g1 rfl ?_
      refine Wp.sto rfl rfl i rfl (by omega) ?_
      refine Wp.gt 5 rfl ?_
      rw [w32_s (n := i) (by omega)]
      refine ih (i + 1) (by omega) _ (fun k g => by rw [upd2_ne g]; exact hk k g) (fun j hj => ?_)
      by_cases e : j = i
      · subst e; rw [upd2_at]
      · rw [upd2_off e]; exact hv j (by omega)
  refine Wp.gt 5 rfl ?_
  exact loop 13 0 (by omega) M (fun _ _ => rfl) (fun j hj => by omega)
theorem m_handOn (Q : Nat → (Nat → Nat) → Prop) (bf tm w0 : Nat → Nat) (last : Nat) (M : Me) (h : Ml) (hw : ∀ j, j ≤ 12 → M 68 j = (w0 j : Int)) (hQ : Q last w0) (ht : tm last ≤ 12)
    (hstep : ∀ col w, Q col w → 1 ≤ col → col ≤ 12 ∧ bf col ≤ 12 ∧ M 69 col = (bf col : Int) ∧ tm (bf col) < tm col ∧ Q (bf col) (fun j => if j = col then w (bf col) else w j)) :
    Wp zS0 tX0_handOn none 0 [zr 65, zi last, zn, zn, zn] [] M h (fun v M' h' => v = none ∧ h' = h ∧ (∀ k, k ≠ 68 → M' k = M k) ∧ ∃ w : Nat → Nat, (∀ j, j ≤ 12 → M' 68 j = (w j : Int)) ∧ Q 0 w) := by
  have loop : ∀ d s : Nat, s + d = 13 → ∀ (M' : Me) (col : Nat) (w : Nat → Nat) (x : ZV), (∀ k, k ≠ 68 → M' k = M k) → (∀ j, j ≤ 12 → M' 68 j = (w j : Int)) → Q col w → tm col + s ≤ 12 → Wp zS0 tX0_handOn none 4 [zr 65, zi last, zi col, zi s, x] [] M' h (fun v M' h' => v = none ∧ h' = h ∧ (∀ k, k ≠ 68 → M' k = M k) ∧ ∃ w : Nat → Nat, (∀ j, j ≤ 12 → M' 68 j = (w j : Int)) ∧ Q 0 w) := by
    intro d
    induction d with
    | zero => intro s hs M' col w x hk hw' hq htm; omega
    | succ d ih =>
      intro s hs M' col w x hk hw' hq htm
      refine Wp.g1 rfl ?_
      refine Wp.brf rfl (by omega) ?_
      refine Wp.g1 rfl ?_
      by_cases hc : col = 0
      · subst hc
        refine Wp.brt rfl (by decide) ?_
        exact Wp.re rfl ⟨rfl, rfl, hk, w, hw', hq⟩
      · obtain ⟨c1, c2, c3, c4, c5⟩ := hstep col w hq (by omega)
        refine Wp.brf rfl (by omega) ?_
        refine Wp.g1 rfl ?_
        refine Wp.brf rfl (by omega) ?_
        refine Wp.g1 rfl ?_
        refine Wp.ld rfl rfl col rfl (by omega) ?_
        rw [hk 69 (by decide), c3]
        refine Wp.g1 rfl ?_
        refine Wp.calli rfl (m_outside _ _ _ M' h) ?_
        rw [if_neg (by omega)]
        refine Wp.brt rfl (by decide) ?_
        refine Wp.g1 rfl ?_
        refine Wp.ld rfl rfl (bf col) rfl (by omega) ?_
        rw [hw' (bf col) c2]
        refine Wp.sto rfl rfl col rfl (by omega) ?_
        refine Wp.gt 4 rfl ?_
        rw [w32_s (n := s) (by omega)]
        refine ih (s + 1) (by omega) _ (bf col) _ _ (fun k g => by rw [upd2_ne g]; exact hk k g) (fun j hj => ?_) c5 (by omega)
        by_cases e : j = col
        · rw [if_pos e, e, upd2_at]
        · rw [if_neg e, upd2_off e]; exact hw' j hj
  refine Wp.gt 4 rfl ?_
  exact loop 13 0 (by omega) M last w0 _ (fun _ _ => rfl) hw hQ (by omega)
/-- between placements -/
def HI (M : Me) (w : Nat → Nat) : Prop :=
  (∀ b, 1 ≤ b → b ≤ 12 → w b ≤ 10) ∧ (∀ b b', 1 ≤ b → b ≤ 12 → 1 ≤ b' → b' ≤ 12 → w b = w b' → w b ≠ 0 → b = b') ∧
  (∀ b0 b, 1 ≤ b0 → b0 ≤ 12 → 1 ≤ b → b ≤ 12 → w b0 ≠ 0 → 0 ≤ cst M (w b0) b) ∧ (∀ b, 1 ≤ b → b ≤ 12 → w b ≠ 0 → cst M (w b) b = 0) ∧
  (∀ b, 1 ≤ b → b ≤ 12 → M 67 b ≤ 0 ∧ (w b = 0 → M 67 b = 0)) ∧ ∀ c b, 1 ≤ c → c ≤ 10 → 1 ≤ b → b ≤ 12 → 0 ≤ gn M c b ∧ gn M c b ≤ 9600
theorem own_free {w : Nat → Nat} (h1 : ∀ b, 1 ≤ b → b ≤ 12 → w b ≤ 10) (h2 : ∀ b b', 1 ≤ b → b ≤ 12 → 1 ≤ b' → b' ≤ 12 → w b = w b' → w b ≠ 0 → b = b') : ∃ b, 1 ≤ b ∧ b ≤ 12 ∧ w b = 0 := by
  by_cases hno : ∃ b, 1 ≤ b ∧ b ≤ 12 ∧ w b = 0
  · exact hno
  · exfalso
    have hz : ∀ i, i < 12 → w (i + 1) ≠ 0 := fun i hi e => hno ⟨i + 1, by omega, by omega, e⟩
    have k := sumI_own (w := fun i => w (i + 1)) (f := fun c => if c = 0 then 0 else 1) (n := 12) (m := 11) (fun b hb => by have := h1 (b + 1) (by omega) (by omega); show w (b + 1) < 11; omega) rfl
      (fun b b' hb hb' e hne => by have := h2 (b + 1) (b' + 1) (by omega) (by omega) (by omega) (by omega) e hne; omega) (fun c => ∃ b, b < 12 ∧ w (b + 1) = c ∧ c ≠ 0) (fun c => Iff.rfl) (fun c => Classical.propDecidable _)
    have e1 : sumI (fun b => if w (b + 1) = 0 then (0 : Int) else 1) 12 = sumI (fun _ => 1) 12 := sumI_congr 12 (fun i hi => if_neg (hz i hi))
    have e2 : sumI (fun _ => (1 : Int)) 12 = 12 := by decide
    have e3 : sumI (fun c => if c = 0 then (0 : Int) else 1) 11 = 10 := by decide
    have e4 := sumI_le (f := fun c => @ite _ (∃ b, b < 12 ∧ w (b + 1) = c ∧ c ≠ 0) (Classical.propDecidable _) (if c = 0 then (0 : Int) else 1) 0) (g := fun c => if c = 0 then (0 : Int) else 1) 11 (fun j hj => by
      by_cases g : ∃ b, b < 12 ∧ w (b + 1) = j ∧ j ≠ 0
      · rw [if_pos g]; exact Int.le_refl _
      · rw [if_neg g]; split <;> omega)
    rw [e1, e2] at k
    omega
theorem HI.bd {M : Me} {w : Nat → Nat} (hI : HI M w) : (∀ b, 1 ≤ b → b ≤ 12 → -9600 ≤ M 67 b ∧ M 67 b ≤ 0) ∧ ∀ b, 1 ≤ b → b ≤ 12 → w b ≠ 0 → -9600 ≤ M 66 (w b) ∧ M 66 (w b) ≤ 0 := by
  obtain ⟨hW, hJ, hF, hT, hN, hG⟩ := hI
  obtain ⟨f, f1, f2, f3⟩ := own_free hW hJ
  have hf := (hN f f1 f2).2 f3
  have hp : ∀ b, 1 ≤ b → b ≤ 12 → w b ≠ 0 → -9600 ≤ M 66 (w b) ∧ M 66 (w b) ≤ 0 ∧ -9600 ≤ M 67 b := fun b b1 b2 b3 => by
    have g1 := hF b f b1 b2 f1 f2 b3
    have g2 := hT b b1 b2 b3
    have g3 := hG (w b) f (by omega) (hW b b1 b2) f1 f2
    have g4 := hG (w b) b (by omega) (hW b b1 b2) b1 b2
    have g5 := hN b b1 b2
    unfold cst at g1 g2
    omega
  refine ⟨fun b b1 b2 => ?_, fun b b1 b2 b3 => ⟨(hp b b1 b2 b3).1, (hp b b1 b2 b3).2.1⟩⟩
  by_cases e : w b = 0
  · rw [(hN b b1 b2).2 e]; omega
  · exact ⟨(hp b b1 b2 e).2.2, (hN b b1 b2).1⟩
