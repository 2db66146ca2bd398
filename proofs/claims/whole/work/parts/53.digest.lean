/-! the class's digest -/
def hBag (V : Nat → Int) (nb nc : Nat) (s : Int64) : Nat → Int64
  | 0 => s
  | r + 1 => hfold (fun c => if c = 7 then cw V nc r else V (18 + 8 * r + 1 + c)) (31 * hBag V nb nc s r + Int64.ofInt (V (18 + 8 * r))) 8
def hClm (V : Nat → Int) (nb nc : Nat) (s : Int64) : Nat → Int64
  | 0 => s
  | r + 1 => hfold (fun b => scN V r b 0) (hfold (fun c => if c = 8 then pt V r else V (114 + 10 * r + 1 + c)) (31 * hClm V nb nc s r + Int64.ofInt (V (114 + 10 * r))) 9) nb
def rDigest (V : Nat → Int) (nb nc : Nat) : Int64 := 31 * (31 * hClm V nb nc (hBag V nb nc (hfold (fun k => rCount V nb nc (k : Int)) 234 8) nb) nc + Int64.ofInt (rBest V nb nc)) + Int64.ofInt (rTotal V nb nc)
abbrev Ql (r : Int64) (M : Me) (h : Ml) : Option ZV → Me → Ml → Prop := fun v M' h' => v = some (zl r) ∧ h' = h ∧ ∀ k, k < 61 ∨ k = 71 ∨ 74 ≤ k → M' k = M k
theorem c_digest {M : Me} {h : Ml} {V : Nat → Int} {nb nc t : Nat} (hS : CS M V nb nc t) : Wp zS0 tX8_digest none 0 [zr 0, zn, zn, zn, zn] [] M h (Ql (rDigest V nb nc) M h) := by
  have hW := hS.2.2.2
  have hnb := hW.1.2.2.1
  have hnc := hW.1.2.2.2
  have last : ∀ (M' : Me) (x y : ZV) (s : Int64), (∀ k, k < 61 ∨ k = 71 ∨ 74 ≤ k → M' k = M k) → s = hClm V nb nc (hBag V nb nc (hfold (fun k => rCount V nb nc (k : Int)) 234 8) nb) nc → Wp zS0 tX8_digest none 148 [zr 0, zl s, zn, x, y] [] M' h (Ql (rDigest V nb nc) M h) := by
    intro M' x y s hk hs
    have hS' : CS M' V nb nc t := hS.kept (fun k g => hk k (by omega))
    refine Wp.g1 rfl ?_
    refine Wp.call rfl (c_bestTotal hS') (fun v M1 h1 q => ?_)
    obtain ⟨rfl, rfl, q1⟩ := q
    have hS1 : CS M1 V nb nc t := hS'.kept (fun k g => q1 k (by omega))
    refine Wp.g1 rfl ?_
    refine Wp.call rfl (c_totalOfAll hS1) (fun v M2 h2 q => ?_)
    obtain ⟨rfl, rfl, q2⟩ := q
    refine Wp.g1 rfl ?_
    exact Wp.re rfl ⟨by rw [hs]; rfl, rfl, fun k g => by rw [q2 k g, q1 k g]; exact hk k g⟩
  have inner : ∀ d b : Nat, b + d = nb → ∀ (M' : Me) (r : Nat) (s : Int64), r < nc → (∀ k, k < 61 ∨ k = 71 ∨ 74 ≤ k → M' k = M k) → (∀ (M2 : Me), (∀ k, k < 61 ∨ k = 71 ∨ 74 ≤ k → M2 k = M k) → Wp zS0 tX8_digest none 68 [zr 0, zl (hfold (fun b => scN V r b 0) s nb), zn, zi ((r + 1 : Nat) : Int), zi nb] [] M2 h (Ql (rDigest V nb nc) M h)) →
      Wp zS0 tX8_digest none 98 [zr 0, zl (hfold (fun b => scN V r b 0) s b), zn, zi r, zi b] [] M' h (Ql (rDigest V nb nc) M h) := by
    intro d
    induction d with
    | zero =>
      intro b hb M' r s hr hk hnx
      have hS' : CS M' V nb nc t := hS.kept (fun k g => hk k (by omega))
      have e : b = nb := by omega
      subst e
      refine Wp.g1 rfl ?_
      refine Wp.calli rfl (m2_rows M' h) ?_
      rw [hS'.1.2.2.1.1]
      refine Wp.brt rfl (by omega) ?_
      refine Wp.gt 68 rfl ?_
      rw [w32_s (n := r) (by omega)]
      exact hnx M' hk
    | succ d ih =>
      intro b hb M' r s hr hk hnx
      have hS' : CS M' V nb nc t := hS.kept (fun k g => hk k (by omega))
      refine Wp.g1 rfl ?_
      refine Wp.calli rfl (m2_rows M' h) ?_
      rw [hS'.1.2.2.1.1]
      refine Wp.brf rfl (by omega) ?_
      refine Wp.g1 rfl ?_
      refine Wp.call rfl (m_part hS'.1 hS'.2.1 hS'.2.2.1 hW hr (show b < nb by omega) 0 (by omega)) (fun v M1 h1 q => ?_)
      obtain ⟨rfl, rfl, q1⟩ := q
      refine Wp.gt 98 rfl ?_
      rw [w32_s (n := b) (by omega)]
      exact ih (b + 1) (by omega) M1 r s hr (fun k g => by rw [q1 k (by omega)]; exact hk k g) hnx
  have rowsC : ∀ d r : Nat, r + d = nc → ∀ (M' : Me) (y : ZV), (∀ k, k < 61 ∨ k = 71 ∨ 74 ≤ k → M' k = M k) → Wp zS0 tX8_digest none 68 [zr 0, zl (hClm V nb nc (hBag V nb nc (hfold (fun k => rCount V nb nc (k : Int)) 234 8) nb) r), zn, zi r, y] [] M' h (Ql (rDigest V nb nc) M h) := by
    intro d
    induction d with
    | zero =>
      intro r hr M' y hk
      have hS' : CS M' V nb nc t := hS.kept (fun k g => hk k (by omega))
      have e : r = nc := by omega
      subst e
      refine Wp.g1 rfl ?_
      refine Wp.calli rfl (m5_rows M' h) ?_
      rw [hS'.1.2.2.1.2.2.1]
      refine Wp.brt rfl (by omega) ?_
      exact last M' _ _ _ hk rfl
    | succ d ih =>
      intro r hr M' y hk
      have hS' : CS M' V nb nc t := hS.kept (fun k g => hk k (by omega))
      have hrow := hS'.1.2.2.2.2 r (by omega)
      refine Wp.g1 rfl ?_
      refine Wp.calli rfl (m5_rows M' h) ?_
      rw [hS'.1.2.2.1.2.2.1]
      refine Wp.brf rfl (by omega) ?_
      refine Wp.g1 rfl ?_
      have k := m5_hashRow (hClm V nb nc (hBag V nb nc (hfold (fun k => rCount V nb nc (k : Int)) 234 8) nb) r) r nc M' h hS'.2.2.1 hS'.1.2.2.1.2.2.1 hnc (by omega)
      rw [show M' 6 r = V (114 + 10 * r) from hrow.1, hfold_congr (f := fun c => M' 7 (9 * r + c)) (g := fun c => if c = 8 then pt V r else V (114 + 10 * r + 1 + c)) 9 (fun c hc => by
        by_cases e : c = 8
        · subst e; rw [if_pos rfl]; exact hrow.2.2
        · rw [if_neg e]; exact hrow.2.1 c (by omega))] at k
      refine Wp.calll rfl k ?_
      refine Wp.gt 98 rfl ?_
      exact inner nb 0 (by omega) M' r _ (by omega) hk (fun M2 hk2 => ih (r + 1) (by omega) M2 _ hk2)
  have rowsB : ∀ d r : Nat, r + d = nb → ∀ (M' : Me), (∀ k, k < 61 ∨ k = 71 ∨ 74 ≤ k → M' k = M k) → Wp zS0 tX8_digest none 33 [zr 0, zl (hBag V nb nc (hfold (fun k => rCount V nb nc (k : Int)) 234 8) r), zn, zi r, zn] [] M' h (Ql (rDigest V nb nc) M h) := by
    intro d
    induction d with
    | zero =>
      intro r hr M' hk
      have hS' : CS M' V nb nc t := hS.kept (fun k g => hk k (by omega))
      have e : r = nb := by omega
      subst e
      refine Wp.g1 rfl ?_
      refine Wp.calli rfl (m2_rows M' h) ?_
      rw [hS'.1.2.2.1.1]
      refine Wp.brt rfl (by omega) ?_
      refine Wp.gt 68 rfl ?_
      exact rowsC nc 0 (by omega) M' _ hk
    | succ d ih =>
      intro r hr M' hk
      have hS' : CS M' V nb nc t := hS.kept (fun k g => hk k (by omega))
      have hrow := hS'.1.2.2.2.1 r (by omega)
      refine Wp.g1 rfl ?_
      refine Wp.calli rfl (m2_rows M' h) ?_
      rw [hS'.1.2.2.1.1]
      refine Wp.brf rfl (by omega) ?_
      refine Wp.g1 rfl ?_
      have k := m2_hashRow (hBag V nb nc (hfold (fun k => rCount V nb nc (k : Int)) 234 8) r) r nb M' h hS'.2.1 hS'.1.2.2.1.1 hnb (by omega)
      rw [show M' 3 r = V (18 + 8 * r) from hrow.1, hfold_congr (f := fun c => M' 4 (8 * r + c)) (g := fun c => if c = 7 then cw V nc r else V (18 + 8 * r + 1 + c)) 8 (fun c hc => by
        by_cases e : c = 7
        · subst e; rw [if_pos rfl]; exact hrow.2.2
        · rw [if_neg e]; exact hrow.2.1 c (by omega))] at k
      refine Wp.calll rfl k ?_
      refine Wp.gt 33 rfl ?_
      rw [w32_s (n := r) (by omega)]
      exact ih (r + 1) (by omega) M' hk
  have counts : ∀ d r : Nat, r + d = 8 → ∀ M' : Me, (∀ k, k < 61 ∨ k = 71 ∨ 74 ≤ k → M' k = M k) → Wp zS0 tX8_digest none 6 [zr 0, zl (hfold (fun k => rCount V nb nc (k : Int)) 234 r), zn, zi r, zn] [] M' h (Ql (rDigest V nb nc) M h) := by
    intro d
    induction d with
    | zero =>
      intro r hr M' hk
      have hS' : CS M' V nb nc t := hS.kept (fun k g => hk k (by omega))
      have e : r = 8 := by omega
      subst e
      refine Wp.g1 rfl ?_
      refine Wp.brt rfl (by decide) ?_
      refine Wp.gt 33 rfl ?_
      exact rowsB nb 0 (by omega) M' hk
    | succ d ih =>
      intro r hr M' hk
      have hS' : CS M' V nb nc t := hS.kept (fun k g => hk k (by omega))
      refine Wp.g1 rfl ?_
      refine Wp.brf rfl (by omega) ?_
      refine Wp.g1 rfl ?_
      refine Wp.call rfl (c_count hS' (r : Int)) (fun v M1 h1 q => ?_)
      obtain ⟨rfl, rfl, q1⟩ := q
      refine Wp.gt 6 rfl ?_
      rw [w32_s (n := r) (by omega)]
      exact ih (r + 1) (by omega) M1 (fun k g => by rw [q1 k g]; exact hk k g)
  refine Wp.gt 6 rfl ?_
  exact counts 8 0 (by omega) M (fun _ _ => rfl)
