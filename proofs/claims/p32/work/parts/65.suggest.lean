/-! suggestions are likely, free and sorted, and they are all that there are -/
section SUGG
variable {M : Me} {h : Ml} {V : Nat → Int} {nb nc t c b : Nat}
theorem lk_some (h : lkG V nb nc c b ≠ -1) : b < nb ∧ cw V nc b = -10006 ∧ ¬ V (18 + 8 * b + 7) < V (114 + 10 * c + 8) ∧ V 1 ≤ scN V c b 0 ∧ lkG V nb nc c b = scN V c b 0 := by
  unfold lkG at h ⊢
  by_cases g : b < nb ∧ cw V nc b = -10006 ∧ V (114 + 10 * c + 8) ≤ V (18 + 8 * b + 7) ∧ V 1 ≤ scI V c b 0
  · rw [if_pos g, scN_not (by omega)]
    exact ⟨g.1, g.2.1, by omega, g.2.2.2, rfl⟩
  · rw [if_neg g] at h
    exact absurd rfl h
theorem lk_iff (hW : WF V nb nc t) (hc : c < nc) (hb : b < nb) : lkG V nb nc c b ≠ -1 ↔ cw V nc b = -10006 ∧ V 1 ≤ scN V c b 0 := by
  have h1 := hW.2.1.2.1
  constructor
  · intro h
    obtain ⟨a1, a2, a3, a4, -⟩ := lk_some h
    exact ⟨a2, a4⟩
  · intro ⟨a1, a2⟩
    have hl : ¬ V (18 + 8 * b + 7) < V (114 + 10 * c + 8) := fun hl => by
      rw [scN_late hl] at a2; omega
    rw [scN_not hl] at a2
    unfold lkG
    rw [if_pos ⟨hb, a1, by omega, a2⟩]
    omega
theorem sug_at (hC : SC V nc) (hc : c < nc) (y : Int) : rSuggest V nb nc (V (114 + 10 * c)) y = if sgF (lkG V nb nc c) y 12 < 12 then V (18 + 8 * sgF (lkG V nb nc c) y 12) else -10001 := by
  unfold rSuggest
  rw [rkC_at hC hc, if_pos hc]
theorem m_areSuggested (hS : CS M V nb nc t) (hB : SB V nb) (hC : SC V nc) (h11 : V 11 ≤ 129) (hc : c < nc) : Wp zS0 tL_areSuggested none 0 [zr 0, zi (V (114 + 10 * c)), zi (V 1), zn, zn, zn, zn, zn, zn] [] M h (Qr 1 M h) := by
  have hW := hS.2.2.2
  have hnb := hW.1.2.2.1
  have hth := hW.2.1.2.1
  have hl : ∀ o, -1 ≤ lkG V nb nc c o := fun o => (lkG_bd hW hc o).1
  have dd := due_bd (l := lkG V nb nc c) (n := 12)
  obtain ⟨d, hd⟩ := Int.eq_ofNat_of_zero_le dd.1
  have hd12 : d ≤ 12 := by omega
  have enb : due (lkG V nb nc c) nb = (d : Int) := by
    have := sumI_tail (f := fun o => if lkG V nb nc c o = -1 then 0 else 1) (n := nb) (12 - nb) (fun j j1 _ => if_pos (Classical.byContradiction (fun q => by have := (lk_some q).1; omega)))
    rw [show nb + (12 - nb) = 12 by omega] at this
    rw [← hd]
    exact this.symm
  have none_at : ∀ x : Int, x < 0 ∨ (d : Int) ≤ x → rSuggest V nb nc (V (114 + 10 * c)) x = -10001 := fun x hx => by
    rw [sug_at hC hc, sg_none (fun b hb hne e => by
      have a1 := bet_nn (l := lkG V nb nc c) (n := 12) b
      have a2 := bet_due hl hb hne
      omega), if_neg (Nat.lt_irrefl _)]
  have fin : ∀ (M' : Me) (last before : Int) (r : Int) (y8 : ZV), (∀ k, k < 61 ∨ k = 71 ∨ 74 ≤ k → M' k = M k) → Wp zS0 tL_areSuggested none 177 [zr 0, zi (V (114 + 10 * c)), zi (V 1), zi last, zi before, zi d, zi d, zi r, y8] [] M' h (Qr 1 M h) := by
    intro M' last before r y8 hk
    have hS0 : CS M' V nb nc t := hS.kept (fun k g => hk k (Or.inl g))
    refine Wp.g1 rfl ?_
    refine Wp.brf rfl (fun q => q rfl) ?_
    refine Wp.g1 rfl ?_
    refine Wp.call rfl (c_suggest hS0 _ _) (fun v M1 h1 q => ?_)
    obtain ⟨rfl, rfl, q1⟩ := q
    rw [none_at _ (Or.inr (Int.le_refl _))]
    have hS1 : CS M1 V nb nc t := hS0.kept (fun k g => q1 k (Or.inl g))
    refine Wp.g1 rfl ?_
    refine Wp.brf rfl (fun q => q rfl) ?_
    refine Wp.g1 rfl ?_
    refine Wp.call rfl (c_suggest hS1 _ _) (fun v M2 h2 q => ?_)
    obtain ⟨rfl, rfl, q2⟩ := q
    rw [none_at _ (Or.inl (by decide))]
    refine Wp.g1 rfl ?_
    refine Wp.brf rfl (fun q => q rfl) ?_
    refine Wp.g1 rfl ?_
    exact Wp.re rfl ⟨rfl, rfl, fun k g => (q2 k g).trans ((q1 k g).trans (hk k g))⟩
  have loop2 : ∀ e r : Nat, r + e = nb → ∀ (M' : Me) (last before : Int) (y8 : ZV), (∀ k, k < 61 ∨ k = 71 ∨ 74 ≤ k → M' k = M k) → Wp zS0 tL_areSuggested none 109 [zr 0, zi (V (114 + 10 * c)), zi (V 1), zi last, zi before, zi d, zi (due (lkG V nb nc c) r), zi r, y8] [] M' h (Qr 1 M h) := by
    intro e
    induction e with
    | zero =>
      intro r he M' last before y8 hk
      have he : r = nb := he
      subst he
      have hS0 : CS M' V r nc t := hS.kept (fun k g => hk k (Or.inl g))
      refine Wp.g1 rfl ?_
      refine Wp.call rfl (c_count hS0 _) (fun v M1 h1 q => ?_)
      obtain ⟨rfl, rfl, q1⟩ := q
      refine Wp.brt rfl (by show (r : Int) ≤ (r : Int); omega) ?_
      rw [enb]
      exact fin M1 _ _ _ y8 (fun k g => (q1 k g).trans (hk k g))
    | succ e ih =>
      intro r he M' last before y8 hk
      have hr : r < nb := by omega
      have hS0 : CS M' V nb nc t := hS.kept (fun k g => hk k (Or.inl g))
      have dr := due_bd (l := lkG V nb nc c) (n := r)
      have es : due (lkG V nb nc c) (r + 1) = due (lkG V nb nc c) r + (if lkG V nb nc c r = -1 then 0 else 1) := rfl
      refine Wp.g1 rfl ?_
      refine Wp.call rfl (c_count hS0 _) (fun v M1 h1 q => ?_)
      obtain ⟨rfl, rfl, q1⟩ := q
      have hS1 : CS M1 V nb nc t := hS0.kept (fun k g => q1 k (Or.inl g))
      refine Wp.brf rfl (by show ¬ (nb : Int) ≤ (r : Int); omega) ?_
      refine Wp.g1 rfl ?_
      refine Wp.brf rfl (by omega) ?_
      refine Wp.g1 rfl ?_
      refine Wp.call rfl (n_bag hS1 hB h11 r (by omega)) (fun v M2 h2 q => ?_)
      obtain ⟨rfl, rfl, q2⟩ := q
      rw [if_pos hr]
      have hS2 : CS M2 V nb nc t := hS1.kept (fun k g => q2 k (Or.inl g))
      refine Wp.g1 rfl ?_
      refine Wp.call rfl (c_bag hS2 _ _) (fun v M3 h3 q => ?_)
      obtain ⟨rfl, rfl, q3⟩ := q
      rw [bag_7 hW hr]
      have hS3 : CS M3 V nb nc t := hS2.kept (fun k g => q3 k (Or.inl g))
      have hk3 : ∀ k, k < 61 ∨ k = 71 ∨ 74 ≤ k → M3 k = M k := fun k g => (q3 k g).trans ((q2 k g).trans ((q1 k g).trans (hk k g)))
      have no : ∀ M4 : Me, (∀ k, k < 61 ∨ k = 71 ∨ 74 ≤ k → M4 k = M k) → lkG V nb nc c r = -1 → Wp zS0 tL_areSuggested none 167 [zr 0, zi (V (114 + 10 * c)), zi (V 1), zi last, zi before, zi d, zi (due (lkG V nb nc c) r), zi r, zi (V (18 + 8 * r))] [zi (due (lkG V nb nc c) r)] M4 h3 (Qr 1 M h3) := by
        intro M4 hk4 hn
        refine Wp.gt 109 rfl ?_
        rw [if_pos hn] at es
        rw [w32_id (x := due (lkG V nb nc c) r + 0) ⟨by omega, by omega⟩, ← es, w32_s (n := r) (by omega)]
        exact ih (r + 1) (by omega) M4 _ _ _ hk4
      refine Wp.g1 rfl ?_
      by_cases g0 : cw V nc r = -10006
      · refine Wp.brf rfl (fun q => q g0) ?_
        refine Wp.g1 rfl ?_
        refine Wp.call rfl (c_score hS3 _ _ _) (fun v M4 h4 q => ?_)
        obtain ⟨rfl, rfl, q4⟩ := q
        have e0 : rScore V nb nc (V (114 + 10 * c)) (V (18 + 8 * r)) 0 = scN V c r 0 := score_at hW hC hc hr (z := 0) (by decide)
        rw [e0]
        have hk4 : ∀ k, k < 61 ∨ k = 71 ∨ 74 ≤ k → M4 k = M k := fun k g => (q4 k g).trans (hk3 k g)
        refine Wp.g1 rfl ?_
        by_cases g1 : V 1 ≤ scN V c r 0
        · have hy := (lk_iff hW hc hr).mpr ⟨g0, g1⟩
          refine Wp.brf rfl (by omega) ?_
          refine Wp.gt 109 rfl ?_
          rw [if_neg hy] at es
          rw [w32_id (x := due (lkG V nb nc c) r + 1) ⟨by omega, by omega⟩, ← es, w32_s (n := r) (by omega)]
          exact ih (r + 1) (by omega) M4 _ _ _ hk4
        · refine Wp.brt rfl (by omega) ?_
          exact no M4 hk4 (Classical.byContradiction (fun q => g1 ((lk_iff hW hc hr).mp q).2))
      · refine Wp.brt rfl g0 ?_
        exact no M3 hk3 (Classical.byContradiction (fun q => g0 ((lk_iff hW hc hr).mp q).1))
  have loop1 : ∀ e k : Nat, k + e = d → ∀ (M' : Me) (last before : Int) (y7 y8 : ZV), (∀ k, k < 61 ∨ k = 71 ∨ 74 ≤ k → M' k = M k) → ((k = 0 ∧ last = 100000) ∨ ∃ b, b < nb ∧ bet (lkG V nb nc c) b 12 + 1 = k ∧ last = lkG V nb nc c b ∧ before = V (18 + 8 * b)) → Wp zS0 tL_areSuggested none 12 [zr 0, zi (V (114 + 10 * c)), zi (V 1), zi last, zi before, zi k, zi k, y7, y8] [] M' h (Qr 1 M h) := by
    intro e
    induction e with
    | zero =>
      intro k he M' last before y7 y8 hk hi
      have he : k = d := he
      subst he
      have hS0 : CS M' V nb nc t := hS.kept (fun k g => hk k (Or.inl g))
      refine Wp.g1 rfl ?_
      refine Wp.brf rfl (by omega) ?_
      refine Wp.g1 rfl ?_
      refine Wp.call rfl (c_suggest hS0 _ _) (fun v M1 h1 q => ?_)
      obtain ⟨rfl, rfl, q1⟩ := q
      rw [none_at _ (Or.inr (Int.le_refl _))]
      refine Wp.g1 rfl ?_
      refine Wp.brf rfl (by decide) ?_
      refine Wp.gt 109 rfl ?_
      exact loop2 nb 0 (by omega) M1 _ _ y8 (fun k g => (q1 k g).trans (hk k g))
    | succ e ih =>
      intro k he M' last before y7 y8 hk hi
      have hS0 : CS M' V nb nc t := hS.kept (fun k g => hk k (Or.inl g))
      refine Wp.g1 rfl ?_
      refine Wp.brf rfl (by omega) ?_
      refine Wp.g1 rfl ?_
      refine Wp.call rfl (c_suggest hS0 _ _) (fun v M1 h1 q => ?_)
      obtain ⟨rfl, rfl, q1⟩ := q
      obtain ⟨s1, s2, s3⟩ := sg_some hl hd (k := k) (by omega)
      rw [sug_at hC hc, if_pos s1]
      generalize sgF (lkG V nb nc c) (k : Int) 12 = b at s1 s2 s3
      obtain ⟨b1, b2, b3, b4, b5⟩ := lk_some s2
      have hp := (hW.2.2.1 b b1).1
      have hS1 : CS M1 V nb nc t := hS0.kept (fun k g => q1 k (Or.inl g))
      refine Wp.g1 rfl ?_
      refine Wp.brt rfl (by omega) ?_
      refine Wp.g1 rfl ?_
      refine Wp.call rfl (c_score hS1 _ _ _) (fun v M2 h2 q => ?_)
      obtain ⟨rfl, rfl, q2⟩ := q
      have e0 : rScore V nb nc (V (114 + 10 * c)) (V (18 + 8 * b)) 0 = scN V c b 0 := score_at hW hC hc b1 (z := 0) (by decide)
      rw [e0]
      have hS2 : CS M2 V nb nc t := hS1.kept (fun k g => q2 k (Or.inl g))
      have hbd := (lkG_bd hW hc b).2
      have ord : scN V c b 0 < last ∨ (scN V c b 0 = last ∧ before < V (18 + 8 * b)) := by
        rcases hi with ⟨-, hi⟩ | ⟨b', hb', i1, i2, i3⟩
        · omega
        · have hbt := bet_bt (l := lkG V nb nc c) (b := b') (b' := b) (n := 12) s1 (by omega)
          unfold btr at hbt
          rcases hbt with g | ⟨g1, g2⟩
          · omega
          · have := hB b' b g2 b1
            omega
      refine Wp.g1 rfl ?_
      refine Wp.brf rfl (by omega) ?_
      refine Wp.g1 rfl ?_
      refine Wp.brf rfl (by omega) ?_
      have last' : ∀ M3 : Me, (∀ k, k < 61 ∨ k = 71 ∨ 74 ≤ k → M3 k = M2 k) → Wp zS0 tL_areSuggested none 71 [zr 0, zi (V (114 + 10 * c)), zi (V 1), zi last, zi before, zi k, zi k, zi (V (18 + 8 * b)), zi (scN V c b 0)] [] M3 h2 (Qr 1 M h2) := by
        intro M3 q3
        have hS3 : CS M3 V nb nc t := hS2.kept (fun k g => q3 k (Or.inl g))
        refine Wp.g1 rfl ?_
        refine Wp.call rfl (c_bag hS3 _ _) (fun v M4 h4 q => ?_)
        obtain ⟨rfl, rfl, q4⟩ := q
        rw [bag_7 hW b1, b2]
        refine Wp.g1 rfl ?_
        refine Wp.brt rfl rfl ?_
        refine Wp.gt 12 rfl ?_
        rw [w32_s (n := k) (by omega)]
        exact ih (k + 1) (by omega) M4 _ _ _ _ (fun k g => (q4 k g).trans ((q3 k g).trans ((q2 k g).trans ((q1 k g).trans (hk k g))))) (Or.inr ⟨b, b1, by omega, b5.symm, rfl⟩)
      refine Wp.g1 rfl ?_
      by_cases g : scN V c b 0 = last
      · refine Wp.brf rfl (fun q => q g) ?_
        refine Wp.g1 rfl ?_
        refine Wp.brf rfl (by omega) ?_
        exact last' M2 (fun k _ => rfl)
      · refine Wp.brt rfl g ?_
        exact last' M2 (fun k _ => rfl)
  refine Wp.gt 12 rfl ?_
  exact loop1 d 0 (by omega) M 100000 0 _ _ (fun k _ => rfl) (Or.inl ⟨rfl, rfl⟩)
end SUGG
