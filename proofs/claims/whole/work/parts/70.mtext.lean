/-! the reference: the text -/
def TX (M : Me) (len : Nat) (tx : Nat → Int) : Prop := M 74 4 = (len : Int) ∧ len ≤ 80 ∧ (∀ i, i < len → M 77 i = tx i) ∧ ∀ i, i < len → 33 ≤ tx i ∧ tx i ≤ 126
def sg (tx : Nat → Int) (len i : Nat) : Int := if i < len then tx i else -1
theorem fitI_y {p : Nat} (hp : p < 11) (x y y' : Int) : fitI p x y = fitI p x y' := by
  unfold fitI
  by_cases h1 : p = 0 ∨ p = 9
  · rw [if_pos h1, if_pos h1]
  · rw [if_neg h1, if_neg h1]
    by_cases h2 : p = 1 ∨ p = 8
    · rw [if_pos h2, if_pos h2]
    · rw [if_neg h2, if_neg h2]
      by_cases h3 : p = 10
      · rw [if_pos h3, if_pos h3]
      · rw [if_neg h3, if_neg h3, if_pos (c := p < 10) (by omega), if_pos (c := p < 10) (by omega)]
theorem fitI_0 (p : Nat) (y : Int) : fitI p (-1) y ≠ 1 := by
  unfold fitI
  repeat' split
  all_goals omega
theorem scn_rn {tx : Nat → Int} {len : Nat} : ∀ d i p : Nat, i + d = len → scn tx len d i p = -10006 ∨ ((i : Int) ≤ scn tx len d i p ∧ scn tx len d i p ≤ len) := by
  intro d
  induction d with
  | zero =>
    intro i p hi
    show (if 10 < p then (-10006 : Int) else (len : Int)) = -10006 ∨ ((i : Int) ≤ (if 10 < p then (-10006 : Int) else (len : Int)) ∧ (if 10 < p then (-10006 : Int) else (len : Int)) ≤ len)
    split <;> omega
  | succ d ih =>
    intro i p hi
    have e : scn tx len (d + 1) i p = if 10 < p ∧ tx i = 59 then scn tx len d (i + 1) 0 else if fitI p (tx i) (pv tx i) = 1 then scn tx len d (i + 1) (p + 1) else (i : Int) := rfl
    have k1 := ih (i + 1) 0 (by omega)
    have k2 := ih (i + 1) (p + 1) (by omega)
    rw [e]
    split
    · omega
    · split <;> omega
theorem scn_fit {tx : Nat → Int} {len i p : Nat} (hi : i < len) (h59 : ¬ (10 < p ∧ tx i = 59)) (hf : fitI p (tx i) (pv tx i) = 1) : scn tx len (len - i) i p = scn tx len (len - (i + 1)) (i + 1) (p + 1) := by
  rw [show len - i = len - (i + 1) + 1 by omega]
  show (if 10 < p ∧ tx i = 59 then _ else if fitI p (tx i) (pv tx i) = 1 then _ else (i : Int)) = _
  rw [if_neg h59, if_pos hf]
theorem scn_not {tx : Nat → Int} {len i p : Nat} (hi : i < len) (h59 : ¬ (10 < p ∧ tx i = 59)) (hf : fitI p (tx i) (pv tx i) ≠ 1) : scn tx len (len - i) i p = (i : Int) := by
  rw [show len - i = len - (i + 1) + 1 by omega]
  show (if 10 < p ∧ tx i = 59 then _ else if fitI p (tx i) (pv tx i) = 1 then _ else (i : Int)) = _
  rw [if_neg h59, if_neg hf]
theorem scn_59 {tx : Nat → Int} {len i p : Nat} (hi : i < len) (h59 : 10 < p ∧ tx i = 59) : scn tx len (len - i) i p = scn tx len (len - (i + 1)) (i + 1) 0 := by
  rw [show len - i = len - (i + 1) + 1 by omega]
  show (if 10 < p ∧ tx i = 59 then _ else if fitI p (tx i) (pv tx i) = 1 then _ else (i : Int)) = _
  rw [if_pos h59]
/-- where a bag of the text ends, or fails -/
def BE (tx : Nat → Int) (len s : Nat) (x : Int) : Prop := (∃ k, k < 11 ∧ s + k ≤ len ∧ x = -1 - ((s + k : Nat) : Int) ∧ scn tx len (len - s) s 0 = ((s + k : Nat) : Int)) ∨ ∃ e : Nat, x = (e : Int) ∧ s + 11 ≤ e ∧ e ≤ len ∧ (∀ i, s + 11 ≤ i → i < e → tx i ≠ 59) ∧ ((e = len ∧ scn tx len (len - s) s 0 = -10006) ∨ (e < len ∧ tx e ≠ 59 ∧ scn tx len (len - s) s 0 = (e : Int)) ∨ (e < len ∧ tx e = 59 ∧ scn tx len (len - s) s 0 = scn tx len (len - (e + 1)) (e + 1) 0))
section TX9
variable {M : Me} {h : Ml} {tx : Nat → Int} {len : Nat}
theorem m9_sign (hT : TX M len tx) (i : Nat) : Wp zS0 tX9_sign none 0 [zr 74, zi i] [] M h (Ri (sg tx len i) M h) := by
  obtain ⟨h1, h2, h3, h4⟩ := hT
  unfold sg
  refine Wp.g1 rfl ?_
  rw [h1]
  by_cases g : i < len
  · rw [if_pos g]
    refine Wp.brf rfl (by omega) ?_
    refine Wp.g1 rfl ?_
    refine Wp.ld rfl rfl i rfl (by omega) ?_
    rw [h3 i g]
    refine Wp.g1 rfl ?_
    exact Wp.rei rfl rfl rfl rfl
  · rw [if_neg g]
    refine Wp.brt rfl (by omega) ?_
    refine Wp.g1 rfl ?_
    exact Wp.rei rfl rfl rfl rfl
theorem m9_fits (hT : TX M len tx) (i k : Nat) (hk : k < 11) : Wp zS0 tX9_fits none 0 [zr 74, zi i, zi k, zn] [] M h (Ri (fitI k (sg tx len i) 0) M h) := by
  refine Wp.g1 rfl ?_
  refine Wp.calli rfl (m9_sign hT i) ?_
  generalize sg tx len i = x
  have colon : (k = 1 ∨ k = 8) → Wp zS0 tX9_fits none 17 [zr 74, zi i, zi k, zi x] [] M h (Ri (fitI k x 0) M h) := by
    intro g
    unfold fitI
    rw [if_neg (by omega), if_pos g]
    refine Wp.g1 rfl ?_
    by_cases e : x = 58
    · rw [if_pos e]
      refine Wp.brf rfl (fun q => q e) ?_
      refine Wp.g1 rfl ?_
      exact Wp.rei rfl rfl rfl rfl
    · rw [if_neg e]
      refine Wp.brt rfl e ?_
      refine Wp.g1 rfl ?_
      exact Wp.rei rfl rfl rfl rfl
  have oct : (k = 0 ∨ k = 9) → Wp zS0 tX9_fits none 39 [zr 74, zi i, zi k, zi x] [] M h (Ri (fitI k x 0) M h) := by
    intro g
    unfold fitI
    rw [if_pos g]
    refine Wp.g1 rfl ?_
    refine Wp.calli rfl (m9_in x 48 55 M h) ?_
    by_cases e : 48 ≤ x ∧ x ≤ 55
    · rw [if_pos e]
      exact Wp.rei rfl rfl rfl rfl
    · rw [if_neg e]
      exact Wp.rei rfl rfl rfl rfl
  refine Wp.g1 rfl ?_
  by_cases k1 : k = 1
  · refine Wp.brt rfl (by omega) ?_
    exact colon (Or.inl k1)
  refine Wp.brf rfl (by omega) ?_
  refine Wp.g1 rfl ?_
  by_cases k8 : k = 8
  · refine Wp.brf rfl (by omega) ?_
    exact colon (Or.inr k8)
  refine Wp.brt rfl (by omega) ?_
  refine Wp.g1 rfl ?_
  by_cases k0 : k = 0
  · refine Wp.brt rfl (by omega) ?_
    exact oct (Or.inl k0)
  refine Wp.brf rfl (by omega) ?_
  refine Wp.g1 rfl ?_
  by_cases k9 : k = 9
  · refine Wp.brf rfl (by omega) ?_
    exact oct (Or.inr k9)
  refine Wp.brt rfl (by omega) ?_
  refine Wp.g1 rfl ?_
  unfold fitI
  rw [if_neg (by omega), if_neg (by omega)]
  by_cases k10 : k = 10
  · rw [if_pos k10]
    refine Wp.brf rfl (by omega) ?_
    refine Wp.g1 rfl ?_
    refine Wp.calli rfl (m9_in x 97 108 M h) ?_
    by_cases e : 97 ≤ x ∧ x ≤ 108
    · rw [if_pos e]
      refine Wp.g1 rfl ?_
      exact Wp.rei rfl rfl rfl rfl
    · rw [if_neg e]
      refine Wp.g1 rfl ?_
      exact Wp.rei rfl rfl rfl rfl
  rw [if_neg k10, if_pos (by omega)]
  refine Wp.brt rfl (by omega) ?_
  refine Wp.g1 rfl ?_
  refine Wp.calli rfl (m9_in x 48 57 M h) ?_
  by_cases e : 48 ≤ x ∧ x ≤ 57
  · rw [if_pos e, if_pos (Or.inr e)]
    refine Wp.brt rfl (by decide) ?_
    refine Wp.g1 rfl ?_
    exact Wp.rei rfl rfl rfl rfl
  rw [if_neg e]
  refine Wp.brf rfl (fun q => q rfl) ?_
  refine Wp.g1 rfl ?_
  by_cases e2 : x = 63
  · rw [if_pos (Or.inl e2)]
    refine Wp.brf rfl (fun q => q e2) ?_
    refine Wp.g1 rfl ?_
    exact Wp.rei rfl rfl rfl rfl
  · rw [if_neg (fun q => q.elim e2 e)]
    refine Wp.brt rfl e2 ?_
    refine Wp.g1 rfl ?_
    exact Wp.rei rfl rfl rfl rfl
abbrev Bx (tx : Nat → Int) (len s : Nat) (M : Me) (h : Ml) : Option ZV → Me → Ml → Prop := fun v M' h' => (∃ x, v = some (zi x) ∧ BE tx len s x) ∧ M' = M ∧ h' = h
theorem m9_bagEnd (hT : TX M len tx) (s : Nat) (hs : s ≤ len) : Wp zS0 tX9_bagEnd none 0 [zr 74, zi s, zn, zn] [] M h (Bx tx len s M h) := by
  have hl := hT.2.1
  have marks : ∀ d e p : Nat, e + d = len → s + 11 ≤ e → 10 < p → (∀ i, s + 11 ≤ i → i < e → tx i ≠ 59) → scn tx len (len - s) s 0 = scn tx len (len - e) e p → ∀ last : Int, 0 ≤ last → last ≤ 1000 → (∀ x : Int, (115 ≤ x ∧ x ≤ 122 ∧ pv tx e < x) ↔ (last + 1 ≤ x ∧ x ≤ 122)) → 114 ≤ last →
      Wp zS0 tX9_bagEnd none 39 [zr 74, zi s, zi e, zi last] [] M h (Bx tx len s M h) := by
    intro d
    induction d with
    | zero =>
      intro e p he hse hp hn hsc last l0 l1 hl2 hl3
      have ee : e = len := by omega
      refine Wp.g1 rfl ?_
      refine Wp.calli rfl (m9_sign hT e) ?_
      refine Wp.g1 rfl ?_
      rw [w32_id (x := last + 1) ⟨by omega, by omega⟩]
      refine Wp.calli rfl (m9_in _ _ _ M h) ?_
      unfold sg
      rw [if_neg (c := e < len) (by omega), if_neg (by omega)]
      refine Wp.brt rfl rfl ?_
      refine Wp.g1 rfl ?_
      refine Wp.re rfl ⟨⟨_, rfl, Or.inr ⟨e, rfl, hse, by omega, hn, Or.inl ⟨ee, ?_⟩⟩⟩, rfl, rfl⟩
      rw [hsc, show len - e = 0 by omega]
      show (if 10 < p then (-10006 : Int) else (len : Int)) = -10006
      rw [if_pos hp]
    | succ d ih =>
      intro e p he hse hp hn hsc last l0 l1 hl2 hl3
      have esg : sg tx len e = tx e := if_pos (by omega)
      have hr := hT.2.2.2 e (by omega)
      refine Wp.g1 rfl ?_
      refine Wp.calli rfl (m9_sign hT e) ?_
      refine Wp.g1 rfl ?_
      rw [w32_id (x := last + 1) ⟨by omega, by omega⟩]
      refine Wp.calli rfl (m9_in _ _ _ M h) ?_
      rw [esg]
      by_cases g : last + 1 ≤ tx e ∧ tx e ≤ 122
      · rw [if_pos g]
        have g' := (hl2 (tx e)).mpr g
        have hf : fitI p (tx e) (pv tx e) = 1 := by
          unfold fitI
          rw [if_neg (by omega), if_neg (by omega), if_neg (by omega), if_neg (by omega), if_pos g']
        refine Wp.brf rfl (by decide) ?_
        refine Wp.g1 rfl ?_
        refine Wp.calli rfl (m9_sign hT e) ?_
        refine Wp.gt 39 rfl ?_
        rw [esg, w32_s (n := e) (by omega)]
        refine ih (e + 1) (p + 1) (by omega) (by omega) (by omega) (fun i h1 h2 => ?_) (hsc.trans (scn_fit (by omega) (by omega) hf)) (tx e) (by omega) (by omega) (fun x => ?_) (by omega)
        · by_cases ei : i = e
          · rw [ei]; omega
          · exact hn i h1 (by omega)
        · have ep : pv tx (e + 1) = tx e := by
            unfold pv
            rw [if_neg (by omega)]; rfl
          rw [ep]
          omega
      · rw [if_neg g]
        have g' : ¬ (115 ≤ tx e ∧ tx e ≤ 122 ∧ pv tx e < tx e) := fun q => g ((hl2 (tx e)).mp q)
        refine Wp.brt rfl rfl ?_
        refine Wp.g1 rfl ?_
        refine Wp.re rfl ⟨⟨_, rfl, Or.inr ⟨e, rfl, hse, by omega, hn, Or.inr ?_⟩⟩, rfl, rfl⟩
        by_cases e59 : tx e = 59
        · exact Or.inr ⟨by omega, e59, hsc.trans (scn_59 (by omega) ⟨hp, e59⟩)⟩
        · refine Or.inl ⟨by omega, e59, hsc.trans (scn_not (by omega) (by omega) ?_)⟩
          unfold fitI
          rw [if_neg (by omega), if_neg (by omega), if_neg (by omega), if_neg (by omega), if_neg g']
          decide
  have head : ∀ d k : Nat, k + d = 11 → s + k ≤ len → scn tx len (len - s) s 0 = scn tx len (len - (s + k)) (s + k) k → (k = 11 → 97 ≤ tx (s + 10) ∧ tx (s + 10) ≤ 108) →
      Wp zS0 tX9_bagEnd none 2 [zr 74, zi s, zi k, zn] [] M h (Bx tx len s M h) := by
    intro d
    induction d with
    | zero =>
      intro k hk hsk hsc h10
      have e : k = 11 := by omega
      subst e
      have h10 := h10 rfl
      refine Wp.g1 rfl ?_
      refine Wp.brt rfl (by decide) ?_
      refine Wp.gt 39 rfl ?_
      rw [w32_n (n := s + 11) (by omega) (by omega)]
      refine marks (len - (s + 11)) (s + 11) 11 (by omega) (Nat.le_refl _) (by decide) (fun i h1 h2 => by omega) hsc 114 (by decide) (by decide) (fun x => ?_) (by decide)
      have ep : pv tx (s + 11) = tx (s + 10) := by
        unfold pv
        rw [if_neg (by omega)]; rfl
      rw [ep]
      omega
    | succ d ih =>
      intro k hk hsk hsc h10
      refine Wp.g1 rfl ?_
      refine Wp.brf rfl (by omega) ?_
      refine Wp.g1 rfl ?_
      rw [w32_n (n := s + k) (by omega) (by omega)]
      refine Wp.calli rfl (m9_fits hT (s + k) k (by omega)) ?_
      by_cases g : fitI k (sg tx len (s + k)) 0 = 1
      · have hlt : s + k < len := by
          by_cases q : s + k < len
          · exact q
          · unfold sg at g
            rw [if_neg q] at g
            exact absurd g (fitI_0 k 0)
        have esg : sg tx len (s + k) = tx (s + k) := if_pos hlt
        rw [g]
        rw [esg] at g
        refine Wp.brt rfl (by decide) ?_
        refine Wp.gt 2 rfl ?_
        rw [w32_s (n := k) (by omega)]
        refine ih (k + 1) (by omega) (by omega) (hsc.trans (scn_fit hlt (by omega) (by rw [fitI_y (by omega) _ _ 0]; exact g))) (fun e => ?_)
        have e : k = 10 := by omega
        subst e
        unfold fitI at g
        rw [if_neg (by omega), if_neg (by omega), if_pos rfl] at g
        split at g
        · assumption
        · omega
      · have e0 : fitI k (sg tx len (s + k)) 0 = 0 := by
          have : fitI k (sg tx len (s + k)) 0 = 0 ∨ fitI k (sg tx len (s + k)) 0 = 1 := by
            generalize sg tx len (s + k) = x
            unfold fitI
            repeat' split
            all_goals first | exact Or.inl rfl | exact Or.inr rfl
          omega
        rw [e0]
        refine Wp.brf rfl (fun q => q rfl) ?_
        refine Wp.g1 rfl ?_
        refine Wp.re rfl ⟨⟨_, rfl, Or.inl ⟨k, by omega, hsk, ?_, ?_⟩⟩, rfl, rfl⟩
        · rw [w32_id (x := -1 - (s : Int)) ⟨by omega, by omega⟩, w32_id ⟨by omega, by omega⟩]
          omega
        · rw [hsc]
          by_cases hlt : s + k < len
          · have esg : sg tx len (s + k) = tx (s + k) := if_pos hlt
            rw [esg] at g
            exact scn_not hlt (by omega) (by rw [fitI_y (by omega) _ _ 0]; exact g)
          · rw [show len - (s + k) = 0 by omega]
            show (if 10 < k then (-10006 : Int) else (len : Int)) = _
            rw [if_neg (by omega)]
            omega
  refine Wp.gt 2 rfl ?_
  exact head 11 0 (by omega) (by omega) rfl (fun e => by omega)
theorem m9_syntaxError (hT : TX M len tx) : Wp zS0 tX9_syntaxError none 0 [zr 74, zn, zn, zn] [] M h (Ri (scn tx len len 0 0) M h) := by
  have hl := hT.2.1
  have loop : ∀ d k s : Nat, k + d = 80 → s ≤ len → 12 * k ≤ s → scn tx len len 0 0 = scn tx len (len - s) s 0 → ∀ y : ZV, Wp zS0 tX9_syntaxError none 4 [zr 74, zi s, zi k, y] [] M h (Ri (scn tx len len 0 0) M h) := by
    intro d
    induction d with
    | zero => intro k s hk hs h12 _ y; omega
    | succ d ih =>
      intro k s hk hs h12 hsc y
      refine Wp.g1 rfl ?_
      refine Wp.brf rfl (by omega) ?_
      refine Wp.g1 rfl ?_
      refine Wp.call rfl (m9_bagEnd hT s hs) (fun v M1 h1 q => ?_)
      obtain ⟨⟨x, rfl, hb⟩, rfl, rfl⟩ := q
      refine Wp.g1 rfl ?_
      rcases hb with ⟨j, hj, h2, h3, h4⟩ | ⟨e, rfl, h2, h3, -, h4⟩
      · refine Wp.brf rfl (by omega) ?_
        refine Wp.g1 rfl ?_
        refine Wp.rei rfl ?_ rfl rfl
        rw [hsc, h4, w32_id ⟨by omega, by omega⟩]
        omega
      · refine Wp.brt rfl (by omega) ?_
        refine Wp.g1 rfl ?_
        rw [hT.1]
        by_cases g : e = len
        · refine Wp.brf rfl (by omega) ?_
          refine Wp.g1 rfl ?_
          refine Wp.rei rfl ?_ rfl rfl
          rcases h4 with h4 | h4 | h4
          · rw [hsc, h4.2]
          · omega
          · omega
        · refine Wp.brt rfl (by omega) ?_
          refine Wp.g1 rfl ?_
          refine Wp.calli rfl (m9_sign hT e) ?_
          refine Wp.g1 rfl ?_
          have esg : sg tx len e = tx e := if_pos (by omega)
          rw [esg]
          rcases h4 with h4 | h4 | h4
          · omega
          · refine Wp.brf rfl h4.2.1 ?_
            refine Wp.g1 rfl ?_
            refine Wp.rei rfl ?_ rfl rfl
            rw [hsc, h4.2.2]
          · refine Wp.brt rfl h4.2.1 ?_
            refine Wp.gt 4 rfl ?_
            rw [w32_s (n := e) (by omega), w32_s (n := k) (by omega)]
            exact ih (k + 1) (e + 1) (by omega) (by omega) (by omega) (hsc.trans h4.2.2) _
  refine Wp.gt 4 rfl ?_
  exact loop 80 0 0 (by omega) (by omega) (by omega) rfl _
theorem m9_semicolons (hT : TX M len tx) (n : Nat) (hn : n ≤ len) : Wp zS0 tX9_semicolons none 0 [zr 74, zi n, zn, zn] [] M h (Ri (sem tx n) M h) := by
  have hl := hT.2.1
  have loop : ∀ d k : Nat, k + d = n → Wp zS0 tX9_semicolons none 4 [zr 74, zi n, zi (sem tx k), zi k] [] M h (Ri (sem tx n) M h) := by
    intro d
    induction d with
    | zero =>
      intro k hk
      have e : k = n := by omega
      subst e
      refine Wp.g1 rfl ?_
      refine Wp.brt rfl (Int.le_refl _) ?_
      refine Wp.g1 rfl ?_
      exact Wp.rei rfl rfl rfl rfl
    | succ d ih =>
      intro k hk
      have b := sem_bd tx k
      have next := ih (k + 1) (by omega)
      have e : sem tx (k + 1) = sem tx k + (if tx k = 59 then 1 else 0) := rfl
      rw [e] at next
      refine Wp.g1 rfl ?_
      refine Wp.brf rfl (by omega) ?_
      refine Wp.g1 rfl ?_
      refine Wp.calli rfl (m9_sign hT k) ?_
      refine Wp.g1 rfl ?_
      have esg : sg tx len k = tx k := if_pos (by omega)
      rw [esg]
      by_cases g : tx k = 59
      · rw [if_pos g] at next
        refine Wp.brf rfl (fun q => q g) ?_
        refine Wp.gt 4 rfl ?_
        rw [w32_s (n := k) (by omega), w32_id (x := sem tx k + 1) ⟨by omega, by omega⟩]
        exact next
      · rw [if_neg g] at next
        refine Wp.brt rfl g ?_
        refine Wp.gt 4 rfl ?_
        rw [w32_s (n := k) (by omega), w32_id (x := sem tx k + 0) ⟨by omega, by omega⟩]
        exact next
  refine Wp.gt 4 rfl ?_
  exact loop n 0 (by omega)
end TX9
