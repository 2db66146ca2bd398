/-! the text: what fits, where it fails -/
def fitI (p : Nat) (x y : Int) : Int := if p = 0 ∨ p = 9 then (if 48 ≤ x ∧ x ≤ 55 then 1 else 0) else if p = 1 ∨ p = 8 then (if x = 58 then 1 else 0) else if p = 10 then (if 97 ≤ x ∧ x ≤ 108 then 1 else 0) else if p < 10 then (if x = 63 ∨ (48 ≤ x ∧ x ≤ 57) then 1 else 0) else (if 115 ≤ x ∧ x ≤ 122 ∧ y < x then 1 else 0)
theorem fitI_ne {p : Nat} {x y : Int} (h : fitI p x y = 1) : x ≠ 59 := by
  intro e
  subst e
  unfold fitI at h
  repeat' (split at h)
  all_goals first | omega | (exact absurd h (by decide))
def pv (tx : Nat → Int) (i : Nat) : Int := if i = 0 then 0 else tx (i - 1)
/-- where the text from i on, at the place p of a bag, is wrong -/
def scn (tx : Nat → Int) (len : Nat) : Nat → Nat → Nat → Int
  | 0, _, p => if 10 < p then -10006 else (len : Int)
  | d + 1, i, p => if 10 < p ∧ tx i = 59 then scn tx len d (i + 1) 0 else if fitI p (tx i) (pv tx i) = 1 then scn tx len d (i + 1) (p + 1) else (i : Int)
def sem (tx : Nat → Int) (n : Nat) : Int := sumI (fun j => if tx j = 59 then 1 else 0) n
theorem sem_bd (tx : Nat → Int) (n : Nat) : 0 ≤ sem tx n ∧ sem tx n ≤ n := sumI_bd n (fun j _ => by split <;> omega)
def eP (e : Int) (len : Nat) : Nat := if e = -10006 then len else e.toNat
theorem m_isTagSign (x : Int) (M : Me) (h : Ml) : Wp zS0 tX1_isTagSign none 0 [zi x] [] M h (Ri (if x = 63 ∨ (48 ≤ x ∧ x ≤ 57) then 1 else 0) M h) := by
  refine Wp.g1 rfl ?_
  refine Wp.br rfl (fun c0 => ?_) (fun c0 => ?_)
  · refine Wp.g1 rfl ?_
    exact Wp.rei rfl (by rw [if_pos (Or.inl c0)]) rfl rfl
  refine Wp.g1 rfl ?_
  refine Wp.br rfl (fun c1 => ?_) (fun c1 => ?_)
  · refine Wp.g1 rfl ?_
    exact Wp.rei rfl (by rw [if_neg (by omega)]) rfl rfl
  refine Wp.g1 rfl ?_
  refine Wp.br rfl (fun c2 => ?_) (fun c2 => ?_)
  · refine Wp.g1 rfl ?_
    exact Wp.rei rfl (by rw [if_neg (by omega)]) rfl rfl
  · refine Wp.g1 rfl ?_
    exact Wp.rei rfl (by rw [if_pos (by omega)]) rfl rfl
theorem m_isNextMark (x y : Int) (M : Me) (h : Ml) : Wp zS0 tX1_isNextMark none 0 [zi x, zi y] [] M h (Ri (if 115 ≤ x ∧ x ≤ 122 ∧ y < x then 1 else 0) M h) := by
  refine Wp.g1 rfl ?_
  refine Wp.br rfl (fun c0 => ?_) (fun c0 => ?_)
  · refine Wp.g1 rfl ?_
    exact Wp.rei rfl (by rw [if_neg (by omega)]) rfl rfl
  refine Wp.g1 rfl ?_
  refine Wp.br rfl (fun c1 => ?_) (fun c1 => ?_)
  · refine Wp.g1 rfl ?_
    exact Wp.rei rfl (by rw [if_neg (by omega)]) rfl rfl
  refine Wp.g1 rfl ?_
  refine Wp.br rfl (fun c2 => ?_) (fun c2 => ?_)
  · refine Wp.g1 rfl ?_
    exact Wp.rei rfl (by rw [if_neg (by omega)]) rfl rfl
  · refine Wp.g1 rfl ?_
    exact Wp.rei rfl (by rw [if_pos (by omega)]) rfl rfl
theorem m_fits (p : Nat) (x y : Int) (M : Me) (h : Ml) : Wp zS0 tX1_fits none 0 [zi p, zi x, zi y] [] M h (Ri (fitI p x y) M h) := by
  have e07 : ∀ a b : Int, Wp zS0 tX1_fits none 60 [zi p, zi x, zi y] [] M h (Ri (if 48 ≤ x ∧ x ≤ 55 then 1 else 0) M h) := by
    intro a b
    refine Wp.g1 rfl ?_
    refine Wp.br rfl (fun c0 => ?_) (fun c0 => ?_)
    · refine Wp.g1 rfl ?_
      exact Wp.rei rfl (by rw [if_neg (by omega)]) rfl rfl
    refine Wp.g1 rfl ?_
    refine Wp.br rfl (fun c1 => ?_) (fun c1 => ?_)
    · refine Wp.g1 rfl ?_
      exact Wp.rei rfl (by rw [if_neg (by omega)]) rfl rfl
    · refine Wp.g1 rfl ?_
      exact Wp.rei rfl (by rw [if_pos (by omega)]) rfl rfl
  have e58 : Wp zS0 tX1_fits none 78 [zi p, zi x, zi y] [] M h (Ri (if x = 58 then 1 else 0) M h) := by
    refine Wp.g1 rfl ?_
    refine Wp.br rfl (fun c0 => ?_) (fun c0 => ?_)
    · refine Wp.g1 rfl ?_
      exact Wp.rei rfl (by rw [if_neg c0]) rfl rfl
    · refine Wp.g1 rfl ?_
      exact Wp.rei rfl (by rw [if_pos (Decidable.not_not.mp c0)]) rfl rfl
  have eal : Wp zS0 tX1_fits none 90 [zi p, zi x, zi y] [] M h (Ri (if 97 ≤ x ∧ x ≤ 108 then 1 else 0) M h) := by
    refine Wp.g1 rfl ?_
    refine Wp.br rfl (fun c0 => ?_) (fun c0 => ?_)
    · refine Wp.g1 rfl ?_
      exact Wp.rei rfl (by rw [if_neg (by omega)]) rfl rfl
    refine Wp.g1 rfl ?_
    refine Wp.br rfl (fun c1 => ?_) (fun c1 => ?_)
    · refine Wp.g1 rfl ?_
      exact Wp.rei rfl (by rw [if_neg (by omega)]) rfl rfl
    · refine Wp.g1 rfl ?_
      exact Wp.rei rfl (by rw [if_pos (by omega)]) rfl rfl
  have eot : Wp zS0 tX1_fits none 108 [zi p, zi x, zi y] [] M h (Ri (if p < 10 then (if x = 63 ∨ (48 ≤ x ∧ x ≤ 57) then 1 else 0) else (if 115 ≤ x ∧ x ≤ 122 ∧ y < x then 1 else 0)) M h) := by
    refine Wp.g1 rfl ?_
    refine Wp.br rfl (fun c0 => ?_) (fun c0 => ?_)
    · refine Wp.g1 rfl ?_
      refine Wp.calli rfl (m_isNextMark x y M h) ?_
      rw [if_neg (c := p < 10) (by omega)]
      by_cases q : 115 ≤ x ∧ x ≤ 122 ∧ y < x
      · rw [if_pos q]; exact Wp.rei rfl rfl rfl rfl
      · rw [if_neg q]; exact Wp.rei rfl rfl rfl rfl
    · refine Wp.g1 rfl ?_
      refine Wp.calli rfl (m_isTagSign x M h) ?_
      refine Wp.g1 rfl ?_
      rw [if_pos (c := p < 10) (by omega)]
      by_cases q : x = 63 ∨ (48 ≤ x ∧ x ≤ 57)
      · rw [if_pos q]; exact Wp.rei rfl rfl rfl rfl
      · rw [if_neg q]; exact Wp.rei rfl rfl rfl rfl
  unfold fitI
  refine Wp.g1 rfl ?_
  by_cases hp : p < 11
  · rcases (show p = 0 ∨ p = 1 ∨ p = 2 ∨ p = 3 ∨ p = 4 ∨ p = 5 ∨ p = 6 ∨ p = 7 ∨ p = 8 ∨ p = 9 ∨ p = 10 by omega) with e | e | e | e | e | e | e | e | e | e | e <;> subst e <;> refine Wp.sw rfl ?_
    · exact e07 0 0
    · exact e58
    · exact eot
    · exact eot
    · exact eot
    · exact eot
    · exact eot
    · exact eot
    · exact e58
    · exact e07 0 0
    · exact eal
  · refine Wp.swo rfl (by omega) ?_
    rw [if_neg (c := p = 0 ∨ p = 9) (by omega), if_neg (c := p = 1 ∨ p = 8) (by omega), if_neg (c := p = 10) (by omega)]
    exact eot
theorem m_codeAt (i n : Nat) (M : Me) (h : Ml) (hn : M 59 1 = (n : Int)) (hl : n ≤ 80) (hi : i < n) : Wp zS0 tX1_codeAt none 0 [zr 59, zi i] [] M h (Ri (M 60 i) M h) := by
  refine Wp.g1 rfl ?_
  refine Wp.brf rfl (by omega) ?_
  refine Wp.g1 rfl ?_
  rw [hn]
  refine Wp.brf rfl (by omega) ?_
  refine Wp.g1 rfl ?_
  refine Wp.brf rfl (by omega) ?_
  refine Wp.g1 rfl ?_
  refine Wp.ld rfl rfl i rfl (by omega) ?_
  refine Wp.g1 rfl ?_
  exact Wp.rei rfl rfl rfl rfl
theorem m_codeAt_neg (M : Me) (h : Ml) : Wp zS0 tX1_codeAt none 0 [zr 59, zi (-1)] [] M h (Ri 0 M h) := by
  refine Wp.g1 rfl ?_
  refine Wp.brt rfl (by decide) ?_
  refine Wp.g1 rfl ?_
  exact Wp.rei rfl rfl rfl rfl
theorem m_check (tx : Nat → Int) (n : Nat) (M : Me) (h : Ml) (hn : M 59 1 = (n : Int)) (hl : n ≤ 80) (ht : ∀ i, i < n → M 60 i = tx i) :
    Wp zS0 tX1_check none 0 [zr 59, zn, zn] [] M h (fun v M' h' => v = none ∧ h' = h ∧ (∀ k, k ≠ 59 → M' k = M k) ∧ M' 59 1 = (n : Int) ∧ M' 59 2 = scn tx n n 0 0 ∧ M' 59 3 = sem tx (eP (scn tx n n 0 0) n)) := by
  have loop : ∀ d i : Nat, i + d = n → ∀ (p : Nat) (M' : Me), p ≤ i → (∀ k, k ≠ 59 → M' k = M k) → M' 59 1 = (n : Int) → M' 59 3 = sem tx i → scn tx n d i p = scn tx n n 0 0 →
      Wp zS0 tX1_check none 9 [zr 59, zi p, zi i] [] M' h (fun v M' h' => v = none ∧ h' = h ∧ (∀ k, k ≠ 59 → M' k = M k) ∧ M' 59 1 = (n : Int) ∧ M' 59 2 = scn tx n n 0 0 ∧ M' 59 3 = sem tx (eP (scn tx n n 0 0) n)) := by
    intro d
    induction d with
    | zero =>
      intro i hi p M' hp hk h1 h3 hs
      refine Wp.g1 rfl ?_
      rw [h1]
      refine Wp.brt rfl (by omega) ?_
      refine Wp.g1 rfl ?_
      have hs : (if 10 < p then -10006 else (n : Int)) = scn tx n n 0 0 := hs
      have ei : i = n := by omega
      rw [← hs]
      refine Wp.br rfl (fun c0 => ?_) (fun c0 => ?_)
      · refine Wp.g1 rfl ?_
        rw [if_neg (by omega)]
        refine Wp.re rfl ⟨rfl, rfl, fun k g => by rw [upd2_ne g]; exact hk k g, by rw [upd2_off (by decide)]; exact h1, by rw [upd2_at]; exact h1, ?_⟩
        rw [upd2_off (by decide), h3]
        unfold eP
        rw [if_neg (by omega), Int.toNat_natCast, ei]
      · refine Wp.g1 rfl ?_
        rw [if_pos (by omega)]
        refine Wp.re rfl ⟨rfl, rfl, fun k g => by rw [upd2_ne g]; exact hk k g, by rw [upd2_off (by decide)]; exact h1, by rw [upd2_at], ?_⟩
        rw [upd2_off (by decide), h3]
        unfold eP
        rw [if_pos rfl, ei]
    | succ d ih =>
      intro i hi p M' hp hk h1 h3 hs
      have hs : (if 10 < p ∧ tx i = 59 then scn tx n d (i + 1) 0 else if fitI p (tx i) (pv tx i) = 1 then scn tx n d (i + 1) (p + 1) else (i : Int)) = scn tx n n 0 0 := hs
      have hb := sem_bd tx i
      have et : M' 60 i = tx i := by rw [hk 60 (by decide)]; exact ht i (by omega)
      have kc : Wp zS0 tX1_codeAt none 0 [zr 59, zi i] [] M' h (Ri (tx i) M' h) := by rw [← et]; exact m_codeAt i n M' h h1 hl (by omega)
      have kp : Wp zS0 tX1_codeAt none 0 [zr 59, zi (w32 ((i : Int) - 1))] [] M' h (Ri (pv tx i) M' h) := by
        unfold pv
        by_cases e : i = 0
        · rw [if_pos e, e]
          exact m_codeAt_neg M' h
        · rw [if_neg e, show w32 ((i : Int) - 1) = ((i - 1 : Nat) : Int) by rw [w32_id ⟨by omega, by omega⟩]; omega, ← ht (i - 1) (by omega), ← hk 60 (by decide)]
          exact m_codeAt (i - 1) n M' h h1 hl (by omega)
      have main : ¬ (10 < p ∧ tx i = 59) → Wp zS0 tX1_check none 48 [zr 59, zi p, zi i] [] M' h (fun v M' h' => v = none ∧ h' = h ∧ (∀ k, k ≠ 59 → M' k = M k) ∧ M' 59 1 = (n : Int) ∧ M' 59 2 = scn tx n n 0 0 ∧ M' 59 3 = sem tx (eP (scn tx n n 0 0) n)) := by
        intro hno
        rw [if_neg hno] at hs
        refine Wp.g1 rfl ?_
        refine Wp.calli rfl kc ?_
        refine Wp.g1 rfl ?_
        refine Wp.calli rfl kp ?_
        refine Wp.calli rfl (m_fits p (tx i) (pv tx i) M' h) ?_
        by_cases hf : fitI p (tx i) (pv tx i) = 1
        · rw [if_pos hf] at hs
          have h59 := fitI_ne hf
          rw [hf]
          refine Wp.brf rfl (by decide) ?_
          refine Wp.gt 9 rfl ?_
          rw [w32_s (n := i) (by omega), w32_s (n := p) (by omega)]
          refine ih (i + 1) (by omega) (p + 1) M' (by omega) hk h1 ?_ hs
          have : sem tx (i + 1) = sem tx i + (if tx i = 59 then 1 else 0) := rfl
          rw [this, if_neg h59, Int.add_zero]
          exact h3
        · rw [if_neg hf] at hs
          have hf0 : fitI p (tx i) (pv tx i) = 0 := by
            unfold fitI at hf ⊢
            repeat' split
            all_goals first | rfl | skip
            all_goals (exfalso; apply hf; repeat' split)
            all_goals first | rfl | omega
          rw [hf0]
          refine Wp.brt rfl (by decide) ?_
          refine Wp.g1 rfl ?_
          rw [← hs]
          refine Wp.re rfl ⟨rfl, rfl, fun k g => by rw [upd2_ne g]; exact hk k g, by rw [upd2_off (by decide)]; exact h1, by rw [upd2_at], ?_⟩
          rw [upd2_off (by decide), h3]
          unfold eP
          rw [if_neg (by omega), Int.toNat_natCast]
      refine Wp.g1 rfl ?_
      rw [h1]
      refine Wp.brf rfl (by omega) ?_
      refine Wp.g1 rfl ?_
      refine Wp.br rfl (fun c0 => ?_) (fun c0 => ?_)
      · exact main (by omega)
      · refine Wp.g1 rfl ?_
        refine Wp.calli rfl kc ?_
        refine Wp.g1 rfl ?_
        refine Wp.br rfl (fun c1 => ?_) (fun c1 => ?_)
        · exact main (fun q => c1 q.2)
        · have c1 : tx i = 59 := Decidable.not_not.mp c1
          rw [if_pos ⟨by omega, c1⟩] at hs
          refine Wp.gt 9 rfl ?_
          rw [w32_s (n := i) (by omega), h3, w32_id (x := sem tx i + 1) ⟨by omega, by omega⟩]
          refine ih (i + 1) (by omega) 0 _ (by omega) (fun k g => by rw [upd2_ne g]; exact hk k g) (by rw [upd2_off (by decide)]; exact h1) ?_ hs
          have : sem tx (i + 1) = sem tx i + (if tx i = 59 then 1 else 0) := rfl
          rw [upd2_at, this, if_pos c1]
  refine Wp.gt 9 rfl ?_
  exact loop n 0 (by omega) 0 _ (by omega) (fun k g => by rw [upd2_ne g]) (by rw [upd2_off (by decide)]; exact hn) (by rw [upd2_at]; rfl) rfl
section TEXT
variable {M : Me} {h : Ml} {a : At} {t : Nat}
def eA (a : At) : Int := scn a.tx a.len a.len 0 0
def sSyntax (a : At) : Int × At := (eA a, a)
theorem CR.check {M M' : Me} {a : At} (hC : CR M a) (hk : ∀ k, k ≠ 59 → M' k = M k) (h1 : M' 59 1 = (a.len : Int)) : CR M' a :=
  CR.text (n := a.len) (f := a.tx) hC (fun k g => hk k (by omega)) h1 (fun i hi => by rw [hk 60 (by decide)]; exact hC.2.2.2.1.2 i hi)
theorem c_syntaxError (hC : CR M a) (hS : SO a t) : Wp zS0 tX8_syntaxError none 0 [zr 0] [] M h (Cs (sSyntax a) M h) := by
  refine Wp.g1 rfl ?_
  refine Wp.call rfl (m_check a.tx a.len M h hC.2.2.2.1.1 hS.2.2.2.1 hC.2.2.2.1.2) (fun v M1 h1 q => ?_)
  obtain ⟨rfl, rfl, q1, q2, q3, q4⟩ := q
  refine Wp.g1 rfl ?_
  exact Wp.re rfl ⟨by rw [q3]; rfl, rfl, fun k g => q1 k (by omega), hC.check q1 q2⟩
end TEXT
