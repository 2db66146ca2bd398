/-! the text: the bags are read -/
theorem sem_same {tx : Nat → Int} {s : Nat} : ∀ q, s ≤ q → (∀ i, s ≤ i → i < q → tx i ≠ 59) → sem tx q = sem tx s := by
  intro q
  induction q with
  | zero => intro h _; rw [show s = 0 by omega]
  | succ q ih =>
    intro h hq
    by_cases e : s = q + 1
    · rw [e]
    · have h1 := ih (by omega) (fun i h1 h2 => hq i h1 (by omega))
      have h2 : sem tx (q + 1) = sem tx q + (if tx q = 59 then 1 else 0) := rfl
      rw [h2, if_neg (hq q (by omega) (by omega)), h1, Int.add_zero]
theorem scn_step {tx : Nat → Int} {len d i p : Nat} (hp : p < 11) (hi : i + d = len) (h : scn tx len d i p = -10006) : i < len ∧ fitI p (tx i) (pv tx i) = 1 ∧ scn tx len (len - (i + 1)) (i + 1) (p + 1) = -10006 := by
  cases d with
  | zero =>
    have h : (if 10 < p then -10006 else (len : Int)) = -10006 := h
    rw [if_neg (by omega)] at h
    omega
  | succ d =>
    have h : (if 10 < p ∧ tx i = 59 then scn tx len d (i + 1) 0 else if fitI p (tx i) (pv tx i) = 1 then scn tx len d (i + 1) (p + 1) else (i : Int)) = -10006 := h
    rw [if_neg (by omega)] at h
    by_cases g : fitI p (tx i) (pv tx i) = 1
    · rw [if_pos g] at h
      exact ⟨by omega, g, by rw [show len - (i + 1) = d by omega]; exact h⟩
    · rw [if_neg g] at h; omega
def gd (tx : Nat → Int) (len s : Nat) : Prop := s ≤ len ∧ scn tx len (len - s) s 0 = -10006
theorem gd_bag {tx : Nat → Int} {len s : Nat} (h : gd tx len s) : s + 11 ≤ len ∧ (∀ k, k < 11 → fitI k (tx (s + k)) (pv tx (s + k)) = 1) ∧ scn tx len (len - (s + 11)) (s + 11) 11 = -10006 := by
  have go : ∀ n, n ≤ 11 → s + n ≤ len ∧ (∀ k, k < n → fitI k (tx (s + k)) (pv tx (s + k)) = 1) ∧ scn tx len (len - (s + n)) (s + n) n = -10006 := by
    intro n
    induction n with
    | zero => intro _; exact ⟨h.1, fun k hk => by omega, h.2⟩
    | succ n ih =>
      intro hn
      obtain ⟨h1, h2, h3⟩ := ih (by omega)
      obtain ⟨g1, g2, g3⟩ := scn_step (by omega) (by omega) h3
      refine ⟨by omega, fun k hk => ?_, g3⟩
      by_cases e : k = n
      · subst e; exact g2
      · exact h2 k (by omega)
  exact go 11 (by omega)
theorem scn_marks {tx : Nat → Int} {len : Nat} : ∀ (d i p : Nat), 11 ≤ p → i + d = len → scn tx len d i p = -10006 → ∃ m, m ≤ d ∧ (∀ j, j < m → 115 ≤ tx (i + j) ∧ tx (i + j) ≤ 122 ∧ pv tx (i + j) < tx (i + j)) ∧ (m = d ∨ (m < d ∧ tx (i + m) = 59 ∧ scn tx len (d - m - 1) (i + m + 1) 0 = -10006)) := by
  intro d
  induction d with
  | zero => intro i p _ _ _; exact ⟨0, Nat.le_refl _, fun j hj => by omega, Or.inl rfl⟩
  | succ d ih =>
    intro i p hp hi h
    have h : (if 10 < p ∧ tx i = 59 then scn tx len d (i + 1) 0 else if fitI p (tx i) (pv tx i) = 1 then scn tx len d (i + 1) (p + 1) else (i : Int)) = -10006 := h
    by_cases g : tx i = 59
    · rw [if_pos ⟨by omega, g⟩] at h
      exact ⟨0, Nat.zero_le _, fun j hj => by omega, Or.inr ⟨by omega, g, h⟩⟩
    · rw [if_neg (fun q => g q.2)] at h
      by_cases g2 : fitI p (tx i) (pv tx i) = 1
      · rw [if_pos g2] at h
        obtain ⟨m, h1, h2, h3⟩ := ih (i + 1) (p + 1) (by omega) (by omega) h
        have g3 : 115 ≤ tx i ∧ tx i ≤ 122 ∧ pv tx i < tx i := by
          unfold fitI at g2
          rw [if_neg (by omega), if_neg (by omega), if_neg (by omega), if_neg (by omega)] at g2
          split at g2
          · assumption
          · omega
        refine ⟨m + 1, by omega, fun j hj => ?_, ?_⟩
        · by_cases e : j = 0
          · subst e; exact g3
          · have := h2 (j - 1) (by omega)
            rw [show i + 1 + (j - 1) = i + j by omega] at this
            exact this
        · rcases h3 with h3 | ⟨h3, h4, h5⟩
          · exact Or.inl (by omega)
          · rw [show i + 1 + m = i + (m + 1) by omega] at h4 h5
            exact Or.inr ⟨by omega, h4, by rw [show d + 1 - (m + 1) - 1 = d - m - 1 by omega]; exact h5⟩
      · rw [if_neg g2] at h; omega
/-- the fields of a bag in a text without an error -/
theorem gd_facts {tx : Nat → Int} {len s : Nat} (h : gd tx len s) : s + 11 ≤ len ∧ (48 ≤ tx s ∧ tx s ≤ 55) ∧ (∀ k, k < 6 → tx (s + 2 + k) = 63 ∨ (48 ≤ tx (s + 2 + k) ∧ tx (s + 2 + k) ≤ 57)) ∧ (48 ≤ tx (s + 9) ∧ tx (s + 9) ≤ 55) ∧ (97 ≤ tx (s + 10) ∧ tx (s + 10) ≤ 108) ∧ (∀ j, j < nm tx len s → 115 ≤ tx (s + 11 + j) ∧ tx (s + 11 + j) ≤ 122 ∧ pv tx (s + 11 + j) < tx (s + 11 + j)) ∧
    (∀ i, s ≤ i → i < s + 11 + nm tx len s → tx i ≠ 59) ∧ (s + 11 + nm tx len s = len ∨ (s + 11 + nm tx len s < len ∧ tx (s + 11 + nm tx len s) = 59 ∧ gd tx len (s + 11 + nm tx len s + 1))) := by
  obtain ⟨h1, h2, h3⟩ := gd_bag h
  obtain ⟨m, m1, m2, m3⟩ := scn_marks _ _ _ (by omega) (by omega) h3
  have em : nm tx len s = m := by
    unfold nm
    rcases m3 with m3 | ⟨m3, m4, m5⟩
    · rw [← m3]
      exact fnd_none (fun j hj => by rw [if_neg (by have := m2 j hj; omega)]; decide)
    · exact fnd_some m3 (by rw [if_pos m4]) (fun j hj => by rw [if_neg (by have := m2 j hj; omega)]; decide)
  rw [em]
  have f0 := h2 0 (by omega)
  have f9 := h2 9 (by omega)
  have f10 := h2 10 (by omega)
  have tag : ∀ k, k < 6 → tx (s + 2 + k) = 63 ∨ (48 ≤ tx (s + 2 + k) ∧ tx (s + 2 + k) ≤ 57) := fun k hk => by
    have g := h2 (2 + k) (by omega)
    unfold fitI at g
    rw [if_neg (by omega), if_neg (by omega), if_neg (by omega), if_pos (by omega), ← Nat.add_assoc] at g
    split at g
    · assumption
    · omega
  refine ⟨h1, ?_, tag, ?_, ?_, m2, fun i i1 i2 => ?_, ?_⟩
  · unfold fitI at f0
    rw [if_pos (by omega)] at f0
    split at f0
    · assumption
    · omega
  · unfold fitI at f9
    rw [if_pos (by omega)] at f9
    split at f9
    · assumption
    · omega
  · unfold fitI at f10
    rw [if_neg (by omega), if_neg (by omega), if_pos rfl] at f10
    split at f10
    · assumption
    · omega
  · by_cases e : i < s + 11
    · have := fitI_ne (h2 (i - s) (by omega))
      rw [show s + (i - s) = i by omega] at this
      exact this
    · have := m2 (i - (s + 11)) (by omega)
      rw [show s + 11 + (i - (s + 11)) = i by omega] at this
      omega
  · rcases m3 with m3 | ⟨m3, m4, m5⟩
    · exact Or.inl (by omega)
    · refine Or.inr ⟨by omega, m4, by omega, ?_⟩
      rw [show len - (s + 11 + m + 1) = len - (s + 11) - m - 1 by omega]
      exact m5
/-- the bags from s on are registered, at most so many -/
def rdV (tx : Nat → Int) (len : Nat) : Nat → Nat → (Nat → Int) → Nat → (Nat → Int) × Nat
  | 0, _, V, nb => (V, nb)
  | f + 1, s, V, nb => if s + 11 + nm tx len s < len then rdV tx len f (s + 11 + nm tx len s + 1) (nBag V nb (tx s - 48) (leg (tgF tx s 6) (ilF tx s 6)) (ilF tx s 6) (tx (s + 9) - 48) (tx (s + 10) - 97) (mkF tx s (nm tx len s))) (nb + 1)
    else (nBag V nb (tx s - 48) (leg (tgF tx s 6) (ilF tx s 6)) (ilF tx s 6) (tx (s + 9) - 48) (tx (s + 10) - 97) (mkF tx s (nm tx len s)), nb + 1)
theorem WF.rd {tx : Nat → Int} {len s : Nat} (hg : gd tx len s) {V : Nat → Int} {nb nc t t' : Nat} (h : WF V nb nc t) (ht : t ≤ t') (hn : nb < 12) (h11 : V 11 + 1 ≤ 12 * t') : WF (nBag V nb (tx s - 48) (leg (tgF tx s 6) (ilF tx s 6)) (ilF tx s 6) (tx (s + 9) - 48) (tx (s + 10) - 97) (mkF tx s (nm tx len s))) (nb + 1) nc t' := by
  obtain ⟨g1, g2, g3, g4, g5, g6, -⟩ := gd_facts hg
  have hb := tgF_bd g3 6 (by omega)
  have hi := ilF_bd tx s 6 (by omega)
  have hm := mkF_bd (tx := tx) (s := s) (nm tx len s) (fun j hj => by have := g6 j hj; omega)
  exact h.addB ht hn h11 (by omega) (leg_rn (by omega)) hi (by omega) (by omega) hm
def sRead (a : At) : Int × At := if eA a = -10006 then
    (if 12 - (a.nb : Int) < sem a.tx a.len + 1 then (-10004, (a.1, a.2.1, a.2.2.1, (-10004, 12 - (a.nb : Int), -10006))) else
      (sem a.tx a.len + 1, (((rdV a.tx a.len 12 0 a.V a.nb).1, (rdV a.tx a.len 12 0 a.V a.nb).2, a.nc), (sv a).2.1, (0, a.tx), a.2.2.2)))
  else (-10005, (a.1, a.2.1, a.2.2.1, (-10005, sem a.tx (eP (eA a) a.len), eA a)))
section READ
variable {M : Me} {h : Ml} {a : At} {t : Nat}
theorem m_refuse (x y z : Int) (M : Me) (h : Ml) : Wp zS0 tX8_refuse none 0 [zr 0, zi x, zi y, zi z] [] M h (Ri x (upd2 (upd2 (upd2 M 71 0 x) 71 1 y) 71 2 z) h) := by
  refine Wp.g1 rfl ?_
  refine Wp.sto rfl rfl 0 rfl (by decide) ?_
  refine Wp.g1 rfl ?_
  refine Wp.sto rfl rfl 1 rfl (by decide) ?_
  refine Wp.g1 rfl ?_
  refine Wp.sto rfl rfl 2 rfl (by decide) ?_
  refine Wp.g1 rfl ?_
  exact Wp.rei rfl rfl rfl rfl
theorem CR.prob (hC : CR M a) (x y z : Int) : CR (upd2 (upd2 (upd2 M 71 0 x) 71 1 y) 71 2 z) (a.1, a.2.1, a.2.2.1, (x, y, z)) := by
  obtain ⟨h1, h2, h3, h4, h6⟩ := hC
  have k : ∀ k, k ≠ 71 → upd2 (upd2 (upd2 M 71 0 x) 71 1 y) 71 2 z k = M k := fun k g => by rw [upd2_ne g, upd2_ne g, upd2_ne g]
  refine ⟨h1.kept (fun q _ g => k q (by omega)), ?_, h3.kept (fun q g1 g2 => k q (by omega)), ?_, ?_⟩
  · rw [k 2 (by decide), k 5 (by decide)]; exact h2
  · rw [k 59 (by decide), k 60 (by decide)]; exact h4
  · refine ⟨?_, ?_, ?_⟩
    · rw [upd2_off (by decide), upd2_off (by decide), upd2_at]
    · rw [upd2_off (by decide), upd2_at]
    · rw [upd2_at]
theorem c_readBags (hC : CR M a) (hS : SO a t) (ht : t ≤ 600) : Wp zS0 tX8_readBags none 0 [zr 0, zn, zn, zn, zn] [] M h (Cs (sRead a) M h) := by
  have hl : a.len ≤ 80 := hS.2.2.2.1
  have hr : ∀ i, i < a.len → 33 ≤ a.tx i ∧ a.tx i ≤ 126 := hS.2.2.2.2
  have hW := hS.1
  have hnb : a.nb ≤ 12 := hW.1.2.2.1
  have h11 := hW.2.1.2.2.2.2.2.1
  have hsb := sem_bd a.tx a.len
  have loop : ∀ d : Nat, ∀ (s : Nat) (r : Nat) (M' : Me) (V : Nat → Int) (nb : Nat), sem a.tx a.len + 1 ≤ (r : Int) + d → (r : Int) = sem a.tx s → gd a.tx a.len s → nb = a.nb + r → (r : Int) ≤ sem a.tx a.len → CR M' ((V, nb, a.nc), (sv a).2) → WF V nb a.nc (t + 1) → V 11 = a.V 11 + r → (∀ k, 74 ≤ k → M' k = M k) → sem a.tx a.len + 1 ≤ 12 - a.nb → rdV a.tx a.len d s V nb = rdV a.tx a.len 12 0 a.V a.nb →
      Wp zS0 tX8_readBags none 99 [zr 0, zi (12 - (a.nb : Int)), zi (sem a.tx a.len + 1), zi s, zi r] [] M' h (Cs (sem a.tx a.len + 1, (((rdV a.tx a.len 12 0 a.V a.nb).1, (rdV a.tx a.len 12 0 a.V a.nb).2, a.nc), (sv a).2.1, (0, a.tx), a.2.2.2)) M h) := by
    intro d
    induction d with
    | zero => intro s r M' V nb e1 e2 e3 e4 e5; omega
    | succ d ih =>
      intro s r M' V nb e1 e2 e3 e4 e5 hC' hW' hV hk hroom hrd
      obtain ⟨g1, g2, g3, g4, g5, g6, g7, g8⟩ := gd_facts e3
      have hb := tgF_bd g3 6 (by omega)
      refine Wp.g1 rfl ?_
      refine Wp.brf rfl (by omega) ?_
      refine Wp.g1 rfl ?_
      refine Wp.call rfl (m_readBag a.tx a.len s M' h hC'.2.2.2.1.1 hl hC'.2.2.2.1.2 hr g1 g3) (fun v M1 h1 q => ?_)
      obtain ⟨rfl, rfl, q1, q2, q3, q4, q5, q6, q7⟩ := q
      have hnm : nm a.tx a.len s ≤ a.len - (s + 11) := fnd_le _ _ _
      refine Wp.g1 rfl ?_
      refine Wp.ld rfl rfl 0 rfl (by decide) ?_
      refine Wp.g1 rfl ?_
      refine Wp.ld rfl rfl 1 rfl (by decide) ?_
      refine Wp.g1 rfl ?_
      refine Wp.ld rfl rfl 2 rfl (by decide) ?_
      refine Wp.g1 rfl ?_
      refine Wp.ld rfl rfl 3 rfl (by decide) ?_
      refine Wp.g1 rfl ?_
      refine Wp.ld rfl rfl 4 rfl (by decide) ?_
      refine Wp.g1 rfl ?_
      refine Wp.ld rfl rfl 5 rfl (by decide) ?_
      rw [q2, q3, q4, q5, q6, q7]
      have hC1 : CR M1 ((V, nb, a.nc), (sv a).2) := hC'.kept (fun k g => q1 k (by omega))
      have hR1 : OfRel M1 1 V nb a.nc := hC1.1
      refine Wp.call rfl (o_addBag (t := t + 1) hR1 hC1.2.1.1 hW' (by omega) (by omega) _ _ _ _ _ _ (by omega)) (fun v M2 h2 q => ?_)
      obtain ⟨rfl, rfl, q8, q9, q10, q11⟩ := q
      have hC2 := CR.office hC1 (fun k g => q8 k (by omega)) q9 q10 q11
      have hk2 : ∀ k, 74 ≤ k → M2 k = M k := fun k g => by rw [q8 k (by omega), q1 k (by omega)]; exact hk k g
      have hW2 := hW'.rd e3 (Nat.le_refl _) (by omega) (by omega)
      have hV2 := (nBag_hd (V := V) (nb := nb) (a.tx s - 48) (leg (tgF a.tx s 6) (ilF a.tx s 6)) (ilF a.tx s 6) (a.tx (s + 9) - 48) (a.tx (s + 10) - 97) (mkF a.tx s (nm a.tx a.len s))).2.1
      refine Wp.gt 99 rfl ?_
      rw [w32_s (n := s + 11 + nm a.tx a.len s) (by omega), w32_s (n := r) (by omega)]
      have hrd : (if s + 11 + nm a.tx a.len s < a.len then rdV a.tx a.len d (s + 11 + nm a.tx a.len s + 1) (nBag V nb (a.tx s - 48) (leg (tgF a.tx s 6) (ilF a.tx s 6)) (ilF a.tx s 6) (a.tx (s + 9) - 48) (a.tx (s + 10) - 97) (mkF a.tx s (nm a.tx a.len s))) (nb + 1) else (nBag V nb (a.tx s - 48) (leg (tgF a.tx s 6) (ilF a.tx s 6)) (ilF a.tx s 6) (a.tx (s + 9) - 48) (a.tx (s + 10) - 97) (mkF a.tx s (nm a.tx a.len s)), nb + 1)) = rdV a.tx a.len 12 0 a.V a.nb := hrd
      have hsm := sem_same (tx := a.tx) (s := s) (s + 11 + nm a.tx a.len s) (by omega) g7
      rcases g8 with g8 | ⟨g8, g9, g10⟩
      · rw [if_neg (by omega)] at hrd
        rw [g8] at hsm
        refine Wp.g1 rfl ?_
        refine Wp.brt rfl (by omega) ?_
        refine Wp.g1 rfl ?_
        refine Wp.callv rfl (m_clear M2 _) ?_
        refine Wp.g1 rfl ?_
        rw [← hrd]
        exact Wp.re rfl ⟨rfl, rfl, fun k g => by rw [upd2_ne (by omega)]; exact hk2 k g, CR.text hC2 (fun k g => by rw [upd2_ne (by omega)]) (by rw [upd2_at]; rfl) (fun i hi => by omega)⟩
      · rw [if_pos g8] at hrd
        have hs2 : sem a.tx (s + 11 + nm a.tx a.len s + 1) = sem a.tx (s + 11 + nm a.tx a.len s) + (if a.tx (s + 11 + nm a.tx a.len s) = 59 then 1 else 0) := rfl
        rw [if_pos g9, hsm] at hs2
        have hs3 : sem a.tx (s + 11 + nm a.tx a.len s + 1) ≤ sem a.tx a.len := by
          have mono : ∀ e m : Nat, sem a.tx m ≤ sem a.tx (m + e) := by
            intro e
            induction e with
            | zero => intro m; exact Int.le_refl _
            | succ e ihe =>
              intro m
              have h1 := ihe m
              have h2 : sem a.tx (m + (e + 1)) = sem a.tx (m + e) + (if a.tx (m + e) = 59 then 1 else 0) := rfl
              rw [h2]
              split <;> omega
          have := mono (a.len - (s + 11 + nm a.tx a.len s + 1)) (s + 11 + nm a.tx a.len s + 1)
          rw [show s + 11 + nm a.tx a.len s + 1 + (a.len - (s + 11 + nm a.tx a.len s + 1)) = a.len by omega] at this
          exact this
        refine ih (s + 11 + nm a.tx a.len s + 1) (r + 1) M2 _ (nb + 1) (by omega) (by omega) g10 (by omega) (by omega) hC2 hW2 (by rw [hV2]; omega) hk2 hroom hrd
  have hRR : M 2 3 = (a.nb : Int) := hC.1.2.2.1.1
  unfold sRead
  refine Wp.g1 rfl ?_
  refine Wp.call rfl (m_check a.tx a.len M h hC.2.2.2.1.1 hl hC.2.2.2.1.2) (fun v M1 h1 q => ?_)
  obtain ⟨rfl, rfl, q1, q2, q3, q4⟩ := q
  have hC1 : CR M1 a := hC.check q1 q2
  refine Wp.g1 rfl ?_
  rw [show M1 59 2 = eA a from q3]
  by_cases he : eA a = -10006
  · rw [if_pos he]
    refine Wp.brt rfl he ?_
    refine Wp.g1 rfl ?_
    refine Wp.calli rfl (m2_rows M1 _) ?_
    refine Wp.g1 rfl ?_
    have e4 : M1 59 3 = sem a.tx a.len := by
      rw [q4, show scn a.tx a.len a.len 0 0 = -10006 from he]
      rfl
    rw [e4, q1 2 (by decide), hRR, w32_id (x := 12 - (a.nb : Int)) ⟨by omega, by omega⟩, w32_id (x := sem a.tx a.len + 1) ⟨by omega, by omega⟩]
    by_cases hroom : 12 - (a.nb : Int) < sem a.tx a.len + 1
    · rw [if_pos hroom]
      refine Wp.brf rfl (by omega) ?_
      refine Wp.g1 rfl ?_
      refine Wp.calli rfl (m_refuse _ _ _ M1 _) ?_
      exact Wp.re rfl ⟨rfl, rfl, fun k g => by rw [upd2_ne (by omega), upd2_ne (by omega), upd2_ne (by omega)]; exact q1 k (by omega), hC1.prob _ _ _⟩
    · rw [if_neg hroom]
      refine Wp.brt rfl (by omega) ?_
      refine Wp.g1 rfl ?_
      refine Wp.call rfl (cr_save hC1 hS) (fun v M2 h2 q => ?_)
      obtain ⟨rfl, rfl, q5, q6⟩ := q
      refine Wp.gt 99 rfl ?_
      exact loop 12 0 0 M2 a.V a.nb (by omega) rfl ⟨Nat.zero_le _, he⟩ rfl (by omega) q6 (hW.mono (by omega)) (by omega) (fun k g => by rw [q5 k g]; exact q1 k (by omega)) (by omega) rfl
  · rw [if_neg he]
    refine Wp.brf rfl he ?_
    refine Wp.g1 rfl ?_
    rw [show M1 59 2 = eA a from q3, q4]
    refine Wp.calli rfl (m_refuse _ _ _ M1 _) ?_
    exact Wp.re rfl ⟨rfl, rfl, fun k g => by rw [upd2_ne (by omega), upd2_ne (by omega), upd2_ne (by omega)]; exact q1 k (by omega), hC1.prob _ _ _⟩
theorem rdV_WF {tx : Nat → Int} {len nc t : Nat} : ∀ (d s r : Nat) (V : Nat → Int) (nb : Nat), gd tx len s → (r : Int) = sem tx s → WF V nb nc t → V 11 + (sem tx len + 1 - r) ≤ 12 * t → (nb : Int) + (sem tx len + 1 - r) ≤ 12 → (r : Int) ≤ sem tx len → WF (rdV tx len d s V nb).1 (rdV tx len d s V nb).2 nc t := by
  intro d
  induction d with
  | zero => intro s r V nb _ _ h _ _ _; exact h
  | succ d ih =>
    intro s r V nb hg hr hW h1 h2 h3
    obtain ⟨g1, g2, g3, g4, g5, g6, g7, g8⟩ := gd_facts hg
    have hW2 := hW.rd hg (Nat.le_refl _) (by omega) (by omega)
    have hV2 := (nBag_hd (V := V) (nb := nb) (tx s - 48) (leg (tgF tx s 6) (ilF tx s 6)) (ilF tx s 6) (tx (s + 9) - 48) (tx (s + 10) - 97) (mkF tx s (nm tx len s))).2.1
    have hsm := sem_same (tx := tx) (s := s) (s + 11 + nm tx len s) (by omega) g7
    unfold rdV
    rcases g8 with g8 | ⟨g8, g9, g10⟩
    · rw [if_neg (by omega)]
      exact hW2
    · rw [if_pos g8]
      have hs2 : sem tx (s + 11 + nm tx len s + 1) = sem tx (s + 11 + nm tx len s) + (if tx (s + 11 + nm tx len s) = 59 then 1 else 0) := rfl
      rw [if_pos g9, hsm] at hs2
      have hs3 : sem tx (s + 11 + nm tx len s + 1) ≤ sem tx len := by
        have mono : ∀ e m : Nat, sem tx m ≤ sem tx (m + e) := by
          intro e
          induction e with
          | zero => intro m; exact Int.le_refl _
          | succ e ihe =>
            intro m
            have h1 := ihe m
            have h2 : sem tx (m + (e + 1)) = sem tx (m + e) + (if tx (m + e) = 59 then 1 else 0) := rfl
            rw [h2]
            split <;> omega
        have := mono (len - (s + 11 + nm tx len s + 1)) (s + 11 + nm tx len s + 1)
        rw [show s + 11 + nm tx len s + 1 + (len - (s + 11 + nm tx len s + 1)) = len by omega] at this
        exact this
      exact ih _ (r + 1) _ _ g10 (by omega) hW2 (by rw [hV2]; omega) (by omega) (by omega)
theorem s_readBags {t' : Nat} (hS : SO a t) (ht : t + 1 ≤ t') : SO (sRead a).2 t' := by
  have h11 := hS.1.2.1.2.2.2.2.2.1
  have hsb := sem_bd a.tx a.len
  unfold sRead
  by_cases he : eA a = -10006
  · rw [if_pos he]
    by_cases hroom : 12 - (a.nb : Int) < sem a.tx a.len + 1
    · rw [if_pos hroom]
      exact hS.mono (by omega)
    · rw [if_neg hroom]
      have k := rdV_WF (tx := a.tx) (len := a.len) (nc := a.nc) (t := t') 12 0 0 a.V a.nb ⟨Nat.zero_le _, he⟩ rfl (hS.1.mono (by omega)) (by omega) (by omega) (by omega)
      obtain ⟨h1, h2, h3, h4, h5⟩ := SO.sv hS (t' := t') (by omega) k
      exact ⟨h1, h2, h3, Nat.zero_le _, fun i hi => absurd (show i < 0 from hi) (by omega)⟩
  · rw [if_neg he]
    exact hS.mono (by omega)
end READ
