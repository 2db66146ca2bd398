/-! matching all: the greatest pair, one after the other -/
section ALL
variable {M : Me} {h : Ml} {a : At} {V : Nat → Int} {nb nc t : Nat}
theorem bp_spec (f : Nat → Int) : ∀ n, bv f n ≠ -1 → bp f n < n ∧ f (bp f n) = bv f n ∧ (∀ i, i < n → f i ≤ bv f n) ∧ ∀ i, i < bp f n → f i < bv f n := by
  intro n
  induction n with
  | zero => intro h; exact absurd rfl h
  | succ n ih =>
    intro h
    by_cases g : bv f n < f n
    · have e1 : bv f (n + 1) = f n := by unfold bv; rw [if_pos g]
      have e2 : bp f (n + 1) = n := by unfold bp; rw [if_pos g]
      have hb : ∀ i, i < n → f i ≤ bv f n := by
        intro i hi
        by_cases g2 : bv f n = -1
        · have : ∀ m, bv f m = -1 → ∀ i, i < m → f i ≤ -1 := by
            intro m
            induction m with
            | zero => intro _ i hi; omega
            | succ m ihm =>
              intro hm i hi
              have ge := bv_ge f m
              unfold bv at hm
              by_cases g3 : bv f m < f m
              · rw [if_pos g3] at hm; omega
              · rw [if_neg g3] at hm
                by_cases e : i = m
                · subst e; omega
                · exact ihm hm i (by omega)
          rw [g2]
          exact this n g2 i hi
        · exact (ih g2).2.2.1 i hi
      rw [e1, e2]
      refine ⟨by omega, rfl, fun i hi => ?_, fun i hi => ?_⟩
      · by_cases e : i = n
        · subst e; exact Int.le_refl _
        · have := hb i (by omega); omega
      · have := hb i hi; omega
    · have e1 : bv f (n + 1) = bv f n := by
        show (if bv f n < f n then f n else bv f n) = _
        rw [if_neg g]
      have e2 : bp f (n + 1) = bp f n := by
        show (if bv f n < f n then n else bp f n) = _
        rw [if_neg g]
      rw [e1] at h
      obtain ⟨h1, h2, h3, h4⟩ := ih h
      rw [e1, e2]
      refine ⟨by omega, h2, fun i hi => ?_, h4⟩
      by_cases e : i = n
      · subst e; omega
      · exact h3 i (by omega)
theorem bv_none (f : Nat → Int) : ∀ n, bv f n = -1 → ∀ i, i < n → f i ≤ -1 := by
  intro n
  induction n with
  | zero => intro _ i hi; omega
  | succ n ih =>
    intro hm i hi
    have ge := bv_ge f n
    unfold bv at hm
    by_cases g3 : bv f n < f n
    · rw [if_pos g3] at hm; omega
    · rw [if_neg g3] at hm
      by_cases e : i = n
      · subst e; omega
      · exact ih hm i (by omega)
/-- the greatest score of a pair that could be matched, its claim and bag, and the state with them matched -/
def bs (V : Nat → Int) (nb nc : Nat) : Int := bv (gM V nb nc) 120
def bc (V : Nat → Int) (nb nc : Nat) : Nat := bp (gM V nb nc) 120 / 12
def bb (V : Nat → Int) (nb nc : Nat) : Nat := bp (gM V nb nc) 120 % 12
def jn (V : Nat → Int) (nb nc : Nat) : Nat → Int := up V (114 + 10 * bc V nb nc + 9) (V (18 + 8 * bb V nb nc))
theorem bs_facts (hb : bs V nb nc ≠ -1) : bc V nb nc < nc ∧ V (114 + 10 * bc V nb nc + 9) = 0 ∧ bb V nb nc < nb ∧ cw V nc (bb V nb nc) = -10006 ∧ gF V nb nc (bc V nb nc) (bb V nb nc) = bs V nb nc := by
  obtain ⟨h1, h2, -⟩ := bp_spec _ _ hb
  have h3 : gF V nb nc (bc V nb nc) (bb V nb nc) = bs V nb nc := h2
  have h4 : gF V nb nc (bc V nb nc) (bb V nb nc) ≠ -1 := by rw [h3]; exact hb
  unfold gF at h4
  by_cases g : bc V nb nc < nc ∧ V (114 + 10 * bc V nb nc + 9) = 0
  · rw [if_pos g] at h4
    unfold lkG at h4
    by_cases g2 : bb V nb nc < nb ∧ cw V nc (bb V nb nc) = -10006 ∧ V (114 + 10 * bc V nb nc + 8) ≤ V (18 + 8 * bb V nb nc + 7) ∧ V 1 ≤ scI V (bc V nb nc) (bb V nb nc) 0
    · exact ⟨g.1, g.2, g2.1, g2.2.1, h3⟩
    · rw [if_neg g2] at h4; exact absurd rfl h4
  · rw [if_neg g] at h4; exact absurd rfl h4
theorem scP_up {c b q : Nat} {x : Int} (hb : b < 12) (i : Nat) : scP (up V (114 + 10 * q + 9) x) c b i = scP V c b i := by
  unfold scP
  split <;> repeat rw [up_off (by omega)]
theorem scI_up {c b q : Nat} {x : Int} (hb : b < 12) (i : Nat) : scI (up V (114 + 10 * q + 9) x) c b i = scI V c b i := by
  have e : scP (up V (114 + 10 * q + 9) x) c b = scP V c b := funext (fun i => scP_up hb i)
  unfold scI
  rw [e]
theorem gF_join (hW : WF V nb nc t) {c b : Nat} (hc : c < nc) (hb : b < nb) (h0 : V (114 + 10 * c + 9) = 0) (hf : cw V nc b = -10006) (c' b' : Nat) : gF (up V (114 + 10 * c + 9) (V (18 + 8 * b))) nb nc c' b' = if c' = c ∨ b' = b then -1 else gF V nb nc c' b' := by
  have hnb := hW.1.2.2.1
  have hfree := (cw_free hW b).mp hf
  have hpos := (hW.2.2.1 b hb).1
  by_cases e : c' = c
  · rw [if_pos (Or.inl e), e]
    unfold gF
    rw [up_at, if_neg (by omega)]
  · by_cases e2 : b' = b
    · rw [if_pos (Or.inr e2), e2]
      have k1 : up V (114 + 10 * c + 9) (V (18 + 8 * b)) (18 + 8 * b) = V (18 + 8 * b) := up_off (by omega)
      have := cw_some (V := up V (114 + 10 * c + 9) (V (18 + 8 * b))) (r := b) hc (by rw [up_at, k1]) (fun q hq hqc => by rw [up_off (by omega), k1]; exact hfree q hq)
      rw [up_off (by omega)] at this
      have hp := (hW.2.2.2.1 c hc).1
      unfold gF lkG
      rw [this, if_neg (c := b < nb ∧ _) (fun q => by have := q.2.1; omega)]
      split <;> rfl
    · rw [if_neg (by omega)]
      unfold gF
      rw [up_off (by omega)]
      by_cases g : c' < nc ∧ V (114 + 10 * c' + 9) = 0
      · rw [if_pos g, if_pos g]
        unfold lkG
        by_cases gb : b' < nb
        · have hne : V (18 + 8 * b) ≠ V (18 + 8 * b') := fun q => e2 (hW.2.2.2.2.1 b' b gb hb q.symm)
          have hpr := (hW.2.2.1 b' gb).1
          have ecw : cw (up V (114 + 10 * c + 9) (V (18 + 8 * b))) nc b' = cw V nc b' := cw_same (up_off (by omega)) (fun q hq => by
            by_cases eq : q = c
            · rw [eq, up_at, h0]
              exact ⟨fun g => absurd g hne, fun g => by omega⟩
            · rw [up_off (by omega)]) (fun q hq => up_off (by omega))
          rw [ecw, up_off (by omega), up_off (by omega), up_off (by omega), scI_up (by omega)]
        · rw [if_neg (fun q => gb q.1), if_neg (fun q => gb q.1)]
      · rw [if_neg g, if_neg g]
theorem gM_jn (hW : WF V nb nc t) (hb : bs V nb nc ≠ -1) : gM (jn V nb nc) nb nc = stk (gM V nb nc) := by
  obtain ⟨h1, h2, h3, h4, h5⟩ := bs_facts hb
  funext i
  exact gF_join hW h1 h3 h2 h4 _ _
theorem WF.jn (hW : WF V nb nc t) (hb : bs V nb nc ≠ -1) : WF (jn V nb nc) nb nc t := by
  obtain ⟨h1, h2, h3, h4, h5⟩ := bs_facts hb
  exact hW.setM (Nat.le_refl _) h1 (Or.inr ⟨_, h3, rfl, (cw_free hW _).mp h4⟩)
/-- matching until there is none, at most n times -/
def mA (nb nc : Nat) : Nat → (Nat → Int) → Nat × (Nat → Int)
  | 0, V => (0, V)
  | n + 1, V => if bs V nb nc = -1 then (0, V) else ((mA nb nc n (jn V nb nc)).1 + 1, (mA nb nc n (jn V nb nc)).2)
theorem mA_step {n : Nat} {V : Nat → Int} (g : bs V nb nc ≠ -1) : mA nb nc (n + 1) V = ((mA nb nc n (jn V nb nc)).1 + 1, (mA nb nc n (jn V nb nc)).2) := by
  show (if bs V nb nc = -1 then (0, V) else _) = _
  rw [if_neg g]
theorem mA_le : ∀ (n : Nat) (V : Nat → Int), (mA nb nc n V).1 ≤ n := by
  intro n
  induction n with
  | zero => intro V; exact Nat.le_refl _
  | succ n ih =>
    intro V
    unfold mA
    split
    · exact Nat.zero_le _
    · exact Nat.succ_le_succ (ih _)
theorem mA_WF : ∀ (n : Nat) {V : Nat → Int}, WF V nb nc t → WF (mA nb nc n V).2 nb nc t := by
  intro n
  induction n with
  | zero => intro V h; exact h
  | succ n ih =>
    intro V h
    unfold mA
    split
    · exact h
    · next g => exact ih (h.jn g)
def sMatchAll (a : At) : Int × At := (((mA a.nb a.nc 10 a.V).1 : Int), (((mA a.nb a.nc 10 a.V).2, a.nb, a.nc), (sv a).2))
theorem s_matchAll {t' : Nat} (hS : SO a t) (ht : t ≤ t') : SO (sMatchAll a).2 t' := SO.sv hS ht (mA_WF 10 (hS.1.mono ht))
theorem c_matchAll (hC : CR M a) (hS : SO a t) : Wp zS0 tX8_matchAll none 0 [zr 0, zn] [] M h (Cs (sMatchAll a) M h) := by
  have hW := hS.1
  have loop : ∀ d n : Nat, n + d = 10 → ∀ (M' : Me) (V : Nat → Int), CR M' ((V, a.nb, a.nc), (sv a).2) → WF V a.nb a.nc t → (∀ k, 74 ≤ k → M' k = M k) → (∀ i, i < 120 → M' 64 i = gM V a.nb a.nc i) → (n + (mA a.nb a.nc d V).1 = (mA a.nb a.nc 10 a.V).1 ∧ (mA a.nb a.nc d V).2 = (mA a.nb a.nc 10 a.V).2) →
      Wp zS0 tX8_matchAll none 28 [zr 0, zi n] [] M' h (Cs (sMatchAll a) M h) := by
    intro d
    induction d with
    | zero =>
      intro n hn M' V hC' hW' hk hg he
      refine Wp.g1 rfl ?_
      refine Wp.brt rfl (by omega) ?_
      refine Wp.g1 rfl ?_
      refine Wp.re rfl ⟨?_, rfl, hk, ?_⟩
      · show _ = some (zi ((mA a.nb a.nc 10 a.V).1 : Int))
        rw [← he.1, show (mA a.nb a.nc 0 V).1 = 0 from rfl, show n + 0 = 10 from hn]
        rfl
      · show CR M' (((mA a.nb a.nc 10 a.V).2, a.nb, a.nc), (sv a).2)
        rw [← he.2]; exact hC'
    | succ d ih =>
      intro n hn M' V hC' hW' hk hg he
      obtain ⟨c1, c2⟩ := bv_congr 120 hg
      refine Wp.g1 rfl ?_
      refine Wp.brf rfl (by omega) ?_
      refine Wp.g1 rfl ?_
      refine Wp.call rfl (m_takeGreatest M' h) (fun v M1 h1 q => ?_)
      obtain ⟨rfl, rfl, q1, q2, q3⟩ := q
      rw [c1, c2] at q3
      rw [c1]
      refine Wp.g1 rfl ?_
      have hC1 : CR M1 ((V, a.nb, a.nc), (sv a).2) := hC'.kept (fun k g => q1 k (by omega) (by omega))
      by_cases g : bs V a.nb a.nc = -1
      · refine Wp.brf rfl (fun q => q g) ?_
        refine Wp.g1 rfl ?_
        have e : mA a.nb a.nc (d + 1) V = (0, V) := by unfold mA; rw [if_pos g]
        rw [e] at he
        refine Wp.re rfl ⟨?_, rfl, fun k g => (q1 k (by omega) (by omega)).trans (hk k g), ?_⟩
        · show _ = some (zi ((mA a.nb a.nc 10 a.V).1 : Int))
          rw [← he.1]; rfl
        · show CR M1 (((mA a.nb a.nc 10 a.V).2, a.nb, a.nc), (sv a).2)
          rw [← he.2]; exact hC1
      · refine Wp.brt rfl g ?_
        refine Wp.g1 rfl ?_
        obtain ⟨q4, q5, q6⟩ := q3 g
        obtain ⟨f1, f2, f3, f4, f5⟩ := bs_facts g
        rw [q4, q5]
        have hK1 : CS M1 V a.nb a.nc t := ⟨hC1.1, hC1.2.1.1, hC1.2.1.2, hW'⟩
        refine Wp.call rfl (o_join hK1 f1 f3 f2 f4) (fun v M2 h2 q => ?_)
        obtain ⟨rfl, rfl, q7, q8⟩ := q
        refine Wp.gt 28 rfl ?_
        rw [w32_s (by omega)]
        have e : mA a.nb a.nc (d + 1) V = ((mA a.nb a.nc d (jn V a.nb a.nc)).1 + 1, (mA a.nb a.nc d (jn V a.nb a.nc)).2) := mA_step g
        rw [e] at he
        refine ih (n + 1) (by omega) M2 (jn V a.nb a.nc) ?_ (hW'.jn g) (fun k g => ?_) (fun i hi => ?_) ⟨?_, he.2⟩
        · exact CR.office hC1 (fun k g => q7 k (by omega) (by omega)) (by rw [q7 2 (by decide) (by decide)]) (by rw [q7 5 (by decide) (by decide)]) q8
        · rw [q7 k (by omega) (by omega), q1 k (by omega) (by omega)]; exact hk k g
        · rw [q7 64 (by decide) (by decide), q6 i hi, hg i hi, gM_jn hW' g]
          rfl
        · have := he.1
          show n + 1 + _ = _
          omega
  refine Wp.g1 rfl ?_
  refine Wp.call rfl (cr_save hC hS) (fun v M1 h1 q => ?_)
  obtain ⟨rfl, rfl, q1, q2⟩ := q
  refine Wp.g1 rfl ?_
  refine Wp.call rfl (m_fill q2.1 q2.2.1.1 q2.2.1.2 hW) (fun v M2 h2 q => ?_)
  obtain ⟨rfl, rfl, q3, q4⟩ := q
  refine Wp.gt 28 rfl ?_
  refine loop 10 0 (by omega) M2 a.V (q2.kept (fun k g => q3 k (by omega) (by omega))) hW (fun k g => (q3 k (by omega) (by omega)).trans (q1 k g)) (fun i hi => ?_) ⟨by rw [Nat.zero_add], rfl⟩
  have := q4 (i / 12) (i % 12) (by omega) (by omega)
  rw [show 12 * (i / 12) + i % 12 = i by omega] at this
  exact this
end ALL
