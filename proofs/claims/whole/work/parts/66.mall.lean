/-! the reference: matching all, and the total of it -/
/-- how many claims are free -/
def frc (V : Nat → Int) : Nat → Nat
  | 0 => 0
  | n + 1 => frc V n + (if V (114 + 10 * n + 9) = 0 then 1 else 0)
theorem frc_le (V : Nat → Int) : ∀ n, frc V n ≤ n := by
  intro n
  induction n with
  | zero => exact Nat.le_refl _
  | succ n ih => unfold frc; split <;> omega
theorem frc_off {V : Nat → Int} {c : Nat} {x : Int} : ∀ {n : Nat}, n ≤ c → frc (up V (114 + 10 * c + 9) x) n = frc V n := by
  intro n
  induction n with
  | zero => intro _; rfl
  | succ n ih =>
    intro h
    unfold frc
    rw [ih (by omega), up_off (by omega)]
theorem frc_up {V : Nat → Int} {c : Nat} {x : Int} (h0 : V (114 + 10 * c + 9) = 0) (hx : x ≠ 0) : ∀ {n : Nat}, c < n → frc (up V (114 + 10 * c + 9) x) n + 1 = frc V n := by
  intro n
  induction n with
  | zero => intro h; omega
  | succ n ih =>
    intro h
    by_cases e : c = n
    · subst e
      unfold frc
      rw [frc_off (Nat.le_refl _), up_at, if_neg hx, if_pos h0]
    · have k := ih (by omega)
      unfold frc
      rw [up_off (by omega)]
      omega
section AL9
variable {M : Me} {h : Ml} {p : Nat} {V : Nat → Int} {nb nc t : Nat} {a : At}
theorem MR.msw (hM : MR M a) (hW : WF a.V a.nb a.nc t) : MS M 0 a.V a.nb a.nc t := ⟨by omega, fun j hj => hM.1 j (by omega), fun j hj => by rw [Nat.zero_add]; exact hM.1 j hj, hW⟩
theorem frc_jn (hW : WF V nb nc t) (hb : bs V nb nc ≠ -1) : frc (jn V nb nc) nc + 1 = frc V nc := by
  obtain ⟨h1, h2, h3, h4, h5⟩ := bs_facts hb
  have := (hW.2.2.1 _ h3).1
  exact frc_up h2 (by omega) h1
theorem bs_ge (hW : WF V nb nc t) (hb : bs V nb nc ≠ -1) : 0 ≤ bs V nb nc ∧ bs V nb nc ≤ 9600 := by
  obtain ⟨h1, h2, h3, h4, h5⟩ := bs_facts hb
  have := (gF_ge hW _ _ (show gF V nb nc (bc V nb nc) (bb V nb nc) ≠ -1 by rw [h5]; exact hb)).1
  rw [h5] at this
  exact ⟨this, bv_le (by decide) 120 (fun i _ => gM_bd hW i)⟩
theorem MS.join (hS : MS M p V nb nc t) (hb : bs V nb nc ≠ -1) : MS (upd2 M 75 (p + (114 + 10 * bc V nb nc + 9)) (V (18 + 8 * bb V nb nc))) p (jn V nb nc) nb nc t := by
  obtain ⟨h1, h2, h3, h4⟩ := hS
  refine ⟨h1, fun j hj => ?_, fun j hj => ?_, h4.jn hb⟩
  · unfold jn
    rw [upd2_off (by omega), up_off (by omega)]; exact h2 j hj
  · unfold jn
    by_cases e : j = 114 + 10 * bc V nb nc + 9
    · subst e; rw [upd2_at, up_at]
    · rw [upd2_off (by omega), up_off e]; exact h3 j hj
theorem m9_matchAll (hM : MR M a) (hS : SO a t) : Wp zS0 tX9_matchAll none 0 [zr 74, zn] [] M h (Ms (sMatchAll a) M h) := by
  have hW := hS.1
  have loop : ∀ d k : Nat, ∀ (M' : Me) (V : Nat → Int), k + d ≤ 10 → MR M' ((V, a.nb, a.nc), (sv a).2) → WF V a.nb a.nc t → frc V a.nc ≤ d → (∀ r, r < 74 → M' r = M r) → (k + (mA a.nb a.nc d V).1 = (mA a.nb a.nc 10 a.V).1 ∧ (mA a.nb a.nc d V).2 = (mA a.nb a.nc 10 a.V).2) →
      Wp zS0 tX9_matchAll none 6 [zr 74, zi k] [] M' h (Ms (sMatchAll a) M h) := by
    intro d
    induction d with
    | zero =>
      intro k M' V hk hM' hW' hf hr he
      refine Wp.g1 rfl ?_
      refine Wp.call rfl (m9_matchesBest (hM'.msw hW')) (fun v M1 h1 q => ?_)
      obtain ⟨rfl, ⟨hb, rfl, rfl⟩ | ⟨hb, -, -⟩⟩ := q
      · refine Wp.g1 rfl ?_
        refine Wp.brt rfl rfl ?_
        refine Wp.g1 rfl ?_
        refine Wp.re rfl ⟨?_, rfl, hr, ?_⟩
        · show _ = some (zi ((mA a.nb a.nc 10 a.V).1 : Int))
          rw [← he.1]; rfl
        · show MR M1 (((mA a.nb a.nc 10 a.V).2, a.nb, a.nc), (sv a).2)
          rw [← he.2]; exact hM'
      · have := frc_jn hW' hb
        omega
    | succ d ih =>
      intro k M' V hk hM' hW' hf hr he
      refine Wp.g1 rfl ?_
      refine Wp.call rfl (m9_matchesBest (hM'.msw hW')) (fun v M1 h1 q => ?_)
      obtain ⟨rfl, ⟨hb, rfl, rfl⟩ | ⟨hb, rfl, rfl⟩⟩ := q
      · refine Wp.g1 rfl ?_
        refine Wp.brt rfl rfl ?_
        refine Wp.g1 rfl ?_
        have e : mA a.nb a.nc (d + 1) V = (0, V) := by unfold mA; exact if_pos hb
        rw [e] at he
        refine Wp.re rfl ⟨?_, rfl, hr, ?_⟩
        · show _ = some (zi ((mA a.nb a.nc 10 a.V).1 : Int))
          rw [← he.1]; rfl
        · show MR M1 (((mA a.nb a.nc 10 a.V).2, a.nb, a.nc), (sv a).2)
          rw [← he.2]; exact hM'
      · have hb : bs V a.nb a.nc ≠ -1 := hb
        have f := frc_jn hW' hb
        have g := bs_ge hW' hb
        refine Wp.g1 rfl ?_
        refine Wp.brf rfl (fun q => ?_) ?_
        · have q : bs V a.nb a.nc = -10006 := q
          omega
        refine Wp.gt 6 rfl ?_
        rw [w32_s (n := k) (by omega)]
        rw [mA_step hb] at he
        refine ih (k + 1) _ (jn V a.nb a.nc) (by omega) ?_ (hW'.jn hb) (by omega) (fun r g => by rw [upd2_ne (by omega)]; exact hr r g) ⟨by omega, he.2⟩
        have := hM'.put (j := 0 + (114 + 10 * bc V a.nb a.nc + 9)) (V (18 + 8 * bb V a.nb a.nc)) a.nb a.nc
        rw [Nat.zero_add] at this ⊢
        exact this
  refine Wp.g1 rfl ?_
  refine Wp.call rfl (m9_saves hM hS) (fun v M1 h1 q => ?_)
  obtain ⟨rfl, rfl, q1, q2⟩ := q
  refine Wp.gt 6 rfl ?_
  have := frc_le a.V a.nc
  exact loop 10 0 M1 a.V (by omega) q2 hW (by have := hW.1.2.2.2; omega) (fun r g => q1 r (by omega) (by omega)) ⟨by omega, rfl⟩
/-- a question to the reference leaves its numbers -/
abbrev Qm (r : Int) (M : Me) (h : Ml) : Option ZV → Me → Ml → Prop := fun v M' h' => v = some (zi r) ∧ h' = h ∧ (∀ k, k < 78 → k ≠ 75 → M' k = M k) ∧ ∀ j, j < 214 → M' 75 j = M 75 j
theorem Ms.of {T : CT} {sc : Sc} {pc : Nat} {L st : List ZV} {r : Int} (hM : MR M a) (k : Wp zS0 T sc pc L st M h (Qm r M h)) : Wp zS0 T sc pc L st M h (Ms (r, a) M h) := k.imp (fun v M' h' q => by
  obtain ⟨rfl, rfl, q1, q2⟩ := q
  obtain ⟨h1, h2, h3, h4⟩ := hM
  refine ⟨rfl, rfl, fun k g => q1 k (by omega) (by omega), fun j hj => (q2 j hj).trans (h1 j hj), ?_, ?_, ?_⟩
  · rw [q1 74 (by decide) (by decide), q1 76 (by decide) (by decide)]; exact h2
  · rw [q1 74 (by decide) (by decide), q1 77 (by decide) (by decide)]; exact h3
  · rw [q1 74 (by decide) (by decide)]; exact h4)
theorem m9_totalOfAll (hS : MS M 0 V nb nc t) : Wp zS0 tX9_totalOfAll none 0 [zr 74, zn, zn] [] M h (Qm (rTotal V nb nc) M h) := by
  obtain ⟨-, -, hV, hW⟩ := hS
  have hV : ∀ j, j < 214 → M 75 j = V j := fun j hj => by have := hV j hj; rw [Nat.zero_add] at this; exact this
  have cont : ∀ (d : Nat) (sum : Int) (V' : Nat → Int) (M' : Me), d ≤ 10 → MS M' 214 V' nb nc t → frc V' nc ≤ d → (∀ k, k < 78 → k ≠ 75 → M' k = M k) → (∀ j, j < 214 → M' 75 j = M 75 j) → (0 ≤ sum ∧ sum + 9600 * (d : Int) ≤ 96000) → sum + tot (gM V' nb nc) d = rTotal V nb nc →
      ∀ (v : Option ZV) (M1 : Me) (h1 : Ml), Bq M' h 214 V' nb nc v M1 h1 → ∃ x : Int, v = some (zi x) ∧ Wp zS0 tX9_totalOfAll none 41 [zr 74, zi sum, zi x] [] M1 h1 (Qm (rTotal V nb nc) M h) := by
    intro d
    induction d with
    | zero =>
      intro sum V' M' hd hS' hf hk hj hs he v M1 h1 q
      obtain ⟨rfl, ⟨hb, rfl, rfl⟩ | ⟨hb, -, -⟩⟩ := q
      · refine ⟨_, rfl, ?_⟩
        refine Wp.g1 rfl ?_
        refine Wp.brt rfl rfl ?_
        refine Wp.g1 rfl ?_
        refine Wp.re rfl ⟨?_, rfl, hk, hj⟩
        rw [← he]
        show some (zi sum) = some (zi (sum + 0))
        rw [Int.add_zero]
      · have := frc_jn hS'.2.2.2 hb
        omega
    | succ d ih =>
      intro sum V' M' hd hS' hf hk hj hs he v M1 h1 q
      have hW' := hS'.2.2.2
      obtain ⟨rfl, ⟨hb, rfl, rfl⟩ | ⟨hb, rfl, rfl⟩⟩ := q
      · refine ⟨_, rfl, ?_⟩
        refine Wp.g1 rfl ?_
        refine Wp.brt rfl rfl ?_
        refine Wp.g1 rfl ?_
        refine Wp.re rfl ⟨?_, rfl, hk, hj⟩
        have e : tot (gM V' nb nc) (d + 1) = 0 := if_pos hb
        rw [← he, e, Int.add_zero]
      · refine ⟨_, rfl, ?_⟩
        have f := frc_jn hW' hb
        have g := bs_ge hW' hb
        have e : tot (gM V' nb nc) (d + 1) = bs V' nb nc + tot (stk (gM V' nb nc)) d := if_neg hb
        rw [e, ← gM_jn hW' hb] at he
        refine Wp.g1 rfl ?_
        refine Wp.brf rfl (by omega) ?_
        refine Wp.g1 rfl ?_
        rw [w32_id (x := sum + bs V' nb nc) ⟨by omega, by omega⟩]
        refine Wp.call rfl (m9_matchesBest (hS'.join hb)) (fun v M2 h2 q => ?_)
        obtain ⟨x, rfl, k⟩ := ih (sum + bs V' nb nc) (jn V' nb nc) _ (by omega) (hS'.join hb) (by omega) (fun k g1 g2 => by rw [upd2_ne g2]; exact hk k g1 g2) (fun j g1 => by rw [upd2_off (by omega)]; exact hj j g1) (by omega) (by omega) v M2 h2 q
        refine Wp.gt 41 rfl ?_
        exact k
  have copy : ∀ d k : Nat, k + d = 214 → ∀ (M' : Me) (y : ZV), (∀ r, r ≠ 75 → M' r = M r) → (∀ i, M' 75 i = if 214 ≤ i ∧ i < 214 + k then M 75 (i - 214) else M 75 i) →
      Wp zS0 tX9_totalOfAll none 2 [zr 74, zi k, y] [] M' h (Qm (rTotal V nb nc) M h) := by
    intro d
    induction d with
    | zero =>
      intro k hk M' y q1 q2
      have e : k = 214 := by omega
      subst e
      refine Wp.g1 rfl ?_
      refine Wp.brt rfl (by decide) ?_
      refine Wp.g1 rfl ?_
      have hS' : MS M' 214 V nb nc t := ⟨by omega, fun j hj => by rw [q2, if_neg (by omega)]; exact hV j (by omega), fun j hj => by rw [q2, if_pos (by omega), Nat.add_sub_cancel_left]; exact hV j hj, hW⟩
      refine Wp.call rfl (m9_matchesBest hS') (fun v M2 h2 q => ?_)
      have := frc_le V nc
      have := hW.1.2.2.2
      obtain ⟨x, rfl, k⟩ := cont 10 0 V M' (by omega) hS' (by omega) (fun k g1 g2 => q1 k g2) (fun j g1 => by rw [q2, if_neg (by omega)]) (by omega) (by rw [Int.zero_add]; rfl) v M2 h2 q
      refine Wp.gt 41 rfl ?_
      exact k
    | succ d ih =>
      intro k hk M' y q1 q2
      refine Wp.g1 rfl ?_
      refine Wp.brf rfl (by omega) ?_
      refine Wp.g1 rfl ?_
      rw [w32_n (n := 214 + k) (by omega) (by omega)]
      refine Wp.ld rfl rfl k rfl (by omega) ?_
      refine Wp.sto rfl rfl (214 + k) rfl (by omega) ?_
      refine Wp.gt 2 rfl ?_
      rw [w32_s (n := k) (by omega)]
      refine ih (k + 1) (by omega) _ y (fun r g => by rw [upd2_ne g]; exact q1 r g) (fun i => ?_)
      by_cases e : i = 214 + k
      · subst e
        rw [upd2_at, if_pos (by omega), Nat.add_sub_cancel_left, q2, if_neg (by omega)]
      · rw [upd2_off e, q2 i]
        by_cases g : 214 ≤ i ∧ i < 214 + k
        · rw [if_pos g, if_pos (by omega)]
        · rw [if_neg g, if_neg (by omega)]
  refine Wp.gt 2 rfl ?_
  exact copy 214 0 (by omega) M _ (fun _ _ => rfl) (fun i => by rw [if_neg (by omega)])
end AL9
