/-! matching all: what is left, what it is worth, and the greatest of a row by row search -/
def Same (V W : Nat → Int) : Prop := ∀ j, (j < 114 ∨ (j - 114) % 10 ≠ 9) → W j = V j
theorem Same.rf (V : Nat → Int) : Same V V := fun _ _ => rfl
theorem Same.tr {U V W : Nat → Int} (h1 : Same U V) (h2 : Same V W) : Same U W := fun j g => (h2 j g).trans (h1 j g)
theorem Same.up9 (V : Nat → Int) (c : Nat) (x : Int) : Same V (up V (114 + 10 * c + 9) x) := fun j g => up_off (by omega)
section GREEDY
variable {V W : Nat → Int} {nb nc t : Nat}
theorem Same.b (h : Same V W) (hn : nb ≤ 12) {r : Nat} (hr : r < nb) : W (18 + 8 * r) = V (18 + 8 * r) := h _ (by omega)
theorem Same.c (h : Same V W) (r : Nat) : W (114 + 10 * r) = V (114 + 10 * r) := h _ (by omega)
theorem Same.SB (h : Same V W) (hn : nb ≤ 12) (hB : SB V nb) : SB W nb := fun r q h1 h2 => by rw [h.b hn (by omega), h.b hn h2]; exact hB r q h1 h2
theorem Same.SC (h : Same V W) (hC : SC V nc) : SC W nc := fun r q h1 h2 => by rw [h.c, h.c]; exact hC r q h1 h2
theorem Same.AM {M : Me} (h : Same V W) (hn : nb ≤ 12) (hA : AM M V nb nc) : AM M W nb nc := ⟨fun q hq => by rw [h.b hn hq]; exact hA.1 q hq, fun q hq => by rw [h.c]; exact hA.2 q hq⟩
theorem Same.jn : Same V (jn V nb nc) := Same.up9 V _ _
theorem Same.all : ∀ (n : Nat) (V : Nat → Int), Same V (mA nb nc n V).2 := by
  intro n
  induction n with
  | zero => intro V; exact Same.rf V
  | succ n ih =>
    intro V
    by_cases g : bs V nb nc = -1
    · have e : mA nb nc (n + 1) V = (0, V) := if_pos g
      rw [e]; exact Same.rf V
    · rw [mA_step g]
      exact Same.jn.tr (ih _)
theorem mt_bd (n : Nat) : 0 ≤ rMatched V n ∧ rMatched V n ≤ n := sumI_bd n (fun j _ => by by_cases g : V (114 + 10 * j + 9) = 0 <;> simp [g])
theorem mt_up {c : Nat} {x : Int} (hc : c < nc) (h0 : V (114 + 10 * c + 9) = 0) (hx : x ≠ 0) : rMatched (up V (114 + 10 * c + 9) x) nc = rMatched V nc + 1 := by
  have e1 : sumI (fun r => if r = c then 1 else 0) nc = 1 := by
    rw [sumI_one (f := fun r => if r = c then 1 else 0) (k := c) nc hc (fun j _ hne => if_neg hne), if_pos rfl]
  have e2 := sumI_add (fun r => if V (114 + 10 * r + 9) = 0 then 0 else 1) (fun r => if r = c then 1 else 0) nc
  have e3 : rMatched (up V (114 + 10 * c + 9) x) nc = sumI (fun r => (if V (114 + 10 * r + 9) = 0 then 0 else 1) + (if r = c then 1 else 0)) nc := sumI_congr nc (fun j _ => by
    by_cases g : j = c
    · subst g
      rw [up_at, if_neg hx, if_pos h0, if_pos rfl]; rfl
    · rw [up_off (by omega), if_neg g, Int.add_zero])
  rw [e3, e2, e1]
  rfl
theorem mt_lt {c : Nat} (hc : c < nc) (h0 : V (114 + 10 * c + 9) = 0) : rMatched V nc + 1 ≤ nc := by
  have := mt_up (V := V) (x := 1) hc h0 (by decide)
  have b := (mt_bd (V := up V (114 + 10 * c + 9) 1) nc).2
  omega
theorem mt_jn (hW : WF V nb nc t) (hb : bs V nb nc ≠ -1) : rMatched (jn V nb nc) nc = rMatched V nc + 1 := by
  obtain ⟨h1, h2, h3, h4, h5⟩ := bs_facts hb
  have := (hW.2.2.1 _ h3).1
  exact mt_up h1 h2 (by omega)
theorem mA_mt : ∀ (n : Nat) {V : Nat → Int}, WF V nb nc t → rMatched (mA nb nc n V).2 nc = rMatched V nc + ((mA nb nc n V).1 : Int) := by
  intro n
  induction n with
  | zero => intro V _; show rMatched V nc = rMatched V nc + 0; omega
  | succ n ih =>
    intro V hW
    by_cases g : bs V nb nc = -1
    · have e : (mA nb nc (n + 1) V) = (0, V) := if_pos g
      rw [e]; show rMatched V nc = rMatched V nc + 0; omega
    · rw [mA_step g]
      have h1 := ih (hW.jn g)
      rw [mt_jn hW g] at h1
      show rMatched (mA nb nc n (jn V nb nc)).2 nc = rMatched V nc + (((mA nb nc n (jn V nb nc)).1 + 1 : Nat) : Int)
      omega
theorem mA_end : ∀ (n : Nat) {V : Nat → Int}, WF V nb nc t → (nc : Int) - rMatched V nc ≤ n → bs (mA nb nc n V).2 nb nc = -1 := by
  intro n
  induction n with
  | zero =>
    intro V hW h
    refine Classical.byContradiction (fun g => ?_)
    obtain ⟨h1, h2, -⟩ := bs_facts (V := V) g
    have := mt_lt h1 h2
    omega
  | succ n ih =>
    intro V hW h
    by_cases g : bs V nb nc = -1
    · have e : (mA nb nc (n + 1) V) = (0, V) := if_pos g
      rw [e]; exact g
    · rw [mA_step g]
      refine ih (hW.jn g) ?_
      rw [mt_jn hW g]
      omega
/-- nothing open: nothing to gain -/
theorem gF_val (hW : WF V nb nc t) (c b : Nat) : gF V nb nc c b = -1 ∨ 0 ≤ gF V nb nc c b := by
  by_cases g : gF V nb nc c b = -1
  · exact Or.inl g
  · exact Or.inr (gF_ge hW c b g).1
theorem no_open (hW : WF V nb nc t) (hb : bs V nb nc = -1) (c b : Nat) : gF V nb nc c b = -1 := by
  refine Classical.byContradiction (fun g => ?_)
  obtain ⟨h0, hc, hb1⟩ := gF_ge hW c b g
  have hnb := hW.1.2.2.1
  have hnc := hW.1.2.2.2
  have := bv_none (gM V nb nc) 120 hb (12 * c + b) (by omega)
  unfold gM at this
  rw [show (12 * c + b) / 12 = c by omega, show (12 * c + b) % 12 = b by omega] at this
  omega
theorem best_0 (hW : WF V nb nc t) (hb : bs V nb nc = -1) : rBest V nb nc = 0 := by
  have h1 : ∀ (c : Nat) (prev : Nat → Int) (set n : Nat), dpB (gF V nb nc c) prev set n = prev set := by
    intro c prev set n
    induction n with
    | zero => rfl
    | succ n ih =>
      show (if set.testBit n = true ∧ gF V nb nc c n ≠ -1 then _ else dpB (gF V nb nc c) prev set n) = _
      rw [if_neg (fun q => q.2 (no_open hW hb c n))]
      exact ih
  have h2 : ∀ (c set : Nat), dpS (gF V nb nc) nb c set = 0 := by
    intro c
    induction c with
    | zero => intro set; rfl
    | succ c ih =>
      intro set
      show dpB (gF V nb nc c) (dpS (gF V nb nc) nb c) set nb = 0
      rw [h1]; exact ih set
  exact h2 _ _
theorem total_0 (hb : bs V nb nc = -1) (n : Nat) : tot (gM V nb nc) n = 0 := by
  cases n with
  | zero => rfl
  | succ n => exact if_pos hb
theorem total_s (hW : WF V nb nc t) (hb : bs V nb nc ≠ -1) (n : Nat) : tot (gM V nb nc) (n + 1) = bs V nb nc + tot (gM (jn V nb nc) nb nc) n := by
  rw [gM_jn hW hb]
  exact if_neg hb
/-- the total of all is no more than the best -/
def gw (f : Nat → Int) : Nat → Nat → Nat
  | 0 => fun _ => 0
  | n + 1 => if bv f 120 = -1 then fun _ => 0 else fun b => if b = bp f 120 % 12 + 1 then bp f 120 / 12 + 1 else gw (stk f) n b
def sx (f : Nat → Int) (w b : Nat) : Int := if w = 0 then 0 else f (12 * (w - 1) + b)
theorem sx0 {f : Nat → Int} {b : Nat} : sx f 0 b = 0 := rfl
theorem sxs {f : Nat → Int} {w b : Nat} (h : w ≠ 0) : sx f w b = f (12 * (w - 1) + b) := if_neg h
def sw (f : Nat → Int) (w : Nat → Nat) : Int := sumI (fun b => sx f (w (b + 1)) b) 12
theorem gw_ok : ∀ (n : Nat) (f : Nat → Int), (∀ b, b < 12 → gw f n (b + 1) ≠ 0 → gw f n (b + 1) ≤ 10 ∧ f (12 * (gw f n (b + 1) - 1) + b) ≠ -1) ∧ (∀ b b', b < 12 → b' < 12 → gw f n (b + 1) = gw f n (b' + 1) → gw f n (b + 1) ≠ 0 → b = b') ∧ sw f (gw f n) = tot f n := by
  intro n
  induction n with
  | zero =>
    intro f
    refine ⟨fun b _ h => absurd rfl h, fun b b' _ _ _ h => absurd rfl h, ?_⟩
    exact sumI_zero 12
  | succ n ih =>
    intro f
    by_cases g : bv f 120 = -1
    · have e : gw f (n + 1) = fun _ => 0 := if_pos g
      have e2 : tot f (n + 1) = 0 := if_pos g
      rw [e, e2]
      refine ⟨fun b _ h => absurd rfl h, fun b b' _ _ _ h => absurd rfl h, ?_⟩
      exact sumI_zero 12
    · have e : gw f (n + 1) = fun b => if b = bp f 120 % 12 + 1 then bp f 120 / 12 + 1 else gw (stk f) n b := if_neg g
      have e2 : tot f (n + 1) = bv f 120 + tot (stk f) n := if_neg g
      obtain ⟨p1, p2, -, -⟩ := bp_spec f 120 g
      obtain ⟨i1, i2, i3⟩ := ih (stk f)
      have hi : 12 * (bp f 120 / 12) + bp f 120 % 12 = bp f 120 := by omega
      have hst : ∀ i, stk f i = if i / 12 = bp f 120 / 12 ∨ i % 12 = bp f 120 % 12 then -1 else f i := fun i => rfl
      generalize ep : bp f 120 = P at *
      have av : ∀ b, b < 12 → gw (stk f) n (b + 1) ≠ 0 → gw (stk f) n (b + 1) ≠ P / 12 + 1 ∧ b ≠ P % 12 ∧ stk f (12 * (gw (stk f) n (b + 1) - 1) + b) = f (12 * (gw (stk f) n (b + 1) - 1) + b) := fun b hb h => by
        obtain ⟨-, j2⟩ := i1 b hb h
        rw [hst] at j2 ⊢
        by_cases k : (12 * (gw (stk f) n (b + 1) - 1) + b) / 12 = P / 12 ∨ (12 * (gw (stk f) n (b + 1) - 1) + b) % 12 = P % 12
        · exact absurd (if_pos k) j2
        · rw [if_neg k]
          refine ⟨fun q => k (Or.inl (by omega)), fun q => k (Or.inr (by omega)), rfl⟩
      rw [e, e2]
      refine ⟨fun b hb h => ?_, fun b b' hb hb' h1 h2 => ?_, ?_⟩
      · dsimp only at h ⊢
        by_cases k : b + 1 = P % 12 + 1
        · rw [if_pos k]
          refine ⟨by omega, ?_⟩
          rw [show 12 * (P / 12 + 1 - 1) + b = P by omega, p2]
          exact g
        · rw [if_neg k] at h ⊢
          obtain ⟨j1, j2⟩ := i1 b hb h
          rw [(av b hb h).2.2] at j2
          exact ⟨j1, j2⟩
      · dsimp only at h1 h2
        by_cases k : b + 1 = P % 12 + 1
        · rw [if_pos k] at h1
          by_cases k' : b' + 1 = P % 12 + 1
          · omega
          · rw [if_neg k'] at h1
            exact absurd h1.symm (av b' hb' (by omega)).1
        · rw [if_neg k] at h1 h2
          by_cases k' : b' + 1 = P % 12 + 1
          · rw [if_pos k'] at h1
            exact absurd h1 (av b hb h2).1
          · rw [if_neg k'] at h1
            exact i2 b b' hb hb' h1 h2
      · rw [← i3]
        have z : gw (stk f) n (P % 12 + 1) = 0 := Classical.byContradiction (fun q => (av (P % 12) (by omega) q).2.1 rfl)
        have e4 : sw f (fun b => if b = P % 12 + 1 then P / 12 + 1 else gw (stk f) n b) = sumI (fun b => (if b = P % 12 then bv f 120 else 0) + sx (stk f) (gw (stk f) n (b + 1)) b) 12 := sumI_congr 12 (fun b hb => by
          dsimp only
          by_cases k : b = P % 12
          · subst k
            rw [if_pos rfl, if_pos rfl, z, sx0, sxs (by omega), show 12 * (P / 12 + 1 - 1) + P % 12 = P by omega, p2, Int.add_zero]
          · rw [if_neg (c := b + 1 = P % 12 + 1) (by omega), if_neg k, Int.zero_add]
            by_cases k2 : gw (stk f) n (b + 1) = 0
            · rw [k2, sx0, sx0]
            · rw [sxs k2, sxs k2, (av b hb k2).2.2])
        rw [e4, sumI_add, sumI_one (f := fun b => if b = P % 12 then bv f 120 else 0) (k := P % 12) 12 (by omega) (fun j _ hne => if_neg hne), if_pos rfl]
        rfl
theorem total_le (hW : WF V nb nc t) : rTotal V nb nc ≤ rBest V nb nc := by
  obtain ⟨h1, h2, h3⟩ := gw_ok 10 (gM V nb nc)
  have hnb := hW.1.2.2.1
  have eg : ∀ c b, b < 12 → gM V nb nc (12 * c + b) = gF V nb nc c b := fun c b hb => by
    unfold gM
    rw [show (12 * c + b) / 12 = c by omega, show (12 * c + b) % 12 = b by omega]
  have k := dp_ge (G := gF V nb nc) (nb := nb) (w := gw (gM V nb nc) 10) hnb (fun b b' b1 b2 b3 b4 e hne => by
    have := h2 (b - 1) (b' - 1) (by omega) (by omega) (by rw [show b - 1 + 1 = b by omega, show b' - 1 + 1 = b' by omega]; exact e) (by rw [show b - 1 + 1 = b by omega]; exact hne)
    omega) (fun c b hb => Classical.byContradiction (fun q => by have := (gF_ge hW c b q).2.2; omega)) (fun c b q => (gF_ge hW c b q).1) nc (2 ^ nb - 1) (fun c' b _ hb _ => by rw [Nat.testBit_two_pow_sub_one]; exact decide_eq_true hb)
  have e1 : sw (gM V nb nc) (gw (gM V nb nc) 10) = sumI (fun i => sumI (fun c => if gw (gM V nb nc) 10 (i + 1) = c + 1 then max (gF V nb nc c i) 0 else 0) nc) 12 := sumI_congr 12 (fun i hi => by
    by_cases e : gw (gM V nb nc) 10 (i + 1) = 0
    · rw [e, sx0]
      have : sumI (fun c => if 0 = c + 1 then max (gF V nb nc c i) 0 else 0) nc = sumI (fun _ => 0) nc := sumI_congr nc (fun c hc => if_neg (by omega))
      rw [this, sumI_zero]
    · have h10 := h1 i hi e
      rw [sxs e]
      rw [eg _ i hi] at h10 ⊢
      obtain ⟨g1, g2, g3⟩ := gF_ge hW _ _ h10.2
      rw [sumI_one (f := fun c => if gw (gM V nb nc) 10 (i + 1) = c + 1 then max (gF V nb nc c i) 0 else 0) (k := gw (gM V nb nc) 10 (i + 1) - 1) nc g2 (fun j _ hne => if_neg (by omega)), if_pos (by omega)]
      omega)
  unfold rTotal rBest
  rw [← h3, e1, sumI_swap]
  exact k
/-- a search claim by claim, bag by bag, finds what the class finds -/
theorem scan_eq (hW : WF V nb nc t) (h0 : 0 < nb) : bv (fun k => gF V nb nc (k / nb) (k % nb)) (nb * nc) = bs V nb nc ∧ (bs V nb nc ≠ -1 → bp (fun k => gF V nb nc (k / nb) (k % nb)) (nb * nc) / nb = bc V nb nc ∧ bp (fun k => gF V nb nc (k / nb) (k % nb)) (nb * nc) % nb = bb V nb nc) := by
  have hnb := hW.1.2.2.1
  have hnc := hW.1.2.2.2
  have ge1 := bv_ge (fun k => gF V nb nc (k / nb) (k % nb)) (nb * nc)
  have ge2 := bv_ge (gM V nb nc) 120
  have eg : ∀ c b, b < 12 → gM V nb nc (12 * c + b) = gF V nb nc c b := fun c b hb => by
    unfold gM
    rw [show (12 * c + b) / 12 = c by omega, show (12 * c + b) % 12 = b by omega]
  have ef : ∀ c b, b < nb → (fun k => gF V nb nc (k / nb) (k % nb)) (nb * c + b) = gF V nb nc c b := fun c b hb => by
    show gF V nb nc ((nb * c + b) / nb) ((nb * c + b) % nb) = _
    rw [Nat.mul_add_div h0, Nat.div_eq_of_lt hb, Nat.add_zero, Nat.mul_add_mod, Nat.mod_eq_of_lt hb]
  have lt1 : ∀ c b, c < nc → b < nb → nb * c + b < nb * nc := fun c b hc hb => by
    have h1 : nb * (c + 1) ≤ nb * nc := Nat.mul_le_mul_left nb hc
    rw [Nat.mul_add, Nat.mul_one] at h1
    omega
  have dv : ∀ p, p < nb * nc → p / nb < nc ∧ p % nb < nb ∧ nb * (p / nb) + p % nb = p := fun p hp => ⟨Nat.div_lt_of_lt_mul hp, Nat.mod_lt _ h0, Nat.div_add_mod p nb⟩
  generalize hf : (fun k => gF V nb nc (k / nb) (k % nb)) = f at *
  have fat : ∀ p, f p = gF V nb nc (p / nb) (p % nb) := fun p => by rw [← hf]
  have le1 : bv f (nb * nc) ≤ bs V nb nc := by
    by_cases g : bv f (nb * nc) = -1
    · rw [g]; exact ge2
    · obtain ⟨p1, p2, -, -⟩ := bp_spec f _ g
      obtain ⟨d1, d2, d3⟩ := dv _ p1
      have e1 : gM V nb nc (12 * (bp f (nb * nc) / nb) + bp f (nb * nc) % nb) = bv f (nb * nc) := by
        rw [eg _ _ (by omega), ← p2, fat]
      by_cases g2 : bs V nb nc = -1
      · have := bv_none (gM V nb nc) 120 g2 (12 * (bp f (nb * nc) / nb) + bp f (nb * nc) % nb) (by omega)
        omega
      · have := (bp_spec (gM V nb nc) 120 g2).2.2.1 (12 * (bp f (nb * nc) / nb) + bp f (nb * nc) % nb) (by omega)
        rw [e1] at this
        exact this
  have le2 : bs V nb nc ≤ bv f (nb * nc) := by
    by_cases g : bs V nb nc = -1
    · rw [g]; exact ge1
    · obtain ⟨f1, f2, f3, f4, f5⟩ := bs_facts g
      have l1 := lt1 _ _ f1 f3
      have e1 := (ef _ _ f3).trans f5
      by_cases g2 : bv f (nb * nc) = -1
      · have := bv_none f _ g2 _ l1
        have hge : -1 ≤ bs V nb nc := ge2
        omega
      · have := (bp_spec f _ g2).2.2.1 _ l1
        omega
  have eq1 : bv f (nb * nc) = bs V nb nc := by omega
  refine ⟨eq1, fun g => ?_⟩
  obtain ⟨f1, f2, f3, f4, f5⟩ := bs_facts g
  obtain ⟨p1, p2, -, p4⟩ := bp_spec f (nb * nc) (by rw [eq1]; exact g)
  obtain ⟨q1, q2, -, q4⟩ := bp_spec (gM V nb nc) 120 g
  obtain ⟨d1, d2, d3⟩ := dv _ p1
  have l1 := lt1 _ _ f1 f3
  have e1 := (ef _ _ f3).trans f5
  have e2 : gM V nb nc (12 * (bp f (nb * nc) / nb) + bp f (nb * nc) % nb) = bs V nb nc := by
    rw [eg _ _ (by omega), ← eq1, ← p2, fat]
  have a1 : bp f (nb * nc) ≤ nb * bc V nb nc + bb V nb nc := by
    refine Nat.le_of_not_lt (fun q => ?_)
    have := p4 _ q
    omega
  have a2 : 12 * bc V nb nc + bb V nb nc ≤ 12 * (bp f (nb * nc) / nb) + bp f (nb * nc) % nb := by
    refine Nat.le_of_not_lt (fun q => ?_)
    have e3 : 12 * bc V nb nc + bb V nb nc = bp (gM V nb nc) 120 := by unfold bc bb; omega
    have := q4 _ (by rw [← e3]; exact q)
    have e4 : bv (gM V nb nc) 120 = bs V nb nc := rfl
    omega
  rw [← d3] at a1
  have b1 : ¬ bp f (nb * nc) / nb < bc V nb nc := fun q => by omega
  have b2 : ¬ bc V nb nc < bp f (nb * nc) / nb := fun q => by
    have h1 : nb * (bc V nb nc + 1) ≤ nb * (bp f (nb * nc) / nb) := Nat.mul_le_mul_left nb q
    rw [Nat.mul_add, Nat.mul_one] at h1
    omega
  have b3 : bp f (nb * nc) / nb = bc V nb nc := by omega
  rw [b3] at a1 a2 ⊢
  exact ⟨rfl, by omega⟩
end GREEDY
