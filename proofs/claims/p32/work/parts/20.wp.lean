/-! reasoning about the small machine: a method's answer and what it leaves, over cells of a fixed kind -/
def Wp (S : Sh) (T : CT) (sc : Sc) (pc : Nat) (L st : List ZV) (M : Me) (h : Ml) (Φ : Option ZV → Me → Ml → Prop) : Prop := ∃ (n : Nat) (v : Option ZV) (M' : Me) (h' : Ml), run n T sc pc L st S M h = some (v, S, M', h') ∧ Φ v M' h'
/-- an answer, and the cells' numbers behind it -/
abbrev Rv (M : Me) (h : Ml) : Option ZV → Me → Ml → Prop := fun v M' h' => v = none ∧ M' = M ∧ h' = h
abbrev Ri (x : Int) (M : Me) (h : Ml) : Option ZV → Me → Ml → Prop := fun v M' h' => v = some (zi x) ∧ M' = M ∧ h' = h
abbrev Rl (x : Int64) (M : Me) (h : Ml) : Option ZV → Me → Ml → Prop := fun v M' h' => v = some (zl x) ∧ M' = M ∧ h' = h
/-- as many plain steps as there are -/
def zgo : Nat → CT → Sc → Nat → List ZV → List ZV → Sh → Me → Ml → Option Zs
  | 0, _, _, pc, L, st, S, M, h => some (pc, L, st, S, M, h)
  | n + 1, T, sc, pc, L, st, S, M, h => match look2 T pc with
    | none => none
    | some e => match zst sc e L st S M h with
      | some (pc', L', st', S', M', h') => zgo n T sc pc' L' st' S' M' h'
      | none => some (pc, L, st, S, M, h)
/-- a choice: its condition, where it goes, what stays -/
def zbc (T : CT) (pc : Nat) (st : List ZV) : Option (Prop × Nat × Nat × List ZV) := match look2 T pc with
  | some (i, nx, a, _, _, _, _) => (match i with
    | .if_icmp q _ => (match st with
      | .inl y :: .inl x :: r => (match q with
        | .eq => some (x = y, a, nx, r)
        | .ne => some (x ≠ y, a, nx, r)
        | .lt => some (x < y, a, nx, r)
        | .ge => some (y ≤ x, a, nx, r)
        | .gt => some (y < x, a, nx, r)
        | .le => some (x ≤ y, a, nx, r))
      | _ => none)
    | .ifCond q _ => (match st with
      | .inl x :: r => (match q with
        | .eq => some (x = 0, a, nx, r)
        | .ne => some (x ≠ 0, a, nx, r)
        | .lt => some (x < 0, a, nx, r)
        | .ge => some (0 ≤ x, a, nx, r)
        | .gt => some (0 < x, a, nx, r)
        | .le => some (x ≤ 0, a, nx, r))
      | _ => none)
    | _ => none)
  | none => none
def zal (T : CT) (pc : Nat) (st : List ZV) : Option (Nat × Int × Nat × List ZV) := match look2 T pc with
  | some (i, nx, _, _, _, _, _) => (match i with
    | .iaload => (match st with | .inl j :: .inr (.inr (.inl k)) :: r => some (k, j, nx, r) | _ => none)
    | _ => none)
  | none => none
def zals (T : CT) (pc : Nat) (st : List ZV) : Option (Int × Nat × List ZV) := match look2 T pc with
  | some (i, nx, _, _, _, _, _) => (match i with
    | .iaload => (match st with | .inl j :: .inr (.inr (.inr 1)) :: r => some (j, nx, r) | _ => none)
    | _ => none)
  | none => none
def zas (T : CT) (pc : Nat) (st : List ZV) : Option (Nat × Int × Int × Nat × List ZV) := match look2 T pc with
  | some (i, nx, _, _, _, _, _) => (match i with
    | .iastore => (match st with | .inl x :: .inl j :: .inr (.inr (.inl k)) :: r => some (k, j, x, nx, r) | _ => none)
    | _ => none)
  | none => none
def zdv (T : CT) (pc : Nat) (st : List ZV) : Option (Bool × Int × Int × Nat × List ZV) := match look2 T pc with
  | some (i, nx, _, _, _, _, _) => (match i with
    | .idiv => (match st with | .inl y :: .inl x :: r => some (true, x, y, nx, r) | _ => none)
    | .irem => (match st with | .inl y :: .inl x :: r => some (false, x, y, nx, r) | _ => none)
    | _ => none)
  | none => none
def zacp (T : CT) (pc : Nat) (st : List ZV) : Option (Nat × Nat × Int × Int × Int × Nat × List ZV) := match look2 T pc with
  | some (i, nx, a, _, d, _, _) => (match i with
    | .invokestatic _ => (match a, d, st with | 0, 0, .inl n :: .inl dp :: .inr (.inr (.inl k2)) :: .inl sp :: .inr (.inr (.inl k1)) :: r => bif Nat.ble (zwt r) 8 then some (k1, k2, sp, dp, n, nx, r) else none | _, _, _ => none)
    | _ => none)
  | none => none
def zsw (T : CT) (pc : Nat) (st : List ZV) : Option (Nat × List ZV) := match look2 T pc with
  | some (i, _, _, _, _, c, _) => (match i with
    | .tableswitch df lo hi offs => (match st with
      | .inl x :: r => if x < lo ∨ hi < x then some ((c + df).toNat, r) else (match zgt offs.toList (x - lo).toNat with
        | some o => some ((c + o).toNat, r)
        | none => none)
      | _ => none)
    | _ => none)
  | none => none
/-- a call; the receiver's class is asked apart -/
def zcc (T : CT) (pc : Nat) (st : List ZV) (S : Sh) : Option (CT × List ZV × Nat × List ZV) := match look2 T pc with
  | some e => zca e st S
  | none => none
def zrx (T : CT) (pc : Nat) (st : List ZV) : Option (Option ZV) := match look2 T pc with
  | some e => zre e st
  | none => none
/-- what a method without the script answers it answers with it -/
theorem zst_sc {sc : Sc} {e : En} {L st : List ZV} {S : Sh} {M : Me} {h : Ml} {r : Zs} (hz : zst none e L st S M h = some r) : zst sc e L st S M h = some r := by
  obtain ⟨i, nx, a, b, d, c, w⟩ := e
  cases i
  case arraylength =>
    simp only [zst] at hz ⊢
    split at hz
    · exact hz
    · cases hz
    · cases hz
  all_goals exact hz
theorem zbr_sc {sc : Sc} {e : En} {L st : List ZV} {S : Sh} {M : Me} {h : Ml} {r : Zs} (hz : zbr none e L st S M h = some r) : zbr sc e L st S M h = some r := by
  obtain ⟨i, nx, a, b, d, c, w⟩ := e
  cases i
  case iaload =>
    simp only [zbr] at hz ⊢
    split at hz
    · exact hz
    · cases hz
    · cases hz
  all_goals exact hz
theorem zst_sc0 {sc : Sc} {e : En} {L st : List ZV} {S : Sh} {M : Me} {h : Ml} (hz : zst none e L st S M h = none) (ho : (zbr none e L st S M h).isSome = true ∨ (zca e st S).isSome = true ∨ (zre e st).isSome = true) : zst sc e L st S M h = none := by
  obtain ⟨i, nx, a, b, d, c, w⟩ := e
  cases i
  case arraylength => rcases ho with ho | ho | ho <;> cases ho
  all_goals exact hz
theorem zbr_sc0 {sc : Sc} {e : En} {L st : List ZV} {S : Sh} {M : Me} {h : Ml} (hz : zbr none e L st S M h = none) (ho : (zca e st S).isSome = true ∨ (zre e st).isSome = true) : zbr sc e L st S M h = none := by
  obtain ⟨i, nx, a, b, d, c, w⟩ := e
  cases i
  case iaload => rcases ho with ho | ho <;> cases ho
  all_goals exact hz
theorem run_sc : ∀ {n : Nat} {T : CT} {sc : Sc} {pc : Nat} {L st : List ZV} {S : Sh} {M : Me} {h : Ml} {z : Zr}, run n T none pc L st S M h = some z → run n T sc pc L st S M h = some z := by
  intro n
  induction n with
  | zero => intro T sc pc L st S M h z hr; cases hr
  | succ n ih =>
    intro T sc pc L st S M h z hr
    obtain ⟨e, he, h1 | h1 | h1⟩ := run_cases hr
    · obtain ⟨pc', L', st', S', M', h', hz, h2⟩ := h1
      rcases hz with hz | ⟨hz0, hz⟩
      · rw [run_st he (zst_sc hz)]; exact ih h2
      · rw [run_br he (zst_sc0 hz0 (Or.inl (by rw [hz]; rfl))) (zbr_sc hz)]; exact ih h2
    · obtain ⟨hz0, hz1, T', L0, nx, r, v, S', M', h', hz, h2, h3⟩ := h1
      have k1 : (zca e st S).isSome = true := by rw [hz]; rfl
      rw [run_ca he (zst_sc0 hz0 (Or.inr (Or.inl k1))) (zbr_sc0 hz1 (Or.inl k1)) hz (ih h2)]
      exact ih h3
    · obtain ⟨hz0, hz1, hz2, v, hz, rfl⟩ := h1
      have k1 : (zre e st).isSome = true := by rw [hz]; rfl
      rw [run_re he (zst_sc0 hz0 (Or.inr (Or.inr k1))) (zbr_sc0 hz1 (Or.inr k1)) hz2 hz]
section WPS
variable {S : Sh} {T : CT} {sc : Sc} {pc : Nat} {L st : List ZV} {M : Me} {h : Ml} {Φ : Option ZV → Me → Ml → Prop}
theorem Wp.imp {Ψ : Option ZV → Me → Ml → Prop} (k : Wp S T sc pc L st M h Φ) (hi : ∀ v M' h', Φ v M' h' → Ψ v M' h') : Wp S T sc pc L st M h Ψ := by
  obtain ⟨n, v, M', h', h1, h2⟩ := k
  exact ⟨n, v, M', h', h1, hi _ _ _ h2⟩
theorem zgo_run : ∀ {n : Nat} {T : CT} {sc : Sc} {pc : Nat} {L st : List ZV} {S : Sh} {M : Me} {h : Ml} {pc' : Nat} {L' st' : List ZV} {S' : Sh} {M' : Me} {h' : Ml}, zgo n T sc pc L st S M h = some (pc', L', st', S', M', h') → ∃ k, ∀ m, run (m + k) T sc pc L st S M h = run m T sc pc' L' st' S' M' h' := by
  intro n
  induction n with
  | zero => intro T sc pc L st S M h pc' L' st' S' M' h' hg; cases hg; exact ⟨0, fun m => rfl⟩
  | succ n ih =>
    intro T sc pc L st S M h pc' L' st' S' M' h' hg
    unfold zgo at hg
    split at hg
    · cases hg
    · next e he =>
      split at hg
      · next hz =>
        obtain ⟨k, hk⟩ := ih hg
        refine ⟨k + 1, fun m => ?_⟩
        rw [← Nat.add_assoc, run_st he hz]
        exact hk m
      · cases hg; exact ⟨0, fun m => rfl⟩
theorem Wp.go {pc' : Nat} {L' st' : List ZV} {M' : Me} {h' : Ml} (hg : zgo 400 T sc pc L st S M h = some (pc', L', st', S, M', h')) (k : Wp S T sc pc' L' st' M' h' Φ) : Wp S T sc pc L st M h Φ := by
  obtain ⟨m, hm⟩ := zgo_run hg
  obtain ⟨n, v, M1, h1, e1, e2⟩ := k
  exact ⟨n + m, v, M1, h1, by rw [hm]; exact e1, e2⟩
theorem Wp.gon (i : Nat) {pc' : Nat} {L' st' : List ZV} {M' : Me} {h' : Ml} (hg : zgo i T sc pc L st S M h = some (pc', L', st', S, M', h')) (k : Wp S T sc pc' L' st' M' h' Φ) : Wp S T sc pc L st M h Φ := by
  obtain ⟨m, hm⟩ := zgo_run hg
  obtain ⟨n, v, M1, h1, e1, e2⟩ := k
  exact ⟨n + m, v, M1, h1, by rw [hm]; exact e1, e2⟩
theorem Wp.one {e : En} {pc' : Nat} {L' st' : List ZV} {M' : Me} {h' : Ml} (he : look2 T pc = some e) (hz0 : zst sc e L st S M h = none) (hz : zbr sc e L st S M h = some (pc', L', st', S, M', h')) (k : Wp S T sc pc' L' st' M' h' Φ) : Wp S T sc pc L st M h Φ := by
  obtain ⟨n, v, M1, h1, e1, e2⟩ := k
  exact ⟨n + 1, v, M1, h1, by rw [run_br he hz0 hz]; exact e1, e2⟩
theorem Wp.onest {e : En} {pc' : Nat} {L' st' : List ZV} {M' : Me} {h' : Ml} (he : look2 T pc = some e) (hz : zst sc e L st S M h = some (pc', L', st', S, M', h')) (k : Wp S T sc pc' L' st' M' h' Φ) : Wp S T sc pc L st M h Φ := by
  obtain ⟨n, v, M1, h1, e1, e2⟩ := k
  exact ⟨n + 1, v, M1, h1, by rw [run_st he hz]; exact e1, e2⟩
theorem Wp.br {P : Prop} {a nx : Nat} {r : List ZV} (hb : zbc T pc st = some (P, a, nx, r)) (kt : P → Wp S T sc a L r M h Φ) (kf : ¬ P → Wp S T sc nx L r M h Φ) : Wp S T sc pc L st M h Φ := by
  unfold zbc at hb
  split at hb
  · next i nx0 a0 b d c w he =>
    split at hb
    · next q off =>
      split at hb
      · next y x r0 =>
        split at hb <;> cases hb
        · by_cases hp : x = y
          · exact Wp.one he rfl (by simp only [zbr]; rw [if_pos hp]) (kt hp)
          · exact Wp.one he rfl (by simp only [zbr]; rw [if_neg hp]) (kf hp)
        · by_cases hp : x ≠ y
          · exact Wp.one he rfl (by simp only [zbr]; rw [if_pos hp]) (kt hp)
          · exact Wp.one he rfl (by simp only [zbr]; rw [if_neg hp]) (kf hp)
        · by_cases hp : x < y
          · exact Wp.one he rfl (by simp only [zbr]; rw [if_pos hp]) (kt hp)
          · exact Wp.one he rfl (by simp only [zbr]; rw [if_neg hp]) (kf hp)
        · by_cases hp : y ≤ x
          · exact Wp.one he rfl (by simp only [zbr]; rw [if_pos hp]) (kt hp)
          · exact Wp.one he rfl (by simp only [zbr]; rw [if_neg hp]) (kf hp)
        · by_cases hp : y < x
          · exact Wp.one he rfl (by simp only [zbr]; rw [if_pos hp]) (kt hp)
          · exact Wp.one he rfl (by simp only [zbr]; rw [if_neg hp]) (kf hp)
        · by_cases hp : x ≤ y
          · exact Wp.one he rfl (by simp only [zbr]; rw [if_pos hp]) (kt hp)
          · exact Wp.one he rfl (by simp only [zbr]; rw [if_neg hp]) (kf hp)
      · cases hb
    · next q off =>
      split at hb
      · next x r0 =>
        split at hb <;> cases hb
        · by_cases hp : x = 0
          · exact Wp.one he rfl (by simp only [zbr]; rw [if_pos hp]) (kt hp)
          · exact Wp.one he rfl (by simp only [zbr]; rw [if_neg hp]) (kf hp)
        · by_cases hp : x ≠ 0
          · exact Wp.one he rfl (by simp only [zbr]; rw [if_pos hp]) (kt hp)
          · exact Wp.one he rfl (by simp only [zbr]; rw [if_neg hp]) (kf hp)
        · by_cases hp : x < 0
          · exact Wp.one he rfl (by simp only [zbr]; rw [if_pos hp]) (kt hp)
          · exact Wp.one he rfl (by simp only [zbr]; rw [if_neg hp]) (kf hp)
        · by_cases hp : 0 ≤ x
          · exact Wp.one he rfl (by simp only [zbr]; rw [if_pos hp]) (kt hp)
          · exact Wp.one he rfl (by simp only [zbr]; rw [if_neg hp]) (kf hp)
        · by_cases hp : 0 < x
          · exact Wp.one he rfl (by simp only [zbr]; rw [if_pos hp]) (kt hp)
          · exact Wp.one he rfl (by simp only [zbr]; rw [if_neg hp]) (kf hp)
        · by_cases hp : x ≤ 0
          · exact Wp.one he rfl (by simp only [zbr]; rw [if_pos hp]) (kt hp)
          · exact Wp.one he rfl (by simp only [zbr]; rw [if_neg hp]) (kf hp)
      · cases hb
    · cases hb
  · cases hb
theorem Wp.brt {P : Prop} {a nx : Nat} {r : List ZV} (hb : zbc T pc st = some (P, a, nx, r)) (hp : P) (k : Wp S T sc a L r M h Φ) : Wp S T sc pc L st M h Φ := Wp.br hb (fun _ => k) (fun q => absurd hp q)
theorem Wp.brf {P : Prop} {a nx : Nat} {r : List ZV} (hb : zbc T pc st = some (P, a, nx, r)) (hp : ¬ P) (k : Wp S T sc nx L r M h Φ) : Wp S T sc pc L st M h Φ := Wp.br hb (fun q => absurd q hp) (fun _ => k)
theorem Wp.ld {k nx n : Nat} {j : Int} {r : List ZV} {rs : List (Option Nat)} (ha : zal T pc st = some (k, j, nx, r)) (hs : zgt S k = some (100, n, rs)) (i : Nat) (hj : j = (i : Int)) (hi : i < n) (kk : Wp S T sc nx L (.inl (M k i) :: r) M h Φ) : Wp S T sc pc L st M h Φ := by
  unfold zal at ha
  split at ha
  · next ii nx0 a0 b d c w he =>
    split at ha
    · split at ha
      · cases ha
        subst hj
        exact Wp.one he rfl (by simp only [zbr]; rw [hs]; dsimp only; rw [if_pos ⟨rfl, by omega, by omega⟩]; rfl) kk
      · cases ha
    · cases ha
  · cases ha
theorem Wp.lds {nx n : Nat} {xs : Nat → Int} {j : Int} {r : List ZV} (ha : zals T pc st = some (j, nx, r)) (hs : sc = some (n, xs)) (i : Nat) (hj : j = (i : Int)) (hi : i < n) (kk : Wp S T sc nx L (.inl (xs i) :: r) M h Φ) : Wp S T sc pc L st M h Φ := by
  unfold zals at ha
  split at ha
  · next ii nx0 a0 b d c w he =>
    split at ha
    · split at ha
      · cases ha
        subst hj; subst hs
        exact Wp.one he rfl (by simp only [zbr]; rw [if_pos ⟨by omega, by omega⟩]; rfl) kk
      · cases ha
    · cases ha
  · cases ha
theorem Wp.sto {k nx n : Nat} {j x : Int} {r : List ZV} {rs : List (Option Nat)} (ha : zas T pc st = some (k, j, x, nx, r)) (hs : zgt S k = some (100, n, rs)) (i : Nat) (hj : j = (i : Int)) (hi : i < n) (kk : Wp S T sc nx L r (upd2 M k i x) h Φ) : Wp S T sc pc L st M h Φ := by
  unfold zas at ha
  split at ha
  · next ii nx0 a0 b d c w he =>
    split at ha
    · split at ha
      · cases ha
        subst hj
        exact Wp.one he rfl (by simp only [zbr]; rw [hs]; dsimp only; rw [if_pos ⟨rfl, by omega, by omega⟩]; rfl) kk
      · cases ha
    · cases ha
  · cases ha
theorem Wp.div {nx : Nat} {x y : Int} {r : List ZV} (ha : zdv T pc st = some (true, x, y, nx, r)) (h0 : 0 ≤ x) (h1 : 0 < y) (kk : Wp S T sc nx L (.inl (x / y) :: r) M h Φ) : Wp S T sc pc L st M h Φ := by
  unfold zdv at ha
  split at ha
  · next ii nx0 a0 b d c w he =>
    split at ha
    · split at ha
      · cases ha
        exact Wp.one he rfl (by simp only [zbr]; rw [if_pos ⟨h0, h1⟩]) kk
      · cases ha
    · split at ha <;> cases ha
    · cases ha
  · cases ha
theorem Wp.rem {nx : Nat} {x y : Int} {r : List ZV} (ha : zdv T pc st = some (false, x, y, nx, r)) (h0 : 0 ≤ x) (h1 : 0 < y) (kk : Wp S T sc nx L (.inl (x % y) :: r) M h Φ) : Wp S T sc pc L st M h Φ := by
  unfold zdv at ha
  split at ha
  · next ii nx0 a0 b d c w he =>
    split at ha
    · split at ha <;> cases ha
    · split at ha
      · cases ha
        exact Wp.one he rfl (by simp only [zbr]; rw [if_pos ⟨h0, h1⟩]) kk
      · cases ha
    · cases ha
  · cases ha
theorem Wp.acp {k1 k2 n1 n2 nx : Nat} {sp dp n : Int} {r : List ZV} {r1 r2 : List (Option Nat)} (ha : zacp T pc st = some (k1, k2, sp, dp, n, nx, r)) (hs1 : zgt S k1 = some (100, n1, r1)) (hs2 : zgt S k2 = some (100, n2, r2)) (sp' dp' n' : Nat) (e1 : sp = (sp' : Int)) (e2 : dp = (dp' : Int)) (e3 : n = (n' : Int)) (g1 : sp' + n' ≤ n1) (g2 : dp' + n' ≤ n2) (kk : Wp S T sc nx L r (cpy2 M k1 k2 sp' dp' n') h Φ) : Wp S T sc pc L st M h Φ := by
  unfold zacp at ha
  split at ha
  · next ii nx0 a0 b d c w he =>
    split at ha
    · split at ha
      · next n0 dp0 k20 sp0 k10 r0 =>
        cases hc : Nat.ble (zwt r0) 8 with
        | false => rw [hc, cond_false] at ha; cases ha
        | true =>
          rw [hc, cond_true] at ha
          cases ha
          subst e1; subst e2; subst e3
          exact Wp.one he rfl (by simp only [zbr]; rw [hs1, hs2]; dsimp only; rw [if_pos ⟨rfl, rfl, by omega, by omega, by omega, by omega, by omega, Nat.le_of_ble_eq_true hc⟩]; rfl) kk
      · cases ha
    · cases ha
  · cases ha
theorem Wp.sw {t : Nat} {r : List ZV} (ha : zsw T pc st = some (t, r)) (kk : Wp S T sc t L r M h Φ) : Wp S T sc pc L st M h Φ := by
  unfold zsw at ha
  split at ha
  · next ii nx0 a0 b d c w he =>
    split at ha
    · split at ha
      · split at ha
        · next hx =>
          cases ha
          exact Wp.one he rfl (by simp only [zbr]; rw [if_pos hx]) kk
        · next hx =>
          split at ha
          · next o ho =>
            cases ha
            exact Wp.one he rfl (by simp only [zbr]; rw [if_neg hx, ho]) kk
          · cases ha
      · cases ha
    · cases ha
  · cases ha
theorem zca_none {e : En} {r : CT × List ZV × Nat × List ZV} (hc : zca e st S = some r) : zst sc e L st S M h = none ∧ zbr sc e L st S M h = none := by
  obtain ⟨i, nx, a, b, d, c, w⟩ := e
  cases i
  case invokevirtual k => exact ⟨rfl, rfl⟩
  case invokespecial k =>
    cases a with
    | zero =>
      simp only [zca] at hc
      cases hr : zrr st b with
      | false => rw [hr, cond_false] at hc; cases hc
      | true => rw [hr, cond_true] at hc; cases hc
    | succ a => exact ⟨rfl, rfl⟩
  case invokestatic k =>
    cases a with
    | zero => cases hc
    | succ a => exact ⟨rfl, rfl⟩
  all_goals (simp only [zca, reduceCtorEq] at hc)
theorem Wp.callS {T' : CT} {L0 r : List ZV} {nx : Nat} {Ψ : Option ZV → Me → Ml → Prop} (hc : zcc T pc st S = some (T', L0, nx, r)) (hm : Wp S T' sc 0 L0 [] M h Ψ) (kk : ∀ v M' h', Ψ v M' h' → Wp S T sc nx L (zpush v r) M' h' Φ) : Wp S T sc pc L st M h Φ := by
  unfold zcc at hc
  split at hc
  · next e he =>
    obtain ⟨n, v, M', h', h1, h2⟩ := hm
    obtain ⟨n2, v2, M2, h2', h3, h4⟩ := kk v M' h' h2
    obtain ⟨z0, z1⟩ := zca_none (sc := sc) (L := L) (M := M) (h := h) hc
    refine ⟨max n n2 + 1, v2, M2, h2', ?_, h4⟩
    have e1 := run_up (k := max n n2 - n) h1
    have e2 := run_up (k := max n n2 - n2) h3
    rw [show n + (max n n2 - n) = max n n2 by omega] at e1
    rw [show n2 + (max n n2 - n2) = max n n2 by omega] at e2
    rw [run_ca he z0 z1 hc e1]
    exact e2
  · cases hc
theorem Wp.lift {Ψ : Option ZV → Me → Ml → Prop} (k : Wp S T none pc L st M h Ψ) : Wp S T sc pc L st M h Ψ := by
  obtain ⟨n, v, M', h', h1, h2⟩ := k
  exact ⟨n, v, M', h', run_sc h1, h2⟩
theorem Wp.call {T' : CT} {L0 r : List ZV} {nx : Nat} {Ψ : Option ZV → Me → Ml → Prop} (hc : zcc T pc st S = some (T', L0, nx, r)) (hm : Wp S T' none 0 L0 [] M h Ψ) (kk : ∀ v M' h', Ψ v M' h' → Wp S T sc nx L (zpush v r) M' h' Φ) : Wp S T sc pc L st M h Φ := Wp.callS hc hm.lift kk
theorem Wp.calli {T' : CT} {L0 r : List ZV} {nx : Nat} {x : Int} {M' : Me} {h' : Ml} (hc : zcc T pc st S = some (T', L0, nx, r)) (hm : Wp S T' none 0 L0 [] M h (Ri x M' h')) (kk : Wp S T sc nx L (.inl x :: r) M' h' Φ) : Wp S T sc pc L st M h Φ :=
  Wp.call hc hm (fun v M1 h1 q => by obtain ⟨rfl, rfl, rfl⟩ := q; exact kk)
theorem Wp.callv {T' : CT} {L0 r : List ZV} {nx : Nat} {M' : Me} {h' : Ml} (hc : zcc T pc st S = some (T', L0, nx, r)) (hm : Wp S T' none 0 L0 [] M h (Rv M' h')) (kk : Wp S T sc nx L r M' h' Φ) : Wp S T sc pc L st M h Φ :=
  Wp.call hc hm (fun v M1 h1 q => by obtain ⟨rfl, rfl, rfl⟩ := q; exact kk)
theorem Wp.calll {T' : CT} {L0 r : List ZV} {nx : Nat} {x : Int64} {M' : Me} {h' : Ml} (hc : zcc T pc st S = some (T', L0, nx, r)) (hm : Wp S T' none 0 L0 [] M h (Rl x M' h')) (kk : Wp S T sc nx L (.inr (.inl x) :: r) M' h' Φ) : Wp S T sc pc L st M h Φ :=
  Wp.call hc hm (fun v M1 h1 q => by obtain ⟨rfl, rfl, rfl⟩ := q; exact kk)
theorem Wp.re {v : Option ZV} (hr : zrx T pc st = some v) (hp : Φ v M h) : Wp S T sc pc L st M h Φ := by
  unfold zrx at hr
  split at hr
  · next e he =>
    have hn : zst sc e L st S M h = none ∧ zbr sc e L st S M h = none ∧ zca e st S = none := by
      obtain ⟨i, nx, a, b, d, c, w⟩ := e
      cases i
      case ireturn => exact ⟨rfl, rfl, rfl⟩
      case lreturn => exact ⟨rfl, rfl, rfl⟩
      case return_ => exact ⟨rfl, rfl, rfl⟩
      all_goals (simp only [zre, reduceCtorEq] at hr)
    exact ⟨1, v, M, h, by rw [run_re he hn.1 hn.2.1 hn.2.2 hr], hp⟩
  · cases hr
theorem Wp.rei {x y : Int} {M' : Me} {h' : Ml} (hr : zrx T pc st = some (some (.inl x))) (hx : x = y) (hM : M = M') (hh : h = h') : Wp S T sc pc L st M h (Ri y M' h') := Wp.re hr ⟨by rw [hx], hM, hh⟩
theorem Wp.rev {M' : Me} {h' : Ml} (hr : zrx T pc st = some none) (hM : M = M') (hh : h = h') : Wp S T sc pc L st M h (Rv M' h') := Wp.re hr ⟨rfl, hM, hh⟩
end WPS
/-- plain steps, one at least -/
def zgo1 (T : CT) (sc : Sc) (pc : Nat) (L st : List ZV) (S : Sh) (M : Me) (h : Ml) : Option Zs := match look2 T pc with
  | none => none
  | some e => match zst sc e L st S M h with
    | some (pc', L', st', S', M', h') => zgo 400 T sc pc' L' st' S' M' h'
    | none => none
theorem Wp.g1 {S : Sh} {T : CT} {sc : Sc} {pc : Nat} {L st : List ZV} {M : Me} {h : Ml} {Φ : Option ZV → Me → Ml → Prop} {pc' : Nat} {L' st' : List ZV} {M' : Me} {h' : Ml} (hg : zgo1 T sc pc L st S M h = some (pc', L', st', S, M', h')) (k : Wp S T sc pc' L' st' M' h' Φ) : Wp S T sc pc L st M h Φ := by
  unfold zgo1 at hg
  split at hg
  · cases hg
  · next e he =>
    split at hg
    · next hz =>
      obtain ⟨m, hm⟩ := zgo_run hg
      obtain ⟨n, v, M1, h1, e1, e2⟩ := k
      exact ⟨n + m + 1, v, M1, h1, by rw [run_st he hz, hm]; exact e1, e2⟩
    · cases hg
def zaa (T : CT) (pc : Nat) (st : List ZV) : Option (Nat × Int × Nat × List ZV) := match look2 T pc with
  | some (i, nx, _, _, _, _, _) => (match i with
    | .aaload => (match st with | .inl j :: .inr (.inr (.inl k)) :: r => some (k, j, nx, r) | _ => none)
    | _ => none)
  | none => none
theorem Wp.ald {S : Sh} {T : CT} {sc : Sc} {pc : Nat} {L st : List ZV} {M : Me} {h : Ml} {Φ : Option ZV → Me → Ml → Prop} {k nx n q : Nat} {j : Int} {r : List ZV} {rs : List (Option Nat)} (ha : zaa T pc st = some (k, j, nx, r)) (hs : zgt S k = some (101, n, rs)) (i : Nat) (hj : j = (i : Int)) (hi : i < n) (hq : zgt rs i = some (some q)) (kk : Wp S T sc nx L (zr q :: r) M h Φ) : Wp S T sc pc L st M h Φ := by
  unfold zaa at ha
  split at ha
  · next ii nx0 a0 b d c w he =>
    split at ha
    · split at ha
      · cases ha
        subst hj
        exact Wp.one he rfl (by simp only [zbr]; rw [hs]; dsimp only; rw [if_pos ⟨rfl, by omega, by omega⟩, Int.toNat_natCast, hq]) kk
      · cases ha
    · cases ha
  · cases ha
/-- plain steps up to the place t -/
def zgoT : Nat → Nat → CT → Sc → Nat → List ZV → List ZV → Sh → Me → Ml → Option Zs
  | 0, _, _, _, _, _, _, _, _, _ => none
  | n + 1, t, T, sc, pc, L, st, S, M, h => bif Nat.beq pc t then some (pc, L, st, S, M, h) else (match look2 T pc with
    | none => none
    | some e => match zst sc e L st S M h with
      | some (pc', L', st', S', M', h') => zgoT n t T sc pc' L' st' S' M' h'
      | none => none)
theorem zgoT_run : ∀ {n t : Nat} {T : CT} {sc : Sc} {pc : Nat} {L st : List ZV} {S : Sh} {M : Me} {h : Ml} {pc' : Nat} {L' st' : List ZV} {S' : Sh} {M' : Me} {h' : Ml}, zgoT n t T sc pc L st S M h = some (pc', L', st', S', M', h') → ∃ k, ∀ m, run (m + k) T sc pc L st S M h = run m T sc pc' L' st' S' M' h' := by
  intro n
  induction n with
  | zero => intro t T sc pc L st S M h pc' L' st' S' M' h' hg; cases hg
  | succ n ih =>
    intro t T sc pc L st S M h pc' L' st' S' M' h' hg
    unfold zgoT at hg
    cases hb : Nat.beq pc t with
    | true => rw [hb, cond_true] at hg; cases hg; exact ⟨0, fun m => rfl⟩
    | false =>
      rw [hb, cond_false] at hg
      split at hg
      · cases hg
      · next e he =>
        split at hg
        · next hz =>
          obtain ⟨k, hk⟩ := ih hg
          refine ⟨k + 1, fun m => ?_⟩
          rw [← Nat.add_assoc, run_st he hz]
          exact hk m
        · cases hg
theorem Wp.gt (t : Nat) {S : Sh} {T : CT} {sc : Sc} {pc : Nat} {L st : List ZV} {M : Me} {h : Ml} {Φ : Option ZV → Me → Ml → Prop} {pc' : Nat} {L' st' : List ZV} {M' : Me} {h' : Ml} (hg : zgoT 400 t T sc pc L st S M h = some (pc', L', st', S, M', h')) (k : Wp S T sc pc' L' st' M' h' Φ) : Wp S T sc pc L st M h Φ := by
  obtain ⟨m, hm⟩ := zgoT_run hg
  obtain ⟨n, v, M1, h1, e1, e2⟩ := k
  exact ⟨n + m, v, M1, h1, by rw [hm]; exact e1, e2⟩
