theorem zT_all {own : String} {cc : ByteArray} {nL : Nat} {isI : Bool} {ret : Option FieldType} {fr lo : Nat} {T : CT} {G n : Nat} (hn : T.length ≤ n * G) (h : ∀ g, g < n → zchkT own cc nL isI ret fr lo ((T.drop (g * G)).take G) = true) : zchkT own cc nL isI ret fr lo T = true := by
  refine List.all_eq_true.mpr fun q hq => ?_
  obtain ⟨i, hi⟩ := List.getElem?_of_mem hq
  have hlt : i < T.length := (List.getElem?_eq_some_iff.mp hi).1
  have hG : 0 < G := by
    rcases Nat.eq_zero_or_pos G with h0 | h0
    · subst h0; omega
    · exact h0
  have hg : i / G < n := Nat.div_lt_of_lt_mul (by rw [Nat.mul_comm]; omega)
  refine List.all_eq_true.mp (h (i / G) hg) q (List.mem_of_getElem? (i := i % G) ?_)
  rw [List.getElem?_take, if_pos (Nat.mod_lt _ hG), List.getElem?_drop]
  rw [Nat.mul_comm, Nat.div_add_mod]
  exact hi
theorem zchkM_of {T : CT} {nl : Nat} {y : MethodName} {cc : ByteArray} {ret : Option FieldType} {fr lo p1 p2 p3 p4 : Nat} (h : zchkT y.cls cc nl (decide (y.name = "<init>")) ret fr lo T = true) (h2 : (zin p1 (.code y cc nl ret) && zin p2 (.initialized y.cls) && zplain y.cls) = true) : zchkM (T, nl, y, cc, ret, fr, lo, [p1, p2, p3, p4]) = true := by
  unfold zchkM
  simp only [Bool.and_eq_true] at h2 ⊢
  exact ⟨⟨⟨h, h2.1.1⟩, h2.1.2⟩, h2.2⟩
