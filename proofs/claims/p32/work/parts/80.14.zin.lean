theorem zin_of {p : Nat} {w : Cond} (h : lw_tbl[p]? = some w) (g : goodWord w = true) : zin p w = true := by
  unfold zin
  rw [decide_eq_true h, g]
  rfl
