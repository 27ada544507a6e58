theorem i_neg1 : (-1 : Int32) < 0 := by decide
theorem i_neg2 : (-2 : Int32) < 0 := by decide
theorem i_neg3 : (-3 : Int32) < 0 := by decide
theorem i_neg4 : (-4 : Int32) < 0 := by decide
theorem i_neg5 : (-5 : Int32) < 0 := by decide
theorem i_zero : ¬ (0 : Int32) < 0 := by decide
theorem rg3_perm {x : Int32} (h : x = -6 ∨ rg 3 x = true) : rg 3 x = !decide (x = -6) := by
  rcases h with h | h
  · rw [h, rg_6]
    rfl
  · rw [h, decide_eq_false (rg_not6 h)]
    rfl
