theorem nI_0' : (0 : Int32) = nI 0 := rfl
theorem in_len {x : Int32} {n : Nat} (hn : n ≤ 20) : (!decide (x < 0) && !decide (nI n - 1 < x)) = rg n x := by
  cases n with
  | zero =>
    have e : nI 0 - 1 = (-1 : Int32) := rfl
    have r0 : rg 0 x = false := Bool.eq_false_iff.mpr (fun z => by
      obtain ⟨k, hk, -⟩ := (rg_iff (by omega)).mp z
      omega)
    rw [e, r0]
    by_cases h : x < 0
    · rw [decide_eq_true h]
      rfl
    · have h2 : (-1 : Int32) < x := by
        obtain ⟨j, hj, rfl⟩ := nI_of h
        rw [Int32.lt_iff_toInt_lt, nI_toInt (by omega)]
        show (-1 : Int) < _
        omega
      rw [decide_eq_true h2]
      cases decide (x < 0) <;> rfl
  | succ n =>
    have e : nI (n + 1) - 1 = nI n := sub_nI (a := n + 1) (b := 1) (by omega)
    rw [e, rg_le (by omega)]
