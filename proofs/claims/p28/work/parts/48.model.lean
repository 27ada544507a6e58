/-! the model's memory -/
def us (s : Nat → Int32) (j : Nat) (v : Int32) : Nat → Int32 := fun j' => if j' = j then v else s j'
def sp (M : xM) (s : Nat → Int32) : xM := (fun r o => if r = 6 ∧ o = 1 then s else M.1 r o, M.2)
theorem us_eq (s : Nat → Int32) (j : Nat) (v : Int32) : us s j v j = v := if_pos rfl
theorem us_ne (s : Nat → Int32) {j j' : Nat} (v : Int32) (h : j' ≠ j) : us s j v j' = s j' := if_neg h
/-! the model's tests of numbers -/
theorem lt_64 {x y : Int32} : (x.toInt64 < y.toInt64) ↔ x < y := by
  rw [Int64.lt_iff_toInt_lt, Int32.toInt_toInt64, Int32.toInt_toInt64, Int32.lt_iff_toInt_lt]
theorem rg_le {x : Int32} {n : Nat} (hn : n + 1 < 2 ^ 31) : (!decide (x < 0) && !decide (nI n < x)) = rg (n + 1) x := by
  have h := frm_nI (x := x) (a := 0) (b := n) (by omega) (by omega)
  rw [nI_0] at h
  rw [Bool.eq_iff_iff, h, rg_iff (by omega)]
  constructor
  · rintro ⟨k, -, h2, h3⟩
    exact ⟨k, by omega, h3⟩
  · rintro ⟨k, h2, h3⟩
    exact ⟨k, by omega, by omega, h3⟩
