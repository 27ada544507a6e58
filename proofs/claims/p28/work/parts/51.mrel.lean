/-- the place in a state of a person's field -/
def mF : Nat → Nat
  | 0 => 4
  | 1 => 5
  | 2 => 19
  | 3 => 20
  | 4 => 21
  | 5 => 22
  | 6 => 23
  | _ => 24
theorem zGive_at {p : Nat} {sh d dy : Int32} {σ : Nat → Nat → Int32} {o j : Nat} (h7 : ¬ (7 ≤ o ∧ o < 10)) : zGive p sh d dy σ o j = ud (ud (ud σ 4 p sh) 5 p ((dy + d) - 1)) 3 5 (σ 3 5 + 1) o j := by
  unfold zGive zLv
  rw [if_neg (by omega)]
