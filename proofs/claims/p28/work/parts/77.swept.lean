/-! what a sweep would take; undo, save, restore -/
theorem zDays_other {U : Nat → Nat} {sp : Nat} {q : (Nat → Nat → Int32) × (Nat → List Nat)} {o j : Nat} (h0 : ¬ (o = 0 ∧ j = 4)) (h3 : o ≠ 3) (h4 : o ≠ 4) (h5 : o ≠ 5) (h6 : o ≠ 23) (h7 : o ≠ 24) (h8 : ¬ (7 ≤ o ∧ o < 10)) : ∀ n, (zDays U sp n q).1 o j = q.1 o j
  | 0 => rfl
  | n + 1 => by
    rw [zDays_s, zDay_other h0 h3 h4 h5 h6 h7 h8]
    exact zDays_other h0 h3 h4 h5 h6 h7 h8 n
