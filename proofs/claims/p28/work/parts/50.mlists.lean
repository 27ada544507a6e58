theorem rmv_len (p : Nat) : ∀ l : List Nat, (rmv p l).length ≤ l.length
  | [] => Nat.le_refl _
  | x :: r => by
    have := rmv_len p r
    show (if x = p then r else x :: rmv p r).length ≤ r.length + 1
    split
    · omega
    · rw [List.length_cons]
      omega
