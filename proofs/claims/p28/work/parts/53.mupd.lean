theorem sumI_ud {g : Nat → Int32} {p : Nat} {v : Int32} : ∀ n, sumI (fun j => if j = p then g p + v else g j) n = if p < n then sumI g n + v else sumI g n
  | 0 => by
    rw [if_neg (by omega)]
    rfl
  | n + 1 => by
    show sumI (fun j => if j = p then g p + v else g j) n + (if n = p then g p + v else g n) = if p < n + 1 then (sumI g n + g n) + v else sumI g n + g n
    rw [sumI_ud n]
    by_cases h : n = p
    · subst h
      rw [if_neg (by omega), if_pos rfl, if_pos (by omega), Int32.add_assoc]
    · rw [if_neg h]
      by_cases h2 : p < n
      · rw [if_pos h2, if_pos (by omega), Int32.add_assoc, Int32.add_comm v, Int32.add_assoc]
      · rw [if_neg h2, if_neg (by omega)]
