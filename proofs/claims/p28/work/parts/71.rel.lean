theorem hC.congr {M N : xM} {n : Nat} {R : Nat → Nat} (h : hC M n R) (e1 : N.1 5 76 = M.1 5 76) (e2 : N.1 5 77 = M.1 5 77) (e3 : N.1 5 78 = M.1 5 78) (e4 : N.2 = M.2) : hC N n R := by
  obtain ⟨h1, h2, h3, h4, h5, h6, h7, h8⟩ := h
  refine ⟨h1, ?_, ?_, ?_, ?_, ?_, h7, h8⟩
  · rw [e1]
    exact h2
  · rw [e2]
    exact h3
  · rw [e3]
    exact h4
  · rw [e4]
    exact h5
  · rw [e4]
    exact h6
theorem hC.big {M : xM} {n : Nat} {R : Nat → Nat} (h : hC M n R) {j : Nat} (hj : j < 8) (h0 : R j ≠ 0) : 7 ≤ R j := ((h.2.2.2.2.2.1 j hj).resolve_left h0).1
theorem cp_to (M : xM) (a b : Nat) : (xe_cp a b M).1 a = M.1 b := by
  funext o j
  exact if_pos rfl
theorem cp_ne (M : xM) {a b r : Nat} (h : r ≠ a) : (xe_cp a b M).1 r = M.1 r := by
  funext o j
  exact if_neg h
theorem cp_2 (M : xM) (a b : Nat) : (xe_cp a b M).2 = M.2 := rfl
theorem recorded_neg {e : Int32} {M : xM} (h : e < 0) : f_X6_recorded e M = some (e, M) := if_pos h
theorem recorded_pos {e : Int32} {M M1 : xM} (h : ¬ e < 0) (h1 : f_X2_record 3 M = some M1) : f_X6_recorded e M = some (e, M1) := by
  unfold f_X6_recorded
  rw [if_neg h, h1]
  rfl
