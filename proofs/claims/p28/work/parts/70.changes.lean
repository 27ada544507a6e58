theorem xu_eq (M : xM) (r o j : Nat) (v : Int32) : (xd_up M r o j v).1 r o j = v := by rw [up_rp, rp_get, us_eq]
theorem xu_ne (M : xM) {r o r' o' : Nat} (j : Nat) (v : Int32) (h : ¬ (r' = r ∧ o' = o)) : (xd_up M r o j v).1 r' o' = M.1 r' o' := by rw [up_rp, rp_ne _ _ h]
