theorem c_countAllWaiting {r : Nat} {M : xM} : f_X4_countAllWaiting r M = some (nI (cnt (fun p => !decide (zWait (M.1 r) p 3 = 0)) 20)) := by
  unfold f_X4_countAllWaiting
  refine xlp_cnt (fun p => !decide (zWait (M.1 r) p 3 = 0)) (fun p hp n => ?_) rfl
  unfold f_X4_countAllWaiting_l4
  simp (disch := omega) only [lt_20, if_true, c_waitsForSome hp, Option.bind_some, ite_bI]
  cases decide (zWait (M.1 r) p 3 = 0) <;> rfl
theorem cnt_eq {P Q : Nat → Bool} (h : ∀ p, p < 20 → P p = Q p) : nI (cnt P 20) = nI (cnt Q 20) := by rw [cnt_congr 20 h]
