def f_X7_set (a1 : Int32) (a2 : Int32) (M : xM) : Option (Int32 × xM) := (f_X7_isValue a1 a2 M).bind (fun q1 => if q1 = (0 : Int32) then (some (((-2 : Int32), M))) else ((f_X7_changes M).bind (fun q3 => if xp_in a1 3540 = true then (if xp_in a1 3540 = true then ((f_X7_movesUp (0 : Int32) (xd_up q3 6 1 a1.toNatClampNeg a2)).bind (fun q7 => some ((q3.1 6 1 a1.toNatClampNeg, q7.2)))) else none) else none)))
theorem f_X7_set_run {X : List Int32} {a1 : Int32} {a2 : Int32} {M : xM} {p : Int32 × xM} {r : xR} (h : f_X7_set a1 a2 M = some p) (hr : ∀ q, p = q → ((some (.inl q.1), q.2) : xR) = r) : xq X xe 155 0 [(0, .inr (.inr (14, 6, 0))), (1, .inl a1), (2, .inl a2)] [] M r := by
  unfold f_X7_set at h
  refine xq_blk 2 (pc' := 2) (ls' := [(0, .inr (.inr (14, 6, 0))), (1, .inl a1), (2, .inl a2)]) (st' := [.inl a2, .inl a1]) (M' := M) rfl ?_
  refine xq_bind h (fun q1 e2 h => ?_)
  refine xq_call (j := 154) (as := [.inl a1, .inl a2]) (pc' := 5) (ls' := [(0, .inr (.inr (14, 6, 0))), (1, .inl a1), (2, .inl a2)]) (st' := []) rfl rfl (f_X7_isValue_ok e2) ?_
  refine xq_ite h (fun c9 h => ?_) (fun c9 h => ?_)
  · refine xq_core (pc' := 8) (ls' := [(0, .inr (.inr (14, 6, 0))), (1, .inl a1), (2, .inl a2)]) (st' := []) rfl (if_pos c9) ?_
    refine xq_blk 1 (pc' := 10) (ls' := [(0, .inr (.inr (14, 6, 0))), (1, .inl a1), (2, .inl a2)]) (st' := [.inl (-2 : Int32)]) (M' := M) rfl ?_
    exact (hr _ (Option.some.inj h).symm) ▸ xq_ret rfl
  · refine xq_core (pc' := 11) (ls' := [(0, .inr (.inr (14, 6, 0))), (1, .inl a1), (2, .inl a2)]) (st' := []) rfl (if_neg c9) ?_
    refine xq_blk 1 (pc' := 12) (ls' := [(0, .inr (.inr (14, 6, 0))), (1, .inl a1), (2, .inl a2)]) (st' := [.inr (.inr (14, 6, 0))]) (M' := M) rfl ?_
    refine xq_bind h (fun q3 e4 h => ?_)
    refine xq_call (j := 122) (as := [.inr (.inr (14, 6, 0))]) (pc' := 15) (ls' := [(0, .inr (.inr (14, 6, 0))), (1, .inl a1), (2, .inl a2)]) (st' := []) rfl rfl (f_X7_changes_ok e4) ?_
    refine xq_blk 3 (pc' := 20) (ls' := [(0, .inr (.inr (14, 6, 0))), (1, .inl a1), (2, .inl a2)]) (st' := [.inl a1, .inr (.inr (15, 6, 1))]) (M' := q3) rfl ?_
    refine xq_guard h (fun g5 h => ?_)
    refine xq_prim (st' := [.inl (q3.1 6 1 a1.toNatClampNeg)]) (M' := q3) rfl rfl rfl (xg_ald0 rfl g5) ?_
    refine xq_blk 5 (pc' := 28) (ls' := [(3, .inl (q3.1 6 1 a1.toNatClampNeg)), (0, .inr (.inr (14, 6, 0))), (1, .inl a1), (2, .inl a2)]) (st' := [.inl a2, .inl a1, .inr (.inr (15, 6, 1))]) (M' := q3) rfl ?_
    refine xq_guard h (fun g6 h => ?_)
    refine xq_prim (st' := []) (M' := xd_up q3 6 1 a1.toNatClampNeg a2) rfl rfl rfl (xg_ast0 rfl g6) ?_
    refine xq_blk 2 (pc' := 31) (ls' := [(3, .inl (q3.1 6 1 a1.toNatClampNeg)), (0, .inr (.inr (14, 6, 0))), (1, .inl a1), (2, .inl a2)]) (st' := [.inl (0 : Int32), .inr (.inr (14, 6, 0))]) (M' := xd_up q3 6 1 a1.toNatClampNeg a2) rfl ?_
    refine xq_bind h (fun q7 e8 h => ?_)
    refine xq_call (j := 131) (as := [.inr (.inr (14, 6, 0)), .inl (0 : Int32)]) (pc' := 34) (ls' := [(3, .inl (q3.1 6 1 a1.toNatClampNeg)), (0, .inr (.inr (14, 6, 0))), (1, .inl a1), (2, .inl a2)]) (st' := []) rfl rfl (f_X7_movesUp_ok e8) ?_
    refine xq_blk 2 (pc' := 37) (ls' := [(4, .inl q7.1), (3, .inl (q3.1 6 1 a1.toNatClampNeg)), (0, .inr (.inr (14, 6, 0))), (1, .inl a1), (2, .inl a2)]) (st' := [.inl (q3.1 6 1 a1.toNatClampNeg)]) (M' := q7.2) rfl ?_
    exact (hr _ (Option.some.inj h).symm) ▸ xq_ret rfl
theorem f_X7_set_ok {X : List Int32} {a1 : Int32} {a2 : Int32} {M : xM} {p : Int32 × xM} (h : f_X7_set a1 a2 M = some p) : xq X xe 155 0 [(0, .inr (.inr (14, 6, 0))), (1, .inl a1), (2, .inl a2)] [] M ((some (.inl p.1), p.2) : xR) := f_X7_set_run h (fun q e => by rw [e])
def f_X7_isPerson (a0 : Int32) (M : xM) : Option (Int32) := (f_X7_in a0.toInt64 (0 : Int64) (19 : Int64) M).bind (fun q1 => some ((vp_nar .boolean q1)))
theorem f_X7_isPerson_run {X : List Int32} {a0 : Int32} {M : xM} {p : Int32} {r : xR} (h : f_X7_isPerson a0 M = some p) (hr : ∀ q, p = q → ((some (.inl q), M) : xR) = r) : xq X xe 141 0 [(0, .inl a0)] [] M r := by
  unfold f_X7_isPerson at h
  refine xq_blk 4 (pc' := 6) (ls' := [(0, .inl a0)]) (st' := [.inr (.inl (19 : Int64)), .inr (.inl (0 : Int64)), .inr (.inl a0.toInt64)]) (M' := M) rfl ?_
  refine xq_bind h (fun q1 e2 h => ?_)
  refine xq_call (j := 119) (as := [.inr (.inl a0.toInt64), .inr (.inl (0 : Int64)), .inr (.inl (19 : Int64))]) (pc' := 9) (ls' := [(0, .inl a0)]) (st' := []) rfl rfl (f_X7_in_ok e2) ?_
  exact (hr _ (Option.some.inj h).symm) ▸ xq_ret rfl
theorem f_X7_isPerson_ok {X : List Int32} {a0 : Int32} {M : xM} {p : Int32} (h : f_X7_isPerson a0 M = some p) : xq X xe 141 0 [(0, .inl a0)] [] M ((some (.inl p), M) : xR) := f_X7_isPerson_run h (fun q e => by rw [e])
def f_X7_isShed (a0 : Int32) (M : xM) : Option (Int32) := (f_X7_in a0.toInt64 (0 : Int64) (2 : Int64) M).bind (fun q1 => some ((vp_nar .boolean q1)))
theorem f_X7_isShed_run {X : List Int32} {a0 : Int32} {M : xM} {p : Int32} {r : xR} (h : f_X7_isShed a0 M = some p) (hr : ∀ q, p = q → ((some (.inl q), M) : xR) = r) : xq X xe 142 0 [(0, .inl a0)] [] M r := by
  unfold f_X7_isShed at h
  refine xq_blk 4 (pc' := 6) (ls' := [(0, .inl a0)]) (st' := [.inr (.inl (2 : Int64)), .inr (.inl (0 : Int64)), .inr (.inl a0.toInt64)]) (M' := M) rfl ?_
  refine xq_bind h (fun q1 e2 h => ?_)
  refine xq_call (j := 119) (as := [.inr (.inl a0.toInt64), .inr (.inl (0 : Int64)), .inr (.inl (2 : Int64))]) (pc' := 9) (ls' := [(0, .inl a0)]) (st' := []) rfl rfl (f_X7_in_ok e2) ?_
  exact (hr _ (Option.some.inj h).symm) ▸ xq_ret rfl
theorem f_X7_isShed_ok {X : List Int32} {a0 : Int32} {M : xM} {p : Int32} (h : f_X7_isShed a0 M = some p) : xq X xe 142 0 [(0, .inl a0)] [] M ((some (.inl p), M) : xR) := f_X7_isShed_run h (fun q e => by rw [e])
def f_X7_areDays (a0 : Int32) (M : xM) : Option (Int32) := (f_X7_in a0.toInt64 (1 : Int64) (99 : Int64) M).bind (fun q1 => some ((vp_nar .boolean q1)))
theorem f_X7_areDays_run {X : List Int32} {a0 : Int32} {M : xM} {p : Int32} {r : xR} (h : f_X7_areDays a0 M = some p) (hr : ∀ q, p = q → ((some (.inl q), M) : xR) = r) : xq X xe 143 0 [(0, .inl a0)] [] M r := by
  unfold f_X7_areDays at h
  refine xq_blk 4 (pc' := 6) (ls' := [(0, .inl a0)]) (st' := [.inr (.inl (99 : Int64)), .inr (.inl (1 : Int64)), .inr (.inl a0.toInt64)]) (M' := M) rfl ?_
  refine xq_bind h (fun q1 e2 h => ?_)
  refine xq_call (j := 119) (as := [.inr (.inl a0.toInt64), .inr (.inl (1 : Int64)), .inr (.inl (99 : Int64))]) (pc' := 9) (ls' := [(0, .inl a0)]) (st' := []) rfl rfl (f_X7_in_ok e2) ?_
  exact (hr _ (Option.some.inj h).symm) ▸ xq_ret rfl
theorem f_X7_areDays_ok {X : List Int32} {a0 : Int32} {M : xM} {p : Int32} (h : f_X7_areDays a0 M = some p) : xq X xe 143 0 [(0, .inl a0)] [] M ((some (.inl p), M) : xR) := f_X7_areDays_run h (fun q e => by rw [e])
def f_X7_hasPermit (a1 : Int32) (M : xM) : Option (Int32) := (f_X7_personAt (0 : Int32) a1 M).bind (fun q1 => if xp_in q1 3540 = true then (if (M.1 6 1 q1.toNatClampNeg) = (-6 : Int32) then (some ((vp_nar .boolean (0 : Int32)))) else (some ((vp_nar .boolean (1 : Int32))))) else none)
theorem f_X7_hasPermit_run {X : List Int32} {a1 : Int32} {M : xM} {p : Int32} {r : xR} (h : f_X7_hasPermit a1 M = some p) (hr : ∀ q, p = q → ((some (.inl q), M) : xR) = r) : xq X xe 144 0 [(0, .inr (.inr (14, 6, 0))), (1, .inl a1)] [] M r := by
  unfold f_X7_hasPermit at h
  refine xq_blk 4 (pc' := 6) (ls' := [(0, .inr (.inr (14, 6, 0))), (1, .inl a1)]) (st' := [.inl a1, .inl (0 : Int32), .inr (.inr (15, 6, 1))]) (M' := M) rfl ?_
  refine xq_bind h (fun q1 e2 h => ?_)
  refine xq_call (j := 117) (as := [.inl (0 : Int32), .inl a1]) (pc' := 9) (ls' := [(0, .inr (.inr (14, 6, 0))), (1, .inl a1)]) (st' := [.inr (.inr (15, 6, 1))]) rfl rfl (f_X7_personAt_ok e2) ?_
  refine xq_guard h (fun g3 h => ?_)
  refine xq_prim (st' := [.inl (M.1 6 1 q1.toNatClampNeg)]) (M' := M) rfl rfl rfl (xg_ald0 rfl g3) ?_
  refine xq_blk 1 (pc' := 12) (ls' := [(0, .inr (.inr (14, 6, 0))), (1, .inl a1)]) (st' := [.inl (-6 : Int32), .inl (M.1 6 1 q1.toNatClampNeg)]) (M' := M) rfl ?_
  refine xq_ite h (fun c4 h => ?_) (fun c4 h => ?_)
  · refine xq_core (pc' := 19) (ls' := [(0, .inr (.inr (14, 6, 0))), (1, .inl a1)]) (st' := []) rfl (if_pos c4) ?_
    refine xq_blk 1 (pc' := 20) (ls' := [(0, .inr (.inr (14, 6, 0))), (1, .inl a1)]) (st' := [.inl (0 : Int32)]) (M' := M) rfl ?_
    exact (hr _ (Option.some.inj h).symm) ▸ xq_ret rfl
  · refine xq_core (pc' := 15) (ls' := [(0, .inr (.inr (14, 6, 0))), (1, .inl a1)]) (st' := []) rfl (if_neg c4) ?_
    refine xq_blk 2 (pc' := 20) (ls' := [(0, .inr (.inr (14, 6, 0))), (1, .inl a1)]) (st' := [.inl (1 : Int32)]) (M' := M) rfl ?_
    exact (hr _ (Option.some.inj h).symm) ▸ xq_ret rfl
theorem f_X7_hasPermit_ok {X : List Int32} {a1 : Int32} {M : xM} {p : Int32} (h : f_X7_hasPermit a1 M = some p) : xq X xe 144 0 [(0, .inr (.inr (14, 6, 0))), (1, .inl a1)] [] M ((some (.inl p), M) : xR) := f_X7_hasPermit_run h (fun q e => by rw [e])
def f_X7_askError (a1 : Int32) (a2 : Int32) (a3 : Int32) (M : xM) : Option (Int32) := (f_X7_isPerson a1 M).bind (fun q1 => if q1 = (0 : Int32) then (some ((-1 : Int32))) else ((f_X7_isShed a2 M).bind (fun q3 => if q3 = (0 : Int32) then (some ((-1 : Int32))) else ((f_X7_areDays a3 M).bind (fun q5 => if q5 = (0 : Int32) then (some ((-2 : Int32))) else ((f_X7_hasPermit a1 M).bind (fun q7 => if q7 = (0 : Int32) then ((f_X7_placeOf (0 : Int32) a2 a1 M).bind (fun q9 => if q9 = (-6 : Int32) then (some ((0 : Int32))) else (some ((-5 : Int32))))) else (some ((-5 : Int32))))))))))
theorem f_X7_askError_run {X : List Int32} {a1 : Int32} {a2 : Int32} {a3 : Int32} {M : xM} {p : Int32} {r : xR} (h : f_X7_askError a1 a2 a3 M = some p) (hr : ∀ q, p = q → ((some (.inl q), M) : xR) = r) : xq X xe 145 0 [(0, .inr (.inr (14, 6, 0))), (1, .inl a1), (2, .inl a2), (3, .inl a3)] [] M r := by
  unfold f_X7_askError at h
  refine xq_blk 1 (pc' := 1) (ls' := [(0, .inr (.inr (14, 6, 0))), (1, .inl a1), (2, .inl a2), (3, .inl a3)]) (st' := [.inl a1]) (M' := M) rfl ?_
  refine xq_bind h (fun q1 e2 h => ?_)
  refine xq_call (j := 141) (as := [.inl a1]) (pc' := 4) (ls' := [(0, .inr (.inr (14, 6, 0))), (1, .inl a1), (2, .inl a2), (3, .inl a3)]) (st' := []) rfl rfl (f_X7_isPerson_ok e2) ?_
  refine xq_ite h (fun c15 h => ?_) (fun c15 h => ?_)
  · refine xq_core (pc' := 14) (ls' := [(0, .inr (.inr (14, 6, 0))), (1, .inl a1), (2, .inl a2), (3, .inl a3)]) (st' := []) rfl (if_pos c15) ?_
    refine xq_blk 1 (pc' := 15) (ls' := [(0, .inr (.inr (14, 6, 0))), (1, .inl a1), (2, .inl a2), (3, .inl a3)]) (st' := [.inl (-1 : Int32)]) (M' := M) rfl ?_
    exact (hr _ (Option.some.inj h).symm) ▸ xq_ret rfl
  · refine xq_core (pc' := 7) (ls' := [(0, .inr (.inr (14, 6, 0))), (1, .inl a1), (2, .inl a2), (3, .inl a3)]) (st' := []) rfl (if_neg c15) ?_
    refine xq_blk 1 (pc' := 8) (ls' := [(0, .inr (.inr (14, 6, 0))), (1, .inl a1), (2, .inl a2), (3, .inl a3)]) (st' := [.inl a2]) (M' := M) rfl ?_
    refine xq_bind h (fun q3 e4 h => ?_)
    refine xq_call (j := 142) (as := [.inl a2]) (pc' := 11) (ls' := [(0, .inr (.inr (14, 6, 0))), (1, .inl a1), (2, .inl a2), (3, .inl a3)]) (st' := []) rfl rfl (f_X7_isShed_ok e4) ?_
    refine xq_ite h (fun c14 h => ?_) (fun c14 h => ?_)
    · refine xq_core (pc' := 14) (ls' := [(0, .inr (.inr (14, 6, 0))), (1, .inl a1), (2, .inl a2), (3, .inl a3)]) (st' := []) rfl (if_pos c14) ?_
      refine xq_blk 1 (pc' := 15) (ls' := [(0, .inr (.inr (14, 6, 0))), (1, .inl a1), (2, .inl a2), (3, .inl a3)]) (st' := [.inl (-1 : Int32)]) (M' := M) rfl ?_
      exact (hr _ (Option.some.inj h).symm) ▸ xq_ret rfl
    · refine xq_core (pc' := 16) (ls' := [(0, .inr (.inr (14, 6, 0))), (1, .inl a1), (2, .inl a2), (3, .inl a3)]) (st' := []) rfl (if_neg c14) ?_
      refine xq_blk 1 (pc' := 17) (ls' := [(0, .inr (.inr (14, 6, 0))), (1, .inl a1), (2, .inl a2), (3, .inl a3)]) (st' := [.inl a3]) (M' := M) rfl ?_
      refine xq_bind h (fun q5 e6 h => ?_)
      refine xq_call (j := 143) (as := [.inl a3]) (pc' := 20) (ls' := [(0, .inr (.inr (14, 6, 0))), (1, .inl a1), (2, .inl a2), (3, .inl a3)]) (st' := []) rfl rfl (f_X7_areDays_ok e6) ?_
      refine xq_ite h (fun c13 h => ?_) (fun c13 h => ?_)
      · refine xq_core (pc' := 23) (ls' := [(0, .inr (.inr (14, 6, 0))), (1, .inl a1), (2, .inl a2), (3, .inl a3)]) (st' := []) rfl (if_pos c13) ?_
        refine xq_blk 1 (pc' := 25) (ls' := [(0, .inr (.inr (14, 6, 0))), (1, .inl a1), (2, .inl a2), (3, .inl a3)]) (st' := [.inl (-2 : Int32)]) (M' := M) rfl ?_
        exact (hr _ (Option.some.inj h).symm) ▸ xq_ret rfl
      · refine xq_core (pc' := 26) (ls' := [(0, .inr (.inr (14, 6, 0))), (1, .inl a1), (2, .inl a2), (3, .inl a3)]) (st' := []) rfl (if_neg c13) ?_
        refine xq_blk 2 (pc' := 28) (ls' := [(0, .inr (.inr (14, 6, 0))), (1, .inl a1), (2, .inl a2), (3, .inl a3)]) (st' := [.inl a1, .inr (.inr (14, 6, 0))]) (M' := M) rfl ?_
        refine xq_bind h (fun q7 e8 h => ?_)
        refine xq_call (j := 144) (as := [.inr (.inr (14, 6, 0)), .inl a1]) (pc' := 31) (ls' := [(0, .inr (.inr (14, 6, 0))), (1, .inl a1), (2, .inl a2), (3, .inl a3)]) (st' := []) rfl rfl (f_X7_hasPermit_ok e8) ?_
        refine xq_ite h (fun c12 h => ?_) (fun c12 h => ?_)
        · refine xq_core (pc' := 34) (ls' := [(0, .inr (.inr (14, 6, 0))), (1, .inl a1), (2, .inl a2), (3, .inl a3)]) (st' := []) rfl (if_pos c12) ?_
          refine xq_blk 4 (pc' := 38) (ls' := [(0, .inr (.inr (14, 6, 0))), (1, .inl a1), (2, .inl a2), (3, .inl a3)]) (st' := [.inl a1, .inl a2, .inl (0 : Int32), .inr (.inr (14, 6, 0))]) (M' := M) rfl ?_
          refine xq_bind h (fun q9 e10 h => ?_)
          refine xq_call (j := 127) (as := [.inr (.inr (14, 6, 0)), .inl (0 : Int32), .inl a2, .inl a1]) (pc' := 41) (ls' := [(0, .inr (.inr (14, 6, 0))), (1, .inl a1), (2, .inl a2), (3, .inl a3)]) (st' := []) rfl rfl (f_X7_placeOf_ok e10) ?_
          refine xq_blk 1 (pc' := 43) (ls' := [(0, .inr (.inr (14, 6, 0))), (1, .inl a1), (2, .inl a2), (3, .inl a3)]) (st' := [.inl (-6 : Int32), .inl q9]) (M' := M) rfl ?_
          refine xq_ite h (fun c11 h => ?_) (fun c11 h => ?_)
          · refine xq_core (pc' := 51) (ls' := [(0, .inr (.inr (14, 6, 0))), (1, .inl a1), (2, .inl a2), (3, .inl a3)]) (st' := []) rfl (if_pos c11) ?_
            refine xq_blk 1 (pc' := 52) (ls' := [(0, .inr (.inr (14, 6, 0))), (1, .inl a1), (2, .inl a2), (3, .inl a3)]) (st' := [.inl (0 : Int32)]) (M' := M) rfl ?_
            exact (hr _ (Option.some.inj h).symm) ▸ xq_ret rfl
          · refine xq_core (pc' := 46) (ls' := [(0, .inr (.inr (14, 6, 0))), (1, .inl a1), (2, .inl a2), (3, .inl a3)]) (st' := []) rfl (if_neg c11) ?_
            refine xq_blk 2 (pc' := 52) (ls' := [(0, .inr (.inr (14, 6, 0))), (1, .inl a1), (2, .inl a2), (3, .inl a3)]) (st' := [.inl (-5 : Int32)]) (M' := M) rfl ?_
            exact (hr _ (Option.some.inj h).symm) ▸ xq_ret rfl
        · refine xq_core (pc' := 46) (ls' := [(0, .inr (.inr (14, 6, 0))), (1, .inl a1), (2, .inl a2), (3, .inl a3)]) (st' := []) rfl (if_neg c12) ?_
          refine xq_blk 2 (pc' := 52) (ls' := [(0, .inr (.inr (14, 6, 0))), (1, .inl a1), (2, .inl a2), (3, .inl a3)]) (st' := [.inl (-5 : Int32)]) (M' := M) rfl ?_
          exact (hr _ (Option.some.inj h).symm) ▸ xq_ret rfl
theorem f_X7_askError_ok {X : List Int32} {a1 : Int32} {a2 : Int32} {a3 : Int32} {M : xM} {p : Int32} (h : f_X7_askError a1 a2 a3 M = some p) : xq X xe 145 0 [(0, .inr (.inr (14, 6, 0))), (1, .inl a1), (2, .inl a2), (3, .inl a3)] [] M ((some (.inl p), M) : xR) := f_X7_askError_run h (fun q e => by rw [e])
def f_X7_asksFor_j40 (v1 : Int32) (v2 : Int32) (v3 : Int32) (v4 : Int32) (M : xM) : Option (Int32 × xM) := if xp_in ((v1 + (11 : Int32)) + v3) 3540 = true then ((f_X7_placeAt v1 v3 (M.1 6 1 ((v1 + (11 : Int32)) + v3).toNatClampNeg) M).bind (fun q9 => if xp_in q9 3540 = true then (if xp_in (q9 + (1 : Int32)) 3540 = true then (if xp_in (v1 + (4 : Int32)) 3540 = true then (if xp_in (q9 + (2 : Int32)) 3540 = true then (if xp_in ((v1 + (11 : Int32)) + v3) 3540 = true then (if xp_in ((v1 + (11 : Int32)) + v3) 3540 = true then (if xp_in ((v1 + (11 : Int32)) + v3) 3540 = true then (some (((xd_up (xd_up (xd_up (xd_up M 6 1 q9.toNatClampNeg v2) 6 1 (q9 + (1 : Int32)).toNatClampNeg v4) 6 1 (q9 + (2 : Int32)).toNatClampNeg ((xd_up (xd_up M 6 1 q9.toNatClampNeg v2) 6 1 (q9 + (1 : Int32)).toNatClampNeg v4).1 6 1 (v1 + (4 : Int32)).toNatClampNeg)) 6 1 ((v1 + (11 : Int32)) + v3).toNatClampNeg (((xd_up (xd_up (xd_up M 6 1 q9.toNatClampNeg v2) 6 1 (q9 + (1 : Int32)).toNatClampNeg v4) 6 1 (q9 + (2 : Int32)).toNatClampNeg ((xd_up (xd_up M 6 1 q9.toNatClampNeg v2) 6 1 (q9 + (1 : Int32)).toNatClampNeg v4).1 6 1 (v1 + (4 : Int32)).toNatClampNeg)).1 6 1 ((v1 + (11 : Int32)) + v3).toNatClampNeg) + (1 : Int32))).1 6 1 ((v1 + (11 : Int32)) + v3).toNatClampNeg, xd_up (xd_up (xd_up (xd_up M 6 1 q9.toNatClampNeg v2) 6 1 (q9 + (1 : Int32)).toNatClampNeg v4) 6 1 (q9 + (2 : Int32)).toNatClampNeg ((xd_up (xd_up M 6 1 q9.toNatClampNeg v2) 6 1 (q9 + (1 : Int32)).toNatClampNeg v4).1 6 1 (v1 + (4 : Int32)).toNatClampNeg)) 6 1 ((v1 + (11 : Int32)) + v3).toNatClampNeg (((xd_up (xd_up (xd_up M 6 1 q9.toNatClampNeg v2) 6 1 (q9 + (1 : Int32)).toNatClampNeg v4) 6 1 (q9 + (2 : Int32)).toNatClampNeg ((xd_up (xd_up M 6 1 q9.toNatClampNeg v2) 6 1 (q9 + (1 : Int32)).toNatClampNeg v4).1 6 1 (v1 + (4 : Int32)).toNatClampNeg)).1 6 1 ((v1 + (11 : Int32)) + v3).toNatClampNeg) + (1 : Int32))))) else none) else none) else none) else none) else none) else none) else none)) else none
theorem f_X7_asksFor_j40_ok {X : List Int32} {v1 : Int32} {v2 : Int32} {v3 : Int32} {v4 : Int32} {M : xM} {p : Int32 × xM} {r : xR} (h : f_X7_asksFor_j40 v1 v2 v3 v4 M = some p) (hr : ∀ q, p = q → ((some (.inl q.1), q.2) : xR) = r) : xq X xe 132 40 [(0, .inr (.inr (14, 6, 0))), (1, .inl v1), (2, .inl v2), (3, .inl v3), (4, .inl v4)] [] M r := by
  unfold f_X7_asksFor_j40 at h
  refine xq_blk 9 (pc' := 52) (ls' := [(0, .inr (.inr (14, 6, 0))), (1, .inl v1), (2, .inl v2), (3, .inl v3), (4, .inl v4)]) (st' := [.inl ((v1 + (11 : Int32)) + v3), .inr (.inr (15, 6, 1)), .inl v3, .inl v1]) (M' := M) rfl ?_
  refine xq_guard h (fun g8 h => ?_)
  refine xq_prim (st' := [.inl (M.1 6 1 ((v1 + (11 : Int32)) + v3).toNatClampNeg), .inl v3, .inl v1]) (M' := M) rfl rfl rfl (xg_ald0 rfl g8) ?_
  refine xq_bind h (fun q9 e10 h => ?_)
  refine xq_call (j := 123) (as := [.inl v1, .inl v3, .inl (M.1 6 1 ((v1 + (11 : Int32)) + v3).toNatClampNeg)]) (pc' := 56) (ls' := [(0, .inr (.inr (14, 6, 0))), (1, .inl v1), (2, .inl v2), (3, .inl v3), (4, .inl v4)]) (st' := []) rfl rfl (f_X7_placeAt_ok e10) ?_
  refine xq_blk 5 (pc' := 65) (ls' := [(5, .inl q9), (0, .inr (.inr (14, 6, 0))), (1, .inl v1), (2, .inl v2), (3, .inl v3), (4, .inl v4)]) (st' := [.inl v2, .inl q9, .inr (.inr (15, 6, 1))]) (M' := M) rfl ?_
  refine xq_guard h (fun g11 h => ?_)
  refine xq_prim (st' := []) (M' := xd_up M 6 1 q9.toNatClampNeg v2) rfl rfl rfl (xg_ast0 rfl g11) ?_
  refine xq_blk 6 (pc' := 76) (ls' := [(5, .inl q9), (0, .inr (.inr (14, 6, 0))), (1, .inl v1), (2, .inl v2), (3, .inl v3), (4, .inl v4)]) (st' := [.inl v4, .inl (q9 + (1 : Int32)), .inr (.inr (15, 6, 1))]) (M' := xd_up M 6 1 q9.toNatClampNeg v2) rfl ?_
  refine xq_guard h (fun g12 h => ?_)
  refine xq_prim (st' := []) (M' := xd_up (xd_up M 6 1 q9.toNatClampNeg v2) 6 1 (q9 + (1 : Int32)).toNatClampNeg v4) rfl rfl rfl (xg_ast0 rfl g12) ?_
  refine xq_blk 10 (pc' := 92) (ls' := [(5, .inl q9), (0, .inr (.inr (14, 6, 0))), (1, .inl v1), (2, .inl v2), (3, .inl v3), (4, .inl v4)]) (st' := [.inl (v1 + (4 : Int32)), .inr (.inr (15, 6, 1)), .inl (q9 + (2 : Int32)), .inr (.inr (15, 6, 1))]) (M' := xd_up (xd_up M 6 1 q9.toNatClampNeg v2) 6 1 (q9 + (1 : Int32)).toNatClampNeg v4) rfl ?_
  refine xq_guard h (fun g13 h => ?_)
  refine xq_prim (st' := [.inl ((xd_up (xd_up M 6 1 q9.toNatClampNeg v2) 6 1 (q9 + (1 : Int32)).toNatClampNeg v4).1 6 1 (v1 + (4 : Int32)).toNatClampNeg), .inl (q9 + (2 : Int32)), .inr (.inr (15, 6, 1))]) (M' := xd_up (xd_up M 6 1 q9.toNatClampNeg v2) 6 1 (q9 + (1 : Int32)).toNatClampNeg v4) rfl rfl rfl (xg_ald0 rfl g13) ?_
  refine xq_guard h (fun g14 h => ?_)
  refine xq_prim (st' := []) (M' := xd_up (xd_up (xd_up M 6 1 q9.toNatClampNeg v2) 6 1 (q9 + (1 : Int32)).toNatClampNeg v4) 6 1 (q9 + (2 : Int32)).toNatClampNeg ((xd_up (xd_up M 6 1 q9.toNatClampNeg v2) 6 1 (q9 + (1 : Int32)).toNatClampNeg v4).1 6 1 (v1 + (4 : Int32)).toNatClampNeg)) rfl rfl rfl (xg_ast0 rfl g14) ?_
  refine xq_blk 8 (pc' := 105) (ls' := [(5, .inl q9), (0, .inr (.inr (14, 6, 0))), (1, .inl v1), (2, .inl v2), (3, .inl v3), (4, .inl v4)]) (st' := [.inl ((v1 + (11 : Int32)) + v3), .inr (.inr (15, 6, 1)), .inl ((v1 + (11 : Int32)) + v3), .inr (.inr (15, 6, 1))]) (M' := xd_up (xd_up (xd_up M 6 1 q9.toNatClampNeg v2) 6 1 (q9 + (1 : Int32)).toNatClampNeg v4) 6 1 (q9 + (2 : Int32)).toNatClampNeg ((xd_up (xd_up M 6 1 q9.toNatClampNeg v2) 6 1 (q9 + (1 : Int32)).toNatClampNeg v4).1 6 1 (v1 + (4 : Int32)).toNatClampNeg)) rfl ?_
  refine xq_guard h (fun g15 h => ?_)
  refine xq_prim (st' := [.inl ((xd_up (xd_up (xd_up M 6 1 q9.toNatClampNeg v2) 6 1 (q9 + (1 : Int32)).toNatClampNeg v4) 6 1 (q9 + (2 : Int32)).toNatClampNeg ((xd_up (xd_up M 6 1 q9.toNatClampNeg v2) 6 1 (q9 + (1 : Int32)).toNatClampNeg v4).1 6 1 (v1 + (4 : Int32)).toNatClampNeg)).1 6 1 ((v1 + (11 : Int32)) + v3).toNatClampNeg), .inl ((v1 + (11 : Int32)) + v3), .inr (.inr (15, 6, 1))]) (M' := xd_up (xd_up (xd_up M 6 1 q9.toNatClampNeg v2) 6 1 (q9 + (1 : Int32)).toNatClampNeg v4) 6 1 (q9 + (2 : Int32)).toNatClampNeg ((xd_up (xd_up M 6 1 q9.toNatClampNeg v2) 6 1 (q9 + (1 : Int32)).toNatClampNeg v4).1 6 1 (v1 + (4 : Int32)).toNatClampNeg)) rfl rfl rfl (xg_ald0 rfl g15) ?_
  refine xq_blk 2 (pc' := 108) (ls' := [(5, .inl q9), (0, .inr (.inr (14, 6, 0))), (1, .inl v1), (2, .inl v2), (3, .inl v3), (4, .inl v4)]) (st' := [.inl (((xd_up (xd_up (xd_up M 6 1 q9.toNatClampNeg v2) 6 1 (q9 + (1 : Int32)).toNatClampNeg v4) 6 1 (q9 + (2 : Int32)).toNatClampNeg ((xd_up (xd_up M 6 1 q9.toNatClampNeg v2) 6 1 (q9 + (1 : Int32)).toNatClampNeg v4).1 6 1 (v1 + (4 : Int32)).toNatClampNeg)).1 6 1 ((v1 + (11 : Int32)) + v3).toNatClampNeg) + (1 : Int32)), .inl ((v1 + (11 : Int32)) + v3), .inr (.inr (15, 6, 1))]) (M' := xd_up (xd_up (xd_up M 6 1 q9.toNatClampNeg v2) 6 1 (q9 + (1 : Int32)).toNatClampNeg v4) 6 1 (q9 + (2 : Int32)).toNatClampNeg ((xd_up (xd_up M 6 1 q9.toNatClampNeg v2) 6 1 (q9 + (1 : Int32)).toNatClampNeg v4).1 6 1 (v1 + (4 : Int32)).toNatClampNeg)) rfl ?_
  refine xq_guard h (fun g16 h => ?_)
  refine xq_prim (st' := []) (M' := xd_up (xd_up (xd_up (xd_up M 6 1 q9.toNatClampNeg v2) 6 1 (q9 + (1 : Int32)).toNatClampNeg v4) 6 1 (q9 + (2 : Int32)).toNatClampNeg ((xd_up (xd_up M 6 1 q9.toNatClampNeg v2) 6 1 (q9 + (1 : Int32)).toNatClampNeg v4).1 6 1 (v1 + (4 : Int32)).toNatClampNeg)) 6 1 ((v1 + (11 : Int32)) + v3).toNatClampNeg (((xd_up (xd_up (xd_up M 6 1 q9.toNatClampNeg v2) 6 1 (q9 + (1 : Int32)).toNatClampNeg v4) 6 1 (q9 + (2 : Int32)).toNatClampNeg ((xd_up (xd_up M 6 1 q9.toNatClampNeg v2) 6 1 (q9 + (1 : Int32)).toNatClampNeg v4).1 6 1 (v1 + (4 : Int32)).toNatClampNeg)).1 6 1 ((v1 + (11 : Int32)) + v3).toNatClampNeg) + (1 : Int32))) rfl rfl rfl (xg_ast0 rfl g16) ?_
  refine xq_blk 7 (pc' := 119) (ls' := [(5, .inl q9), (0, .inr (.inr (14, 6, 0))), (1, .inl v1), (2, .inl v2), (3, .inl v3), (4, .inl v4)]) (st' := [.inl ((v1 + (11 : Int32)) + v3), .inr (.inr (15, 6, 1))]) (M' := xd_up (xd_up (xd_up (xd_up M 6 1 q9.toNatClampNeg v2) 6 1 (q9 + (1 : Int32)).toNatClampNeg v4) 6 1 (q9 + (2 : Int32)).toNatClampNeg ((xd_up (xd_up M 6 1 q9.toNatClampNeg v2) 6 1 (q9 + (1 : Int32)).toNatClampNeg v4).1 6 1 (v1 + (4 : Int32)).toNatClampNeg)) 6 1 ((v1 + (11 : Int32)) + v3).toNatClampNeg (((xd_up (xd_up (xd_up M 6 1 q9.toNatClampNeg v2) 6 1 (q9 + (1 : Int32)).toNatClampNeg v4) 6 1 (q9 + (2 : Int32)).toNatClampNeg ((xd_up (xd_up M 6 1 q9.toNatClampNeg v2) 6 1 (q9 + (1 : Int32)).toNatClampNeg v4).1 6 1 (v1 + (4 : Int32)).toNatClampNeg)).1 6 1 ((v1 + (11 : Int32)) + v3).toNatClampNeg) + (1 : Int32))) rfl ?_
  refine xq_guard h (fun g17 h => ?_)
  refine xq_prim (st' := [.inl ((xd_up (xd_up (xd_up (xd_up M 6 1 q9.toNatClampNeg v2) 6 1 (q9 + (1 : Int32)).toNatClampNeg v4) 6 1 (q9 + (2 : Int32)).toNatClampNeg ((xd_up (xd_up M 6 1 q9.toNatClampNeg v2) 6 1 (q9 + (1 : Int32)).toNatClampNeg v4).1 6 1 (v1 + (4 : Int32)).toNatClampNeg)) 6 1 ((v1 + (11 : Int32)) + v3).toNatClampNeg (((xd_up (xd_up (xd_up M 6 1 q9.toNatClampNeg v2) 6 1 (q9 + (1 : Int32)).toNatClampNeg v4) 6 1 (q9 + (2 : Int32)).toNatClampNeg ((xd_up (xd_up M 6 1 q9.toNatClampNeg v2) 6 1 (q9 + (1 : Int32)).toNatClampNeg v4).1 6 1 (v1 + (4 : Int32)).toNatClampNeg)).1 6 1 ((v1 + (11 : Int32)) + v3).toNatClampNeg) + (1 : Int32))).1 6 1 ((v1 + (11 : Int32)) + v3).toNatClampNeg)]) (M' := xd_up (xd_up (xd_up (xd_up M 6 1 q9.toNatClampNeg v2) 6 1 (q9 + (1 : Int32)).toNatClampNeg v4) 6 1 (q9 + (2 : Int32)).toNatClampNeg ((xd_up (xd_up M 6 1 q9.toNatClampNeg v2) 6 1 (q9 + (1 : Int32)).toNatClampNeg v4).1 6 1 (v1 + (4 : Int32)).toNatClampNeg)) 6 1 ((v1 + (11 : Int32)) + v3).toNatClampNeg (((xd_up (xd_up (xd_up M 6 1 q9.toNatClampNeg v2) 6 1 (q9 + (1 : Int32)).toNatClampNeg v4) 6 1 (q9 + (2 : Int32)).toNatClampNeg ((xd_up (xd_up M 6 1 q9.toNatClampNeg v2) 6 1 (q9 + (1 : Int32)).toNatClampNeg v4).1 6 1 (v1 + (4 : Int32)).toNatClampNeg)).1 6 1 ((v1 + (11 : Int32)) + v3).toNatClampNeg) + (1 : Int32))) rfl rfl rfl (xg_ald0 rfl g17) ?_
  exact (hr _ (Option.some.inj h).symm) ▸ xq_ret rfl
def f_X7_asksFor (a1 : Int32) (a2 : Int32) (a3 : Int32) (a4 : Int32) (M : xM) : Option (Int32 × xM) := (f_X7_given a1 a3 M).bind (fun q1 => (f_X7_permits a1 a3 M).bind (fun q3 => if q1 < q3 then (if xp_in ((a1 + (11 : Int32)) + a3) 3540 = true then (if (M.1 6 1 ((a1 + (11 : Int32)) + a3).toNatClampNeg) = (0 : Int32) then ((f_X7_getsPermit a1 a2 a3 a4 M).bind (fun q6 => some (((0 : Int32), q6)))) else (f_X7_asksFor_j40 a1 a2 a3 a4 M)) else none) else (f_X7_asksFor_j40 a1 a2 a3 a4 M)))
theorem f_X7_asksFor_run {X : List Int32} {a1 : Int32} {a2 : Int32} {a3 : Int32} {a4 : Int32} {M : xM} {p : Int32 × xM} {r : xR} (h : f_X7_asksFor a1 a2 a3 a4 M = some p) (hr : ∀ q, p = q → ((some (.inl q.1), q.2) : xR) = r) : xq X xe 132 0 [(0, .inr (.inr (14, 6, 0))), (1, .inl a1), (2, .inl a2), (3, .inl a3), (4, .inl a4)] [] M r := by
  unfold f_X7_asksFor at h
  refine xq_blk 3 (pc' := 3) (ls' := [(0, .inr (.inr (14, 6, 0))), (1, .inl a1), (2, .inl a2), (3, .inl a3), (4, .inl a4)]) (st' := [.inl a3, .inl a1, .inr (.inr (14, 6, 0))]) (M' := M) rfl ?_
  refine xq_bind h (fun q1 e2 h => ?_)
  refine xq_call (j := 126) (as := [.inr (.inr (14, 6, 0)), .inl a1, .inl a3]) (pc' := 6) (ls' := [(0, .inr (.inr (14, 6, 0))), (1, .inl a1), (2, .inl a2), (3, .inl a3), (4, .inl a4)]) (st' := []) rfl rfl (f_X7_given_ok e2) ?_
  refine xq_blk 3 (pc' := 9) (ls' := [(0, .inr (.inr (14, 6, 0))), (1, .inl a1), (2, .inl a2), (3, .inl a3), (4, .inl a4)]) (st' := [.inl a3, .inl a1, .inr (.inr (14, 6, 0)), .inl q1]) (M' := M) rfl ?_
  refine xq_bind h (fun q3 e4 h => ?_)
  refine xq_call (j := 125) (as := [.inr (.inr (14, 6, 0)), .inl a1, .inl a3]) (pc' := 12) (ls' := [(0, .inr (.inr (14, 6, 0))), (1, .inl a1), (2, .inl a2), (3, .inl a3), (4, .inl a4)]) (st' := [.inl q1]) rfl rfl (f_X7_permits_ok e4) ?_
  refine xq_ite h (fun c19 h => ?_) (fun c19 h => ?_)
  · refine xq_core (pc' := 15) (ls' := [(0, .inr (.inr (14, 6, 0))), (1, .inl a1), (2, .inl a2), (3, .inl a3), (4, .inl a4)]) (st' := []) rfl (if_pos c19) ?_
    refine xq_blk 7 (pc' := 25) (ls' := [(0, .inr (.inr (14, 6, 0))), (1, .inl a1), (2, .inl a2), (3, .inl a3), (4, .inl a4)]) (st' := [.inl ((a1 + (11 : Int32)) + a3), .inr (.inr (15, 6, 1))]) (M' := M) rfl ?_
    refine xq_guard h (fun g5 h => ?_)
    refine xq_prim (st' := [.inl (M.1 6 1 ((a1 + (11 : Int32)) + a3).toNatClampNeg)]) (M' := M) rfl rfl rfl (xg_ald0 rfl g5) ?_
    refine xq_ite h (fun c18 h => ?_) (fun c18 h => ?_)
    · refine xq_core (pc' := 29) (ls' := [(0, .inr (.inr (14, 6, 0))), (1, .inl a1), (2, .inl a2), (3, .inl a3), (4, .inl a4)]) (st' := []) rfl (if_pos c18) ?_
      refine xq_blk 5 (pc' := 35) (ls' := [(0, .inr (.inr (14, 6, 0))), (1, .inl a1), (2, .inl a2), (3, .inl a3), (4, .inl a4)]) (st' := [.inl a4, .inl a3, .inl a2, .inl a1, .inr (.inr (14, 6, 0))]) (M' := M) rfl ?_
      refine xq_bind h (fun q6 e7 h => ?_)
      refine xq_call (j := 130) (as := [.inr (.inr (14, 6, 0)), .inl a1, .inl a2, .inl a3, .inl a4]) (pc' := 38) (ls' := [(0, .inr (.inr (14, 6, 0))), (1, .inl a1), (2, .inl a2), (3, .inl a3), (4, .inl a4)]) (st' := []) rfl rfl (f_X7_getsPermit_ok e7) ?_
      refine xq_blk 1 (pc' := 39) (ls' := [(0, .inr (.inr (14, 6, 0))), (1, .inl a1), (2, .inl a2), (3, .inl a3), (4, .inl a4)]) (st' := [.inl (0 : Int32)]) (M' := q6) rfl ?_
      exact (hr _ (Option.some.inj h).symm) ▸ xq_ret rfl
    · refine xq_core (pc' := 40) (ls' := [(0, .inr (.inr (14, 6, 0))), (1, .inl a1), (2, .inl a2), (3, .inl a3), (4, .inl a4)]) (st' := []) rfl (if_neg c18) ?_
      exact xq_sub (a := [(0, .inr (.inr (14, 6, 0))), (1, .inl a1), (2, .inl a2), (3, .inl a3), (4, .inl a4)]) ⟨rfl, rfl, rfl, rfl, rfl, trivial⟩ rfl (f_X7_asksFor_j40_ok h hr)
  · refine xq_core (pc' := 40) (ls' := [(0, .inr (.inr (14, 6, 0))), (1, .inl a1), (2, .inl a2), (3, .inl a3), (4, .inl a4)]) (st' := []) rfl (if_neg c19) ?_
    exact xq_sub (a := [(0, .inr (.inr (14, 6, 0))), (1, .inl a1), (2, .inl a2), (3, .inl a3), (4, .inl a4)]) ⟨rfl, rfl, rfl, rfl, rfl, trivial⟩ rfl (f_X7_asksFor_j40_ok h hr)
theorem f_X7_asksFor_ok {X : List Int32} {a1 : Int32} {a2 : Int32} {a3 : Int32} {a4 : Int32} {M : xM} {p : Int32 × xM} (h : f_X7_asksFor a1 a2 a3 a4 M = some p) : xq X xe 132 0 [(0, .inr (.inr (14, 6, 0))), (1, .inl a1), (2, .inl a2), (3, .inl a3), (4, .inl a4)] [] M ((some (.inl p.1), p.2) : xR) := f_X7_asksFor_run h (fun q e => by rw [e])
def f_X7_ask (a1 : Int32) (a2 : Int32) (a3 : Int32) (M : xM) : Option (Int32 × xM) := (f_X7_askError a1 a2 a3 M).bind (fun q1 => if q1 = (0 : Int32) then ((f_X7_changes M).bind (fun q3 => (f_X7_asksFor (0 : Int32) a1 a2 a3 q3).bind (fun q5 => some ((q5.1, q5.2))))) else (some ((q1, M))))
theorem f_X7_ask_run {X : List Int32} {a1 : Int32} {a2 : Int32} {a3 : Int32} {M : xM} {p : Int32 × xM} {r : xR} (h : f_X7_ask a1 a2 a3 M = some p) (hr : ∀ q, p = q → ((some (.inl q.1), q.2) : xR) = r) : xq X xe 156 0 [(0, .inr (.inr (14, 6, 0))), (1, .inl a1), (2, .inl a2), (3, .inl a3)] [] M r := by
  unfold f_X7_ask at h
  refine xq_blk 4 (pc' := 4) (ls' := [(0, .inr (.inr (14, 6, 0))), (1, .inl a1), (2, .inl a2), (3, .inl a3)]) (st' := [.inl a3, .inl a2, .inl a1, .inr (.inr (14, 6, 0))]) (M' := M) rfl ?_
  refine xq_bind h (fun q1 e2 h => ?_)
  refine xq_call (j := 145) (as := [.inr (.inr (14, 6, 0)), .inl a1, .inl a2, .inl a3]) (pc' := 7) (ls' := [(0, .inr (.inr (14, 6, 0))), (1, .inl a1), (2, .inl a2), (3, .inl a3)]) (st' := []) rfl rfl (f_X7_askError_ok e2) ?_
  refine xq_blk 2 (pc' := 11) (ls' := [(4, .inl q1), (0, .inr (.inr (14, 6, 0))), (1, .inl a1), (2, .inl a2), (3, .inl a3)]) (st' := [.inl q1]) (M' := M) rfl ?_
  refine xq_ite h (fun c7 h => ?_) (fun c7 h => ?_)
  · refine xq_core (pc' := 17) (ls' := [(4, .inl q1), (0, .inr (.inr (14, 6, 0))), (1, .inl a1), (2, .inl a2), (3, .inl a3)]) (st' := []) rfl (if_pos c7) ?_
    refine xq_blk 1 (pc' := 18) (ls' := [(4, .inl q1), (0, .inr (.inr (14, 6, 0))), (1, .inl a1), (2, .inl a2), (3, .inl a3)]) (st' := [.inr (.inr (14, 6, 0))]) (M' := M) rfl ?_
    refine xq_bind h (fun q3 e4 h => ?_)
    refine xq_call (j := 122) (as := [.inr (.inr (14, 6, 0))]) (pc' := 21) (ls' := [(4, .inl q1), (0, .inr (.inr (14, 6, 0))), (1, .inl a1), (2, .inl a2), (3, .inl a3)]) (st' := []) rfl rfl (f_X7_changes_ok e4) ?_
    refine xq_blk 5 (pc' := 26) (ls' := [(4, .inl q1), (0, .inr (.inr (14, 6, 0))), (1, .inl a1), (2, .inl a2), (3, .inl a3)]) (st' := [.inl a3, .inl a2, .inl a1, .inl (0 : Int32), .inr (.inr (14, 6, 0))]) (M' := q3) rfl ?_
    refine xq_bind h (fun q5 e6 h => ?_)
    refine xq_call (j := 132) (as := [.inr (.inr (14, 6, 0)), .inl (0 : Int32), .inl a1, .inl a2, .inl a3]) (pc' := 29) (ls' := [(4, .inl q1), (0, .inr (.inr (14, 6, 0))), (1, .inl a1), (2, .inl a2), (3, .inl a3)]) (st' := []) rfl rfl (f_X7_asksFor_ok e6) ?_
    exact (hr _ (Option.some.inj h).symm) ▸ xq_ret rfl
  · refine xq_core (pc' := 14) (ls' := [(4, .inl q1), (0, .inr (.inr (14, 6, 0))), (1, .inl a1), (2, .inl a2), (3, .inl a3)]) (st' := []) rfl (if_neg c7) ?_
    refine xq_blk 1 (pc' := 16) (ls' := [(4, .inl q1), (0, .inr (.inr (14, 6, 0))), (1, .inl a1), (2, .inl a2), (3, .inl a3)]) (st' := [.inl q1]) (M' := M) rfl ?_
    exact (hr _ (Option.some.inj h).symm) ▸ xq_ret rfl
theorem f_X7_ask_ok {X : List Int32} {a1 : Int32} {a2 : Int32} {a3 : Int32} {M : xM} {p : Int32 × xM} (h : f_X7_ask a1 a2 a3 M = some p) : xq X xe 156 0 [(0, .inr (.inr (14, 6, 0))), (1, .inl a1), (2, .inl a2), (3, .inl a3)] [] M ((some (.inl p.1), p.2) : xR) := f_X7_ask_run h (fun q e => by rw [e])
def f_X7_waitsFor_l5 (k5v1 : Int32) (k5v2 : Int32) (M : xM) (s5 : Int32 × Int32) : Option ((Int32 × Int32) ⊕ (Int32)) := if s5.2 < (3 : Int32) then ((f_X7_placeOf k5v1 s5.2 k5v2 M).bind (fun q1 => if q1 = (-6 : Int32) then (some (.inl (s5.1 ||| (0 : Int32), s5.2 + (1 : Int32)))) else (some (.inl (s5.1 ||| ((1 : Int32) <<< (s5.2 &&& (31 : Int32))), s5.2 + (1 : Int32)))))) else (Option.map Sum.inr (some (s5.1)))
theorem f_X7_waitsFor_l5_ok {X : List Int32} {k5v1 : Int32} {k5v2 : Int32} {M : xM} {s5 : Int32 × Int32} {p : (Int32 × Int32) ⊕ (Int32)} {r : xR} (h : f_X7_waitsFor_l5 k5v1 k5v2 M s5 = some p) (h0 : ∀ s', p = .inl s' → xq X xe 128 5 [(0, .inr (.inr (14, 6, 0))), (1, .inl k5v1), (2, .inl k5v2), (3, .inl s'.1), (4, .inl s'.2)] [] M r) (hr : ∀ q, p = .inr (q) → ((some (.inl q), M) : xR) = r) : xq X xe 128 5 [(0, .inr (.inr (14, 6, 0))), (1, .inl k5v1), (2, .inl k5v2), (3, .inl s5.1), (4, .inl s5.2)] [] M r := by
  unfold f_X7_waitsFor_l5 at h
  refine xq_blk 2 (pc' := 8) (ls' := [(0, .inr (.inr (14, 6, 0))), (1, .inl k5v1), (2, .inl k5v2), (3, .inl s5.1), (4, .inl s5.2)]) (st' := [.inl (3 : Int32), .inl s5.2]) (M' := M) rfl ?_
  refine xq_ite h (fun c4 h => ?_) (fun c4 h => ?_)
  · refine xq_core (pc' := 11) (ls' := [(0, .inr (.inr (14, 6, 0))), (1, .inl k5v1), (2, .inl k5v2), (3, .inl s5.1), (4, .inl s5.2)]) (st' := []) rfl (if_pos c4) ?_
    refine xq_blk 5 (pc' := 17) (ls' := [(0, .inr (.inr (14, 6, 0))), (1, .inl k5v1), (2, .inl k5v2), (3, .inl s5.1), (4, .inl s5.2)]) (st' := [.inl k5v2, .inl s5.2, .inl k5v1, .inr (.inr (14, 6, 0)), .inl s5.1]) (M' := M) rfl ?_
    refine xq_bind h (fun q1 e2 h => ?_)
    refine xq_call (j := 127) (as := [.inr (.inr (14, 6, 0)), .inl k5v1, .inl s5.2, .inl k5v2]) (pc' := 20) (ls' := [(0, .inr (.inr (14, 6, 0))), (1, .inl k5v1), (2, .inl k5v2), (3, .inl s5.1), (4, .inl s5.2)]) (st' := [.inl s5.1]) rfl rfl (f_X7_placeOf_ok e2) ?_
    refine xq_blk 1 (pc' := 22) (ls' := [(0, .inr (.inr (14, 6, 0))), (1, .inl k5v1), (2, .inl k5v2), (3, .inl s5.1), (4, .inl s5.2)]) (st' := [.inl (-6 : Int32), .inl q1, .inl s5.1]) (M' := M) rfl ?_
    refine xq_ite h (fun c3 h => ?_) (fun c3 h => ?_)
    · refine xq_core (pc' := 25) (ls' := [(0, .inr (.inr (14, 6, 0))), (1, .inl k5v1), (2, .inl k5v2), (3, .inl s5.1), (4, .inl s5.2)]) (st' := [.inl s5.1]) rfl (if_pos c3) ?_
      refine xq_blk 6 (pc' := 5) (ls' := [(4, .inl (s5.2 + (1 : Int32))), (3, .inl (s5.1 ||| (0 : Int32))), (0, .inr (.inr (14, 6, 0))), (1, .inl k5v1), (2, .inl k5v2)]) (st' := []) (M' := M) rfl ?_
      exact xq_sub (a := [(0, .inr (.inr (14, 6, 0))), (1, .inl k5v1), (2, .inl k5v2), (3, .inl ((s5.1 ||| (0 : Int32), s5.2 + (1 : Int32)).1)), (4, .inl ((s5.1 ||| (0 : Int32), s5.2 + (1 : Int32)).2))]) ⟨rfl, rfl, rfl, rfl, rfl, trivial⟩ rfl (h0 (s5.1 ||| (0 : Int32), s5.2 + (1 : Int32)) (Option.some.inj h).symm)
    · refine xq_core (pc' := 29) (ls' := [(0, .inr (.inr (14, 6, 0))), (1, .inl k5v1), (2, .inl k5v2), (3, .inl s5.1), (4, .inl s5.2)]) (st' := [.inl s5.1]) rfl (if_neg c3) ?_
      refine xq_blk 7 (pc' := 5) (ls' := [(4, .inl (s5.2 + (1 : Int32))), (3, .inl (s5.1 ||| ((1 : Int32) <<< (s5.2 &&& (31 : Int32))))), (0, .inr (.inr (14, 6, 0))), (1, .inl k5v1), (2, .inl k5v2)]) (st' := []) (M' := M) rfl ?_
      exact xq_sub (a := [(0, .inr (.inr (14, 6, 0))), (1, .inl k5v1), (2, .inl k5v2), (3, .inl ((s5.1 ||| ((1 : Int32) <<< (s5.2 &&& (31 : Int32))), s5.2 + (1 : Int32)).1)), (4, .inl ((s5.1 ||| ((1 : Int32) <<< (s5.2 &&& (31 : Int32))), s5.2 + (1 : Int32)).2))]) ⟨rfl, rfl, rfl, rfl, rfl, trivial⟩ rfl (h0 (s5.1 ||| ((1 : Int32) <<< (s5.2 &&& (31 : Int32))), s5.2 + (1 : Int32)) (Option.some.inj h).symm)
  · refine xq_core (pc' := 41) (ls' := [(0, .inr (.inr (14, 6, 0))), (1, .inl k5v1), (2, .inl k5v2), (3, .inl s5.1), (4, .inl s5.2)]) (st' := []) rfl (if_neg c4) ?_
    refine xq_map h (fun p h e => ?_)
    replace hr := fun q e' => hr q (e.symm.trans (congrArg Sum.inr e'))
    clear e
    refine xq_blk 1 (pc' := 42) (ls' := [(0, .inr (.inr (14, 6, 0))), (1, .inl k5v1), (2, .inl k5v2), (3, .inl s5.1), (4, .inl s5.2)]) (st' := [.inl s5.1]) (M' := M) rfl ?_
    exact (hr _ (Option.some.inj h).symm) ▸ xq_ret rfl
def f_X7_waitsFor (a1 : Int32) (a2 : Int32) (M : xM) : Option (Int32) := xlp (f_X7_waitsFor_l5 a1 a2 M) 4000 ((0 : Int32), (0 : Int32))
theorem f_X7_waitsFor_run {X : List Int32} {a1 : Int32} {a2 : Int32} {M : xM} {p : Int32} {r : xR} (h : f_X7_waitsFor a1 a2 M = some p) (hr : ∀ q, p = q → ((some (.inl q), M) : xR) = r) : xq X xe 128 0 [(0, .inr (.inr (14, 6, 0))), (1, .inl a1), (2, .inl a2)] [] M r := by
  unfold f_X7_waitsFor at h
  refine xq_blk 4 (pc' := 5) (ls' := [(4, .inl (0 : Int32)), (3, .inl (0 : Int32)), (0, .inr (.inr (14, 6, 0))), (1, .inl a1), (2, .inl a2)]) (st' := []) (M' := M) rfl ?_
  refine xq_sub (a := [(0, .inr (.inr (14, 6, 0))), (1, .inl a1), (2, .inl a2), (3, .inl (0 : Int32)), (4, .inl (0 : Int32))]) ⟨rfl, rfl, rfl, rfl, rfl, trivial⟩ rfl ?_
  exact xlp_ok (P := fun s5 => xq X xe 128 5 [(0, .inr (.inr (14, 6, 0))), (1, .inl a1), (2, .inl a2), (3, .inl s5.1), (4, .inl s5.2)] [] M r) (fun s p' hb g0 g1 => f_X7_waitsFor_l5_ok hb g0 (fun q e => hr q (g1 _ e).symm)) 4000 _ h
theorem f_X7_waitsFor_ok {X : List Int32} {a1 : Int32} {a2 : Int32} {M : xM} {p : Int32} (h : f_X7_waitsFor a1 a2 M = some p) : xq X xe 128 0 [(0, .inr (.inr (14, 6, 0))), (1, .inl a1), (2, .inl a2)] [] M ((some (.inl p), M) : xR) := f_X7_waitsFor_run h (fun q e => by rw [e])
def f_X7_endsPermit (a1 : Int32) (a2 : Int32) (M : xM) : Option (xM) := (f_X7_personAt a1 a2 M).bind (fun q1 => if xp_in q1 3540 = true then ((f_X7_personAt a1 a2 (xd_up M 6 1 q1.toNatClampNeg (-6 : Int32))).bind (fun q4 => if xp_in (q4 + (1 : Int32)) 3540 = true then (some (xd_up (xd_up M 6 1 q1.toNatClampNeg (-6 : Int32)) 6 1 (q4 + (1 : Int32)).toNatClampNeg (-6 : Int32))) else none)) else none)
theorem f_X7_endsPermit_run {X : List Int32} {a1 : Int32} {a2 : Int32} {M : xM} {p : xM} {r : xR} (h : f_X7_endsPermit a1 a2 M = some p) (hr : ∀ q, p = q → ((none, q) : xR) = r) : xq X xe 133 0 [(0, .inr (.inr (14, 6, 0))), (1, .inl a1), (2, .inl a2)] [] M r := by
  unfold f_X7_endsPermit at h
  refine xq_blk 4 (pc' := 6) (ls' := [(0, .inr (.inr (14, 6, 0))), (1, .inl a1), (2, .inl a2)]) (st' := [.inl a2, .inl a1, .inr (.inr (15, 6, 1))]) (M' := M) rfl ?_
  refine xq_bind h (fun q1 e2 h => ?_)
  refine xq_call (j := 117) (as := [.inl a1, .inl a2]) (pc' := 9) (ls' := [(0, .inr (.inr (14, 6, 0))), (1, .inl a1), (2, .inl a2)]) (st' := [.inr (.inr (15, 6, 1))]) rfl rfl (f_X7_personAt_ok e2) ?_
  refine xq_blk 1 (pc' := 11) (ls' := [(0, .inr (.inr (14, 6, 0))), (1, .inl a1), (2, .inl a2)]) (st' := [.inl (-6 : Int32), .inl q1, .inr (.inr (15, 6, 1))]) (M' := M) rfl ?_
  refine xq_guard h (fun g3 h => ?_)
  refine xq_prim (st' := []) (M' := xd_up M 6 1 q1.toNatClampNeg (-6 : Int32)) rfl rfl rfl (xg_ast0 rfl g3) ?_
  refine xq_blk 4 (pc' := 18) (ls' := [(0, .inr (.inr (14, 6, 0))), (1, .inl a1), (2, .inl a2)]) (st' := [.inl a2, .inl a1, .inr (.inr (15, 6, 1))]) (M' := xd_up M 6 1 q1.toNatClampNeg (-6 : Int32)) rfl ?_
  refine xq_bind h (fun q4 e5 h => ?_)
  refine xq_call (j := 117) (as := [.inl a1, .inl a2]) (pc' := 21) (ls' := [(0, .inr (.inr (14, 6, 0))), (1, .inl a1), (2, .inl a2)]) (st' := [.inr (.inr (15, 6, 1))]) rfl rfl (f_X7_personAt_ok e5) ?_
  refine xq_blk 3 (pc' := 25) (ls' := [(0, .inr (.inr (14, 6, 0))), (1, .inl a1), (2, .inl a2)]) (st' := [.inl (-6 : Int32), .inl (q4 + (1 : Int32)), .inr (.inr (15, 6, 1))]) (M' := xd_up M 6 1 q1.toNatClampNeg (-6 : Int32)) rfl ?_
  refine xq_guard h (fun g6 h => ?_)
  refine xq_prim (st' := []) (M' := xd_up (xd_up M 6 1 q1.toNatClampNeg (-6 : Int32)) 6 1 (q4 + (1 : Int32)).toNatClampNeg (-6 : Int32)) rfl rfl rfl (xg_ast0 rfl g6) ?_
  exact (hr _ (Option.some.inj h).symm) ▸ xq_ret rfl
theorem f_X7_endsPermit_ok {X : List Int32} {a1 : Int32} {a2 : Int32} {M : xM} {p : xM} (h : f_X7_endsPermit a1 a2 M = some p) : xq X xe 133 0 [(0, .inr (.inr (14, 6, 0))), (1, .inl a1), (2, .inl a2)] [] M ((none, p) : xR) := f_X7_endsPermit_run h (fun q e => by rw [e])
def f_X7_giveUp_j66 (v1 : Int32) (t0 : Int32) (M : xM) : Option (Int32 × xM) := (f_X7_endsPermit (0 : Int32) v1 M).bind (fun q11 => (f_X7_leavesLists (0 : Int32) v1 q11).bind (fun q13 => (f_X7_movesUp (0 : Int32) q13).bind (fun q15 => some ((t0, q15.2)))))
theorem f_X7_giveUp_j66_ok {X : List Int32} {v1 : Int32} {t0 : Int32} {M : xM} {p : Int32 × xM} {r : xR} (h : f_X7_giveUp_j66 v1 t0 M = some p) (hr : ∀ q, p = q → ((some (.inl q.1), q.2) : xR) = r) : xq X xe 157 66 [(0, .inr (.inr (14, 6, 0))), (1, .inl v1)] [.inl t0] M r := by
  unfold f_X7_giveUp_j66 at h
  refine xq_blk 4 (pc' := 70) (ls' := [(2, .inl t0), (0, .inr (.inr (14, 6, 0))), (1, .inl v1)]) (st' := [.inl v1, .inl (0 : Int32), .inr (.inr (14, 6, 0))]) (M' := M) rfl ?_
  refine xq_bind h (fun q11 e12 h => ?_)
  refine xq_call (j := 133) (as := [.inr (.inr (14, 6, 0)), .inl (0 : Int32), .inl v1]) (pc' := 73) (ls' := [(2, .inl t0), (0, .inr (.inr (14, 6, 0))), (1, .inl v1)]) (st' := []) rfl rfl (f_X7_endsPermit_ok e12) ?_
  refine xq_blk 3 (pc' := 76) (ls' := [(2, .inl t0), (0, .inr (.inr (14, 6, 0))), (1, .inl v1)]) (st' := [.inl v1, .inl (0 : Int32), .inr (.inr (14, 6, 0))]) (M' := q11) rfl ?_
  refine xq_bind h (fun q13 e14 h => ?_)
  refine xq_call (j := 129) (as := [.inr (.inr (14, 6, 0)), .inl (0 : Int32), .inl v1]) (pc' := 79) (ls' := [(2, .inl t0), (0, .inr (.inr (14, 6, 0))), (1, .inl v1)]) (st' := []) rfl rfl (f_X7_leavesLists_ok e14) ?_
  refine xq_blk 2 (pc' := 81) (ls' := [(2, .inl t0), (0, .inr (.inr (14, 6, 0))), (1, .inl v1)]) (st' := [.inl (0 : Int32), .inr (.inr (14, 6, 0))]) (M' := q13) rfl ?_
  refine xq_bind h (fun q15 e16 h => ?_)
  refine xq_call (j := 131) (as := [.inr (.inr (14, 6, 0)), .inl (0 : Int32)]) (pc' := 84) (ls' := [(2, .inl t0), (0, .inr (.inr (14, 6, 0))), (1, .inl v1)]) (st' := []) rfl rfl (f_X7_movesUp_ok e16) ?_
  refine xq_blk 2 (pc' := 86) (ls' := [(3, .inl q15.1), (2, .inl t0), (0, .inr (.inr (14, 6, 0))), (1, .inl v1)]) (st' := [.inl t0]) (M' := q15.2) rfl ?_
  exact (hr _ (Option.some.inj h).symm) ▸ xq_ret rfl
def f_X7_giveUp_j29 (v1 : Int32) (M : xM) : Option (Int32 × xM) := (f_X7_changes M).bind (fun q7 => (f_X7_hasPermit v1 q7).bind (fun q9 => if q9 = (0 : Int32) then (f_X7_giveUp_j66 v1 (0 : Int32) q7) else ((f_X7_personAt (0 : Int32) v1 q7).bind (fun q17 => if xp_in (q17 + (1 : Int32)) 3540 = true then (f_X7_giveUp_j66 v1 (((q7.1 6 1 (q17 + (1 : Int32)).toNatClampNeg) - (q7.1 6 1 4)) + (1 : Int32)) q7) else none))))
theorem f_X7_giveUp_j29_ok {X : List Int32} {v1 : Int32} {M : xM} {p : Int32 × xM} {r : xR} (h : f_X7_giveUp_j29 v1 M = some p) (hr : ∀ q, p = q → ((some (.inl q.1), q.2) : xR) = r) : xq X xe 157 29 [(0, .inr (.inr (14, 6, 0))), (1, .inl v1)] [] M r := by
  unfold f_X7_giveUp_j29 at h
  refine xq_blk 1 (pc' := 30) (ls' := [(0, .inr (.inr (14, 6, 0))), (1, .inl v1)]) (st' := [.inr (.inr (14, 6, 0))]) (M' := M) rfl ?_
  refine xq_bind h (fun q7 e8 h => ?_)
  refine xq_call (j := 122) (as := [.inr (.inr (14, 6, 0))]) (pc' := 33) (ls' := [(0, .inr (.inr (14, 6, 0))), (1, .inl v1)]) (st' := []) rfl rfl (f_X7_changes_ok e8) ?_
  refine xq_blk 2 (pc' := 35) (ls' := [(0, .inr (.inr (14, 6, 0))), (1, .inl v1)]) (st' := [.inl v1, .inr (.inr (14, 6, 0))]) (M' := q7) rfl ?_
  refine xq_bind h (fun q9 e10 h => ?_)
  refine xq_call (j := 144) (as := [.inr (.inr (14, 6, 0)), .inl v1]) (pc' := 38) (ls' := [(0, .inr (.inr (14, 6, 0))), (1, .inl v1)]) (st' := []) rfl rfl (f_X7_hasPermit_ok e10) ?_
  refine xq_ite h (fun c20 h => ?_) (fun c20 h => ?_)
  · refine xq_core (pc' := 65) (ls' := [(0, .inr (.inr (14, 6, 0))), (1, .inl v1)]) (st' := []) rfl (if_pos c20) ?_
    refine xq_blk 1 (pc' := 66) (ls' := [(0, .inr (.inr (14, 6, 0))), (1, .inl v1)]) (st' := [.inl (0 : Int32)]) (M' := q7) rfl ?_
    exact xq_sub (a := [(0, .inr (.inr (14, 6, 0))), (1, .inl v1)]) ⟨rfl, rfl, trivial⟩ rfl (f_X7_giveUp_j66_ok h hr)
  · refine xq_core (pc' := 41) (ls' := [(0, .inr (.inr (14, 6, 0))), (1, .inl v1)]) (st' := []) rfl (if_neg c20) ?_
    refine xq_blk 4 (pc' := 47) (ls' := [(0, .inr (.inr (14, 6, 0))), (1, .inl v1)]) (st' := [.inl v1, .inl (0 : Int32), .inr (.inr (15, 6, 1))]) (M' := q7) rfl ?_
    refine xq_bind h (fun q17 e18 h => ?_)
    refine xq_call (j := 117) (as := [.inl (0 : Int32), .inl v1]) (pc' := 50) (ls' := [(0, .inr (.inr (14, 6, 0))), (1, .inl v1)]) (st' := [.inr (.inr (15, 6, 1))]) rfl rfl (f_X7_personAt_ok e18) ?_
    refine xq_blk 2 (pc' := 52) (ls' := [(0, .inr (.inr (14, 6, 0))), (1, .inl v1)]) (st' := [.inl (q17 + (1 : Int32)), .inr (.inr (15, 6, 1))]) (M' := q7) rfl ?_
    refine xq_guard h (fun g19 h => ?_)
    refine xq_prim (st' := [.inl (q7.1 6 1 (q17 + (1 : Int32)).toNatClampNeg)]) (M' := q7) rfl rfl rfl (xg_ald0 rfl g19) ?_
    refine xq_blk 3 (pc' := 58) (ls' := [(0, .inr (.inr (14, 6, 0))), (1, .inl v1)]) (st' := [.inl (4 : Int32), .inr (.inr (15, 6, 1)), .inl (q7.1 6 1 (q17 + (1 : Int32)).toNatClampNeg)]) (M' := q7) rfl ?_
    refine xq_prim (st' := [.inl (q7.1 6 1 4), .inl (q7.1 6 1 (q17 + (1 : Int32)).toNatClampNeg)]) (M' := q7) rfl rfl rfl (xg_ald0 rfl rfl) ?_
    refine xq_blk 4 (pc' := 66) (ls' := [(0, .inr (.inr (14, 6, 0))), (1, .inl v1)]) (st' := [.inl (((q7.1 6 1 (q17 + (1 : Int32)).toNatClampNeg) - (q7.1 6 1 4)) + (1 : Int32))]) (M' := q7) rfl ?_
    exact xq_sub (a := [(0, .inr (.inr (14, 6, 0))), (1, .inl v1)]) ⟨rfl, rfl, trivial⟩ rfl (f_X7_giveUp_j66_ok h hr)
def f_X7_giveUp (a1 : Int32) (M : xM) : Option (Int32 × xM) := (f_X7_isPerson a1 M).bind (fun q1 => if q1 = (0 : Int32) then (some (((-1 : Int32), M))) else ((f_X7_hasPermit a1 M).bind (fun q3 => if q3 = (0 : Int32) then ((f_X7_waitsFor (0 : Int32) a1 M).bind (fun q5 => if q5 = (0 : Int32) then (some (((-5 : Int32), M))) else (f_X7_giveUp_j29 a1 M))) else (f_X7_giveUp_j29 a1 M))))
theorem f_X7_giveUp_run {X : List Int32} {a1 : Int32} {M : xM} {p : Int32 × xM} {r : xR} (h : f_X7_giveUp a1 M = some p) (hr : ∀ q, p = q → ((some (.inl q.1), q.2) : xR) = r) : xq X xe 157 0 [(0, .inr (.inr (14, 6, 0))), (1, .inl a1)] [] M r := by
  unfold f_X7_giveUp at h
  refine xq_blk 1 (pc' := 1) (ls' := [(0, .inr (.inr (14, 6, 0))), (1, .inl a1)]) (st' := [.inl a1]) (M' := M) rfl ?_
  refine xq_bind h (fun q1 e2 h => ?_)
  refine xq_call (j := 141) (as := [.inl a1]) (pc' := 4) (ls' := [(0, .inr (.inr (14, 6, 0))), (1, .inl a1)]) (st' := []) rfl rfl (f_X7_isPerson_ok e2) ?_
  refine xq_ite h (fun c23 h => ?_) (fun c23 h => ?_)
  · refine xq_core (pc' := 7) (ls' := [(0, .inr (.inr (14, 6, 0))), (1, .inl a1)]) (st' := []) rfl (if_pos c23) ?_
    refine xq_blk 1 (pc' := 8) (ls' := [(0, .inr (.inr (14, 6, 0))), (1, .inl a1)]) (st' := [.inl (-1 : Int32)]) (M' := M) rfl ?_
    exact (hr _ (Option.some.inj h).symm) ▸ xq_ret rfl
  · refine xq_core (pc' := 9) (ls' := [(0, .inr (.inr (14, 6, 0))), (1, .inl a1)]) (st' := []) rfl (if_neg c23) ?_
    refine xq_blk 2 (pc' := 11) (ls' := [(0, .inr (.inr (14, 6, 0))), (1, .inl a1)]) (st' := [.inl a1, .inr (.inr (14, 6, 0))]) (M' := M) rfl ?_
    refine xq_bind h (fun q3 e4 h => ?_)
    refine xq_call (j := 144) (as := [.inr (.inr (14, 6, 0)), .inl a1]) (pc' := 14) (ls' := [(0, .inr (.inr (14, 6, 0))), (1, .inl a1)]) (st' := []) rfl rfl (f_X7_hasPermit_ok e4) ?_
    refine xq_ite h (fun c22 h => ?_) (fun c22 h => ?_)
    · refine xq_core (pc' := 17) (ls' := [(0, .inr (.inr (14, 6, 0))), (1, .inl a1)]) (st' := []) rfl (if_pos c22) ?_
      refine xq_blk 3 (pc' := 20) (ls' := [(0, .inr (.inr (14, 6, 0))), (1, .inl a1)]) (st' := [.inl a1, .inl (0 : Int32), .inr (.inr (14, 6, 0))]) (M' := M) rfl ?_
      refine xq_bind h (fun q5 e6 h => ?_)
      refine xq_call (j := 128) (as := [.inr (.inr (14, 6, 0)), .inl (0 : Int32), .inl a1]) (pc' := 23) (ls' := [(0, .inr (.inr (14, 6, 0))), (1, .inl a1)]) (st' := []) rfl rfl (f_X7_waitsFor_ok e6) ?_
      refine xq_ite h (fun c21 h => ?_) (fun c21 h => ?_)
      · refine xq_core (pc' := 26) (ls' := [(0, .inr (.inr (14, 6, 0))), (1, .inl a1)]) (st' := []) rfl (if_pos c21) ?_
        refine xq_blk 1 (pc' := 28) (ls' := [(0, .inr (.inr (14, 6, 0))), (1, .inl a1)]) (st' := [.inl (-5 : Int32)]) (M' := M) rfl ?_
        exact (hr _ (Option.some.inj h).symm) ▸ xq_ret rfl
      · refine xq_core (pc' := 29) (ls' := [(0, .inr (.inr (14, 6, 0))), (1, .inl a1)]) (st' := []) rfl (if_neg c21) ?_
        exact xq_sub (a := [(0, .inr (.inr (14, 6, 0))), (1, .inl a1)]) ⟨rfl, rfl, trivial⟩ rfl (f_X7_giveUp_j29_ok h hr)
    · refine xq_core (pc' := 29) (ls' := [(0, .inr (.inr (14, 6, 0))), (1, .inl a1)]) (st' := []) rfl (if_neg c22) ?_
      exact xq_sub (a := [(0, .inr (.inr (14, 6, 0))), (1, .inl a1)]) ⟨rfl, rfl, trivial⟩ rfl (f_X7_giveUp_j29_ok h hr)
theorem f_X7_giveUp_ok {X : List Int32} {a1 : Int32} {M : xM} {p : Int32 × xM} (h : f_X7_giveUp a1 M = some p) : xq X xe 157 0 [(0, .inr (.inr (14, 6, 0))), (1, .inl a1)] [] M ((some (.inl p.1), p.2) : xR) := f_X7_giveUp_run h (fun q e => by rw [e])
def f_X7_prolong (a1 : Int32) (a2 : Int32) (M : xM) : Option (Int32 × xM) := (f_X7_isPerson a1 M).bind (fun q1 => if q1 = (0 : Int32) then (some (((-1 : Int32), M))) else ((f_X7_areDays a2 M).bind (fun q3 => if q3 = (0 : Int32) then (some (((-2 : Int32), M))) else ((f_X7_personAt (0 : Int32) a1 M).bind (fun q5 => (f_X7_hasPermit a1 M).bind (fun q7 => if q7 = (0 : Int32) then (some (((-5 : Int32), M))) else (if xp_in q5 3540 = true then (if xp_in ((11 : Int32) + (M.1 6 1 q5.toNatClampNeg)) 3540 = true then (if (0 : Int32) < (M.1 6 1 ((11 : Int32) + (M.1 6 1 q5.toNatClampNeg)).toNatClampNeg) then (some (((-5 : Int32), M))) else ((f_X7_changes M).bind (fun q11 => if xp_in (q5 + (1 : Int32)) 3540 = true then (if xp_in (q5 + (1 : Int32)) 3540 = true then (if xp_in (q5 + (1 : Int32)) 3540 = true then (some (((xd_up q11 6 1 (q5 + (1 : Int32)).toNatClampNeg ((q11.1 6 1 (q5 + (1 : Int32)).toNatClampNeg) + a2)).1 6 1 (q5 + (1 : Int32)).toNatClampNeg, xd_up q11 6 1 (q5 + (1 : Int32)).toNatClampNeg ((q11.1 6 1 (q5 + (1 : Int32)).toNatClampNeg) + a2)))) else none) else none) else none))) else none) else none)))))))
theorem f_X7_prolong_run {X : List Int32} {a1 : Int32} {a2 : Int32} {M : xM} {p : Int32 × xM} {r : xR} (h : f_X7_prolong a1 a2 M = some p) (hr : ∀ q, p = q → ((some (.inl q.1), q.2) : xR) = r) : xq X xe 158 0 [(0, .inr (.inr (14, 6, 0))), (1, .inl a1), (2, .inl a2)] [] M r := by
  unfold f_X7_prolong at h
  refine xq_blk 1 (pc' := 1) (ls' := [(0, .inr (.inr (14, 6, 0))), (1, .inl a1), (2, .inl a2)]) (st' := [.inl a1]) (M' := M) rfl ?_
  refine xq_bind h (fun q1 e2 h => ?_)
  refine xq_call (j := 141) (as := [.inl a1]) (pc' := 4) (ls' := [(0, .inr (.inr (14, 6, 0))), (1, .inl a1), (2, .inl a2)]) (st' := []) rfl rfl (f_X7_isPerson_ok e2) ?_
  refine xq_ite h (fun c19 h => ?_) (fun c19 h => ?_)
  · refine xq_core (pc' := 7) (ls' := [(0, .inr (.inr (14, 6, 0))), (1, .inl a1), (2, .inl a2)]) (st' := []) rfl (if_pos c19) ?_
    refine xq_blk 1 (pc' := 8) (ls' := [(0, .inr (.inr (14, 6, 0))), (1, .inl a1), (2, .inl a2)]) (st' := [.inl (-1 : Int32)]) (M' := M) rfl ?_
    exact (hr _ (Option.some.inj h).symm) ▸ xq_ret rfl
  · refine xq_core (pc' := 9) (ls' := [(0, .inr (.inr (14, 6, 0))), (1, .inl a1), (2, .inl a2)]) (st' := []) rfl (if_neg c19) ?_
    refine xq_blk 1 (pc' := 10) (ls' := [(0, .inr (.inr (14, 6, 0))), (1, .inl a1), (2, .inl a2)]) (st' := [.inl a2]) (M' := M) rfl ?_
    refine xq_bind h (fun q3 e4 h => ?_)
    refine xq_call (j := 143) (as := [.inl a2]) (pc' := 13) (ls' := [(0, .inr (.inr (14, 6, 0))), (1, .inl a1), (2, .inl a2)]) (st' := []) rfl rfl (f_X7_areDays_ok e4) ?_
    refine xq_ite h (fun c18 h => ?_) (fun c18 h => ?_)
    · refine xq_core (pc' := 16) (ls' := [(0, .inr (.inr (14, 6, 0))), (1, .inl a1), (2, .inl a2)]) (st' := []) rfl (if_pos c18) ?_
      refine xq_blk 1 (pc' := 18) (ls' := [(0, .inr (.inr (14, 6, 0))), (1, .inl a1), (2, .inl a2)]) (st' := [.inl (-2 : Int32)]) (M' := M) rfl ?_
      exact (hr _ (Option.some.inj h).symm) ▸ xq_ret rfl
    · refine xq_core (pc' := 19) (ls' := [(0, .inr (.inr (14, 6, 0))), (1, .inl a1), (2, .inl a2)]) (st' := []) rfl (if_neg c18) ?_
      refine xq_blk 2 (pc' := 21) (ls' := [(0, .inr (.inr (14, 6, 0))), (1, .inl a1), (2, .inl a2)]) (st' := [.inl a1, .inl (0 : Int32)]) (M' := M) rfl ?_
      refine xq_bind h (fun q5 e6 h => ?_)
      refine xq_call (j := 117) (as := [.inl (0 : Int32), .inl a1]) (pc' := 24) (ls' := [(0, .inr (.inr (14, 6, 0))), (1, .inl a1), (2, .inl a2)]) (st' := []) rfl rfl (f_X7_personAt_ok e6) ?_
      refine xq_blk 3 (pc' := 27) (ls' := [(3, .inl q5), (0, .inr (.inr (14, 6, 0))), (1, .inl a1), (2, .inl a2)]) (st' := [.inl a1, .inr (.inr (14, 6, 0))]) (M' := M) rfl ?_
      refine xq_bind h (fun q7 e8 h => ?_)
      refine xq_call (j := 144) (as := [.inr (.inr (14, 6, 0)), .inl a1]) (pc' := 30) (ls' := [(3, .inl q5), (0, .inr (.inr (14, 6, 0))), (1, .inl a1), (2, .inl a2)]) (st' := []) rfl rfl (f_X7_hasPermit_ok e8) ?_
      refine xq_ite h (fun c17 h => ?_) (fun c17 h => ?_)
      · refine xq_core (pc' := 50) (ls' := [(3, .inl q5), (0, .inr (.inr (14, 6, 0))), (1, .inl a1), (2, .inl a2)]) (st' := []) rfl (if_pos c17) ?_
        refine xq_blk 1 (pc' := 52) (ls' := [(3, .inl q5), (0, .inr (.inr (14, 6, 0))), (1, .inl a1), (2, .inl a2)]) (st' := [.inl (-5 : Int32)]) (M' := M) rfl ?_
        exact (hr _ (Option.some.inj h).symm) ▸ xq_ret rfl
      · refine xq_core (pc' := 33) (ls' := [(3, .inl q5), (0, .inr (.inr (14, 6, 0))), (1, .inl a1), (2, .inl a2)]) (st' := []) rfl (if_neg c17) ?_
        refine xq_blk 6 (pc' := 44) (ls' := [(3, .inl q5), (0, .inr (.inr (14, 6, 0))), (1, .inl a1), (2, .inl a2)]) (st' := [.inl q5, .inr (.inr (15, 6, 1)), .inl (11 : Int32), .inr (.inr (15, 6, 1))]) (M' := M) rfl ?_
        refine xq_guard h (fun g9 h => ?_)
        refine xq_prim (st' := [.inl (M.1 6 1 q5.toNatClampNeg), .inl (11 : Int32), .inr (.inr (15, 6, 1))]) (M' := M) rfl rfl rfl (xg_ald0 rfl g9) ?_
        refine xq_blk 1 (pc' := 46) (ls' := [(3, .inl q5), (0, .inr (.inr (14, 6, 0))), (1, .inl a1), (2, .inl a2)]) (st' := [.inl ((11 : Int32) + (M.1 6 1 q5.toNatClampNeg)), .inr (.inr (15, 6, 1))]) (M' := M) rfl ?_
        refine xq_guard h (fun g10 h => ?_)
        refine xq_prim (st' := [.inl (M.1 6 1 ((11 : Int32) + (M.1 6 1 q5.toNatClampNeg)).toNatClampNeg)]) (M' := M) rfl rfl rfl (xg_ald0 rfl g10) ?_
        refine xq_ite h (fun c16 h => ?_) (fun c16 h => ?_)
        · refine xq_core (pc' := 50) (ls' := [(3, .inl q5), (0, .inr (.inr (14, 6, 0))), (1, .inl a1), (2, .inl a2)]) (st' := []) rfl (if_pos c16) ?_
          refine xq_blk 1 (pc' := 52) (ls' := [(3, .inl q5), (0, .inr (.inr (14, 6, 0))), (1, .inl a1), (2, .inl a2)]) (st' := [.inl (-5 : Int32)]) (M' := M) rfl ?_
          exact (hr _ (Option.some.inj h).symm) ▸ xq_ret rfl
        · refine xq_core (pc' := 53) (ls' := [(3, .inl q5), (0, .inr (.inr (14, 6, 0))), (1, .inl a1), (2, .inl a2)]) (st' := []) rfl (if_neg c16) ?_
          refine xq_blk 1 (pc' := 54) (ls' := [(3, .inl q5), (0, .inr (.inr (14, 6, 0))), (1, .inl a1), (2, .inl a2)]) (st' := [.inr (.inr (14, 6, 0))]) (M' := M) rfl ?_
          refine xq_bind h (fun q11 e12 h => ?_)
          refine xq_call (j := 122) (as := [.inr (.inr (14, 6, 0))]) (pc' := 57) (ls' := [(3, .inl q5), (0, .inr (.inr (14, 6, 0))), (1, .inl a1), (2, .inl a2)]) (st' := []) rfl rfl (f_X7_changes_ok e12) ?_
          refine xq_blk 6 (pc' := 65) (ls' := [(3, .inl q5), (0, .inr (.inr (14, 6, 0))), (1, .inl a1), (2, .inl a2)]) (st' := [.inl (q5 + (1 : Int32)), .inr (.inr (15, 6, 1)), .inl (q5 + (1 : Int32)), .inr (.inr (15, 6, 1))]) (M' := q11) rfl ?_
          refine xq_guard h (fun g13 h => ?_)
          refine xq_prim (st' := [.inl (q11.1 6 1 (q5 + (1 : Int32)).toNatClampNeg), .inl (q5 + (1 : Int32)), .inr (.inr (15, 6, 1))]) (M' := q11) rfl rfl rfl (xg_ald0 rfl g13) ?_
          refine xq_blk 2 (pc' := 68) (ls' := [(3, .inl q5), (0, .inr (.inr (14, 6, 0))), (1, .inl a1), (2, .inl a2)]) (st' := [.inl ((q11.1 6 1 (q5 + (1 : Int32)).toNatClampNeg) + a2), .inl (q5 + (1 : Int32)), .inr (.inr (15, 6, 1))]) (M' := q11) rfl ?_
          refine xq_guard h (fun g14 h => ?_)
          refine xq_prim (st' := []) (M' := xd_up q11 6 1 (q5 + (1 : Int32)).toNatClampNeg ((q11.1 6 1 (q5 + (1 : Int32)).toNatClampNeg) + a2)) rfl rfl rfl (xg_ast0 rfl g14) ?_
          refine xq_blk 5 (pc' := 76) (ls' := [(3, .inl q5), (0, .inr (.inr (14, 6, 0))), (1, .inl a1), (2, .inl a2)]) (st' := [.inl (q5 + (1 : Int32)), .inr (.inr (15, 6, 1))]) (M' := xd_up q11 6 1 (q5 + (1 : Int32)).toNatClampNeg ((q11.1 6 1 (q5 + (1 : Int32)).toNatClampNeg) + a2)) rfl ?_
          refine xq_guard h (fun g15 h => ?_)
          refine xq_prim (st' := [.inl ((xd_up q11 6 1 (q5 + (1 : Int32)).toNatClampNeg ((q11.1 6 1 (q5 + (1 : Int32)).toNatClampNeg) + a2)).1 6 1 (q5 + (1 : Int32)).toNatClampNeg)]) (M' := xd_up q11 6 1 (q5 + (1 : Int32)).toNatClampNeg ((q11.1 6 1 (q5 + (1 : Int32)).toNatClampNeg) + a2)) rfl rfl rfl (xg_ald0 rfl g15) ?_
          exact (hr _ (Option.some.inj h).symm) ▸ xq_ret rfl
theorem f_X7_prolong_ok {X : List Int32} {a1 : Int32} {a2 : Int32} {M : xM} {p : Int32 × xM} (h : f_X7_prolong a1 a2 M = some p) : xq X xe 158 0 [(0, .inr (.inr (14, 6, 0))), (1, .inl a1), (2, .inl a2)] [] M ((some (.inl p.1), p.2) : xR) := f_X7_prolong_run h (fun q e => by rw [e])
def f_X7_isInRack (a1 : Int32) (a2 : Int32) (M : xM) : Option (Int32) := (f_X7_personAt a1 a2 M).bind (fun q1 => if xp_in (q1 + (2 : Int32)) 3540 = true then (if (M.1 6 1 (q1 + (2 : Int32)).toNatClampNeg) = (-6 : Int32) then (some ((vp_nar .boolean (0 : Int32)))) else (some ((vp_nar .boolean (1 : Int32))))) else none)
theorem f_X7_isInRack_run {X : List Int32} {a1 : Int32} {a2 : Int32} {M : xM} {p : Int32} {r : xR} (h : f_X7_isInRack a1 a2 M = some p) (hr : ∀ q, p = q → ((some (.inl q), M) : xR) = r) : xq X xe 136 0 [(0, .inr (.inr (14, 6, 0))), (1, .inl a1), (2, .inl a2)] [] M r := by
  unfold f_X7_isInRack at h
  refine xq_blk 4 (pc' := 6) (ls' := [(0, .inr (.inr (14, 6, 0))), (1, .inl a1), (2, .inl a2)]) (st' := [.inl a2, .inl a1, .inr (.inr (15, 6, 1))]) (M' := M) rfl ?_
  refine xq_bind h (fun q1 e2 h => ?_)
  refine xq_call (j := 117) (as := [.inl a1, .inl a2]) (pc' := 9) (ls' := [(0, .inr (.inr (14, 6, 0))), (1, .inl a1), (2, .inl a2)]) (st' := [.inr (.inr (15, 6, 1))]) rfl rfl (f_X7_personAt_ok e2) ?_
  refine xq_blk 2 (pc' := 11) (ls' := [(0, .inr (.inr (14, 6, 0))), (1, .inl a1), (2, .inl a2)]) (st' := [.inl (q1 + (2 : Int32)), .inr (.inr (15, 6, 1))]) (M' := M) rfl ?_
  refine xq_guard h (fun g3 h => ?_)
  refine xq_prim (st' := [.inl (M.1 6 1 (q1 + (2 : Int32)).toNatClampNeg)]) (M' := M) rfl rfl rfl (xg_ald0 rfl g3) ?_
  refine xq_blk 1 (pc' := 14) (ls' := [(0, .inr (.inr (14, 6, 0))), (1, .inl a1), (2, .inl a2)]) (st' := [.inl (-6 : Int32), .inl (M.1 6 1 (q1 + (2 : Int32)).toNatClampNeg)]) (M' := M) rfl ?_
  refine xq_ite h (fun c4 h => ?_) (fun c4 h => ?_)
  · refine xq_core (pc' := 21) (ls' := [(0, .inr (.inr (14, 6, 0))), (1, .inl a1), (2, .inl a2)]) (st' := []) rfl (if_pos c4) ?_
    refine xq_blk 1 (pc' := 22) (ls' := [(0, .inr (.inr (14, 6, 0))), (1, .inl a1), (2, .inl a2)]) (st' := [.inl (0 : Int32)]) (M' := M) rfl ?_
    exact (hr _ (Option.some.inj h).symm) ▸ xq_ret rfl
  · refine xq_core (pc' := 17) (ls' := [(0, .inr (.inr (14, 6, 0))), (1, .inl a1), (2, .inl a2)]) (st' := []) rfl (if_neg c4) ?_
    refine xq_blk 2 (pc' := 22) (ls' := [(0, .inr (.inr (14, 6, 0))), (1, .inl a1), (2, .inl a2)]) (st' := [.inl (1 : Int32)]) (M' := M) rfl ?_
    exact (hr _ (Option.some.inj h).symm) ▸ xq_ret rfl
theorem f_X7_isInRack_ok {X : List Int32} {a1 : Int32} {a2 : Int32} {M : xM} {p : Int32} (h : f_X7_isInRack a1 a2 M = some p) : xq X xe 136 0 [(0, .inr (.inr (14, 6, 0))), (1, .inl a1), (2, .inl a2)] [] M ((some (.inl p), M) : xR) := f_X7_isInRack_run h (fun q e => by rw [e])
