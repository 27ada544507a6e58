def f_X6_pass (a1 : Int32) (M : xM) : Option (Int32 × xM) := (f_X5_letPass 2 a1 (xe_cp 3 2 M)).bind (fun q1 => (f_X6_recorded q1.1 q1.2).bind (fun q3 => some ((q3.1, q3.2))))
theorem f_X6_pass_run {X : List Int32} {a1 : Int32} {M : xM} {p : Int32 × xM} {r : xR} (h : f_X6_pass a1 M = some p) (hr : ∀ q, p = q → ((some (.inl q.1), q.2) : xR) = r) : xq X xe 100 0 [(0, .inr (.inr (7, 5, 0))), (1, .inl a1)] [] M r := by
  unfold f_X6_pass at h
  refine xq_blk 4 (pc' := 8) (ls' := [(0, .inr (.inr (7, 5, 0))), (1, .inl a1)]) (st' := [.inr (.inr (0, 2, 0)), .inr (.inr (0, 3, 0))]) (M' := M) rfl ?_
  refine xq_ext (j := 37) (as := [.inr (.inr (0, 3, 0)), .inr (.inr (0, 2, 0))]) (pc' := 11) (ls' := [(0, .inr (.inr (7, 5, 0))), (1, .inl a1)]) (st' := []) (q := (none, xe_cp 3 2 M)) rfl rfl rfl ?_
  refine xq_blk 4 (pc' := 17) (ls' := [(0, .inr (.inr (7, 5, 0))), (1, .inl a1)]) (st' := [.inl a1, .inr (.inr (0, 2, 0)), .inr (.inr (7, 5, 0))]) (M' := xe_cp 3 2 M) rfl ?_
  refine xq_bind h (fun q1 e2 h => ?_)
  refine xq_call (j := 82) (as := [.inr (.inr (0, 2, 0)), .inl a1]) (pc' := 20) (ls' := [(0, .inr (.inr (7, 5, 0))), (1, .inl a1)]) (st' := [.inr (.inr (7, 5, 0))]) rfl rfl (f_X5_letPass_ok e2) ?_
  refine xq_bind h (fun q3 e4 h => ?_)
  refine xq_call (j := 89) (as := [.inr (.inr (7, 5, 0)), .inl q1.1]) (pc' := 23) (ls' := [(0, .inr (.inr (7, 5, 0))), (1, .inl a1)]) (st' := []) rfl rfl (f_X6_recorded_ok e4) ?_
  exact (hr _ (Option.some.inj h).symm) ▸ xq_ret rfl
theorem f_X6_pass_ok {X : List Int32} {a1 : Int32} {M : xM} {p : Int32 × xM} (h : f_X6_pass a1 M = some p) : xq X xe 100 0 [(0, .inr (.inr (7, 5, 0))), (1, .inl a1)] [] M ((some (.inl p.1), p.2) : xR) := f_X6_pass_run h (fun q e => by rw [e])
def f_X1_goToStart  (M : xM) : Option (xM) := some (xd_up M 5 79 1 (0 : Int32))
theorem f_X1_goToStart_run {X : List Int32}  {M : xM} {p : xM} {r : xR} (h : f_X1_goToStart  M = some p) (hr : ∀ q, p = q → ((none, q) : xR) = r) : xq X xe 22 0 [(0, .inr (.inr (11, 5, 79)))] [] M r := by
  unfold f_X1_goToStart at h
  refine xq_blk 3 (pc' := 5) (ls' := [(0, .inr (.inr (11, 5, 79)))]) (st' := []) (M' := xd_up M 5 79 1 (0 : Int32)) rfl ?_
  exact (hr _ (Option.some.inj h).symm) ▸ xq_ret rfl
theorem f_X1_goToStart_ok {X : List Int32}  {M : xM} {p : xM} (h : f_X1_goToStart  M = some p) : xq X xe 22 0 [(0, .inr (.inr (11, 5, 79)))] [] M ((none, p) : xR) := f_X1_goToStart_run h (fun q e => by rw [e])
def f_X3_characterAt (a1 : Int32) (M : xM) : Option (Int32) := if a1 < (0 : Int32) then (some ((vp_nar .char (0 : Int32)))) else (if a1 < (M.1 5 80 1) then (if xp_in a1 60 = true then (some ((vp_nar .char (M.1 5 81 a1.toNatClampNeg)))) else none) else (some ((vp_nar .char (0 : Int32)))))
theorem f_X3_characterAt_run {X : List Int32} {a1 : Int32} {M : xM} {p : Int32} {r : xR} (h : f_X3_characterAt a1 M = some p) (hr : ∀ q, p = q → ((some (.inl q), M) : xR) = r) : xq X xe 23 0 [(0, .inr (.inr (12, 5, 80))), (1, .inl a1)] [] M r := by
  unfold f_X3_characterAt at h
  refine xq_blk 2 (pc' := 2) (ls' := [(0, .inr (.inr (12, 5, 80))), (1, .inl a1)]) (st' := [.inl a1, .inl (0 : Int32)]) (M' := M) rfl ?_
  refine xq_ite h (fun c3 h => ?_) (fun c3 h => ?_)
  · refine xq_core (pc' := 22) (ls' := [(0, .inr (.inr (12, 5, 80))), (1, .inl a1)]) (st' := []) rfl (if_pos c3) ?_
    refine xq_blk 1 (pc' := 23) (ls' := [(0, .inr (.inr (12, 5, 80))), (1, .inl a1)]) (st' := [.inl (0 : Int32)]) (M' := M) rfl ?_
    exact (hr _ (Option.some.inj h).symm) ▸ xq_ret rfl
  · refine xq_core (pc' := 5) (ls' := [(0, .inr (.inr (12, 5, 80))), (1, .inl a1)]) (st' := []) rfl (if_neg c3) ?_
    refine xq_blk 3 (pc' := 10) (ls' := [(0, .inr (.inr (12, 5, 80))), (1, .inl a1)]) (st' := [.inl (M.1 5 80 1), .inl a1]) (M' := M) rfl ?_
    refine xq_ite h (fun c2 h => ?_) (fun c2 h => ?_)
    · refine xq_core (pc' := 13) (ls' := [(0, .inr (.inr (12, 5, 80))), (1, .inl a1)]) (st' := []) rfl (if_pos c2) ?_
      refine xq_blk 3 (pc' := 18) (ls' := [(0, .inr (.inr (12, 5, 80))), (1, .inl a1)]) (st' := [.inl a1, .inr (.inr (13, 5, 81))]) (M' := M) rfl ?_
      refine xq_guard h (fun g1 h => ?_)
      refine xq_prim (st' := [.inl (M.1 5 81 a1.toNatClampNeg)]) (M' := M) rfl rfl rfl (xg_ald2 rfl g1) ?_
      refine xq_blk 1 (pc' := 23) (ls' := [(0, .inr (.inr (12, 5, 80))), (1, .inl a1)]) (st' := [.inl (M.1 5 81 a1.toNatClampNeg)]) (M' := M) rfl ?_
      exact (hr _ (Option.some.inj h).symm) ▸ xq_ret rfl
    · refine xq_core (pc' := 22) (ls' := [(0, .inr (.inr (12, 5, 80))), (1, .inl a1)]) (st' := []) rfl (if_neg c2) ?_
      refine xq_blk 1 (pc' := 23) (ls' := [(0, .inr (.inr (12, 5, 80))), (1, .inl a1)]) (st' := [.inl (0 : Int32)]) (M' := M) rfl ?_
      exact (hr _ (Option.some.inj h).symm) ▸ xq_ret rfl
theorem f_X3_characterAt_ok {X : List Int32} {a1 : Int32} {M : xM} {p : Int32} (h : f_X3_characterAt a1 M = some p) : xq X xe 23 0 [(0, .inr (.inr (12, 5, 80))), (1, .inl a1)] [] M ((some (.inl p), M) : xR) := f_X3_characterAt_run h (fun q e => by rw [e])
def f_X1_readFrom (a1 : Int32) (a2 : Int32) (M : xM) : Option (Int32 × xM) := (f_X3_characterAt (M.1 5 79 1) M).bind (fun q1 => if q1 < a1 then (some ((vp_nar .boolean (0 : Int32), M))) else (if a2 < q1 then (some ((vp_nar .boolean (0 : Int32), M))) else (if xd_fitI .char q1 = true then (some ((vp_nar .boolean (1 : Int32), xd_up (xd_up M 5 79 2 q1) 5 79 1 (((xd_up M 5 79 2 q1).1 5 79 1) + (1 : Int32))))) else none)))
theorem f_X1_readFrom_run {X : List Int32} {a1 : Int32} {a2 : Int32} {M : xM} {p : Int32 × xM} {r : xR} (h : f_X1_readFrom a1 a2 M = some p) (hr : ∀ q, p = q → ((some (.inl q.1), q.2) : xR) = r) : xq X xe 24 0 [(0, .inr (.inr (11, 5, 79))), (1, .inl a1), (2, .inl a2)] [] M r := by
  unfold f_X1_readFrom at h
  refine xq_blk 4 (pc' := 8) (ls' := [(0, .inr (.inr (11, 5, 79))), (1, .inl a1), (2, .inl a2)]) (st' := [.inl (M.1 5 79 1), .inr (.inr (12, 5, 80))]) (M' := M) rfl ?_
  refine xq_bind h (fun q1 e2 h => ?_)
  refine xq_call (j := 23) (as := [.inr (.inr (12, 5, 80)), .inl (M.1 5 79 1)]) (pc' := 11) (ls' := [(0, .inr (.inr (11, 5, 79))), (1, .inl a1), (2, .inl a2)]) (st' := []) rfl rfl (f_X3_characterAt_ok e2) ?_
  refine xq_blk 3 (pc' := 14) (ls' := [(3, .inl q1), (0, .inr (.inr (11, 5, 79))), (1, .inl a1), (2, .inl a2)]) (st' := [.inl a1, .inl q1]) (M' := M) rfl ?_
  refine xq_ite h (fun c5 h => ?_) (fun c5 h => ?_)
  · refine xq_core (pc' := 22) (ls' := [(3, .inl q1), (0, .inr (.inr (11, 5, 79))), (1, .inl a1), (2, .inl a2)]) (st' := []) rfl (if_pos c5) ?_
    refine xq_blk 1 (pc' := 23) (ls' := [(3, .inl q1), (0, .inr (.inr (11, 5, 79))), (1, .inl a1), (2, .inl a2)]) (st' := [.inl (0 : Int32)]) (M' := M) rfl ?_
    exact (hr _ (Option.some.inj h).symm) ▸ xq_ret rfl
  · refine xq_core (pc' := 17) (ls' := [(3, .inl q1), (0, .inr (.inr (11, 5, 79))), (1, .inl a1), (2, .inl a2)]) (st' := []) rfl (if_neg c5) ?_
    refine xq_blk 2 (pc' := 19) (ls' := [(3, .inl q1), (0, .inr (.inr (11, 5, 79))), (1, .inl a1), (2, .inl a2)]) (st' := [.inl a2, .inl q1]) (M' := M) rfl ?_
    refine xq_ite h (fun c4 h => ?_) (fun c4 h => ?_)
    · refine xq_core (pc' := 22) (ls' := [(3, .inl q1), (0, .inr (.inr (11, 5, 79))), (1, .inl a1), (2, .inl a2)]) (st' := []) rfl (if_pos c4) ?_
      refine xq_blk 1 (pc' := 23) (ls' := [(3, .inl q1), (0, .inr (.inr (11, 5, 79))), (1, .inl a1), (2, .inl a2)]) (st' := [.inl (0 : Int32)]) (M' := M) rfl ?_
      exact (hr _ (Option.some.inj h).symm) ▸ xq_ret rfl
    · refine xq_core (pc' := 24) (ls' := [(3, .inl q1), (0, .inr (.inr (11, 5, 79))), (1, .inl a1), (2, .inl a2)]) (st' := []) rfl (if_neg c4) ?_
      refine xq_blk 2 (pc' := 26) (ls' := [(3, .inl q1), (0, .inr (.inr (11, 5, 79))), (1, .inl a1), (2, .inl a2)]) (st' := [.inl q1, .inr (.inr (11, 5, 79))]) (M' := M) rfl ?_
      refine xq_guard h (fun g3 h => ?_)
      refine xq_prim (st' := []) (M' := xd_up M 5 79 2 q1) rfl rfl rfl (if_pos (by show (_ && (_ && (_ && xd_fitI .char _))) = true; rw [g3]; rfl)) ?_
      refine xq_blk 7 (pc' := 40) (ls' := [(3, .inl q1), (0, .inr (.inr (11, 5, 79))), (1, .inl a1), (2, .inl a2)]) (st' := [.inl (1 : Int32)]) (M' := xd_up (xd_up M 5 79 2 q1) 5 79 1 (((xd_up M 5 79 2 q1).1 5 79 1) + (1 : Int32))) rfl ?_
      exact (hr _ (Option.some.inj h).symm) ▸ xq_ret rfl
theorem f_X1_readFrom_ok {X : List Int32} {a1 : Int32} {a2 : Int32} {M : xM} {p : Int32 × xM} (h : f_X1_readFrom a1 a2 M = some p) : xq X xe 24 0 [(0, .inr (.inr (11, 5, 79))), (1, .inl a1), (2, .inl a2)] [] M ((some (.inl p.1), p.2) : xR) := f_X1_readFrom_run h (fun q e => by rw [e])
def f_X1_readOne (a1 : Int32) (M : xM) : Option (Int32 × xM) := (f_X1_readFrom a1 a1 M).bind (fun q1 => some ((vp_nar .boolean q1.1, q1.2)))
theorem f_X1_readOne_run {X : List Int32} {a1 : Int32} {M : xM} {p : Int32 × xM} {r : xR} (h : f_X1_readOne a1 M = some p) (hr : ∀ q, p = q → ((some (.inl q.1), q.2) : xR) = r) : xq X xe 25 0 [(0, .inr (.inr (11, 5, 79))), (1, .inl a1)] [] M r := by
  unfold f_X1_readOne at h
  refine xq_blk 3 (pc' := 3) (ls' := [(0, .inr (.inr (11, 5, 79))), (1, .inl a1)]) (st' := [.inl a1, .inl a1, .inr (.inr (11, 5, 79))]) (M' := M) rfl ?_
  refine xq_bind h (fun q1 e2 h => ?_)
  refine xq_call (j := 24) (as := [.inr (.inr (11, 5, 79)), .inl a1, .inl a1]) (pc' := 6) (ls' := [(0, .inr (.inr (11, 5, 79))), (1, .inl a1)]) (st' := []) rfl rfl (f_X1_readFrom_ok e2) ?_
  exact (hr _ (Option.some.inj h).symm) ▸ xq_ret rfl
theorem f_X1_readOne_ok {X : List Int32} {a1 : Int32} {M : xM} {p : Int32 × xM} (h : f_X1_readOne a1 M = some p) : xq X xe 25 0 [(0, .inr (.inr (11, 5, 79))), (1, .inl a1)] [] M ((some (.inl p.1), p.2) : xR) := f_X1_readOne_run h (fun q e => by rw [e])
def f_X1_readNumber  (M : xM) : Option (Int32 × xM) := (f_X1_readFrom (49 : Int32) (57 : Int32) M).bind (fun q1 => if q1.1 = (0 : Int32) then (some ((vp_nar .boolean (0 : Int32), q1.2))) else ((f_X1_readFrom (48 : Int32) (57 : Int32) (xd_up q1.2 5 79 6 ((q1.2.1 5 79 2) - (48 : Int32)))).bind (fun q3 => if q3.1 = (0 : Int32) then (some ((vp_nar .boolean (1 : Int32), q3.2))) else (some ((vp_nar .boolean (1 : Int32), xd_up q3.2 5 79 6 ((((q3.2.1 5 79 6) * (10 : Int32)) + (q3.2.1 5 79 2)) - (48 : Int32))))))))
theorem f_X1_readNumber_run {X : List Int32}  {M : xM} {p : Int32 × xM} {r : xR} (h : f_X1_readNumber  M = some p) (hr : ∀ q, p = q → ((some (.inl q.1), q.2) : xR) = r) : xq X xe 27 0 [(0, .inr (.inr (11, 5, 79)))] [] M r := by
  unfold f_X1_readNumber at h
  refine xq_blk 3 (pc' := 5) (ls' := [(0, .inr (.inr (11, 5, 79)))]) (st' := [.inl (57 : Int32), .inl (49 : Int32), .inr (.inr (11, 5, 79))]) (M' := M) rfl ?_
  refine xq_bind h (fun q1 e2 h => ?_)
  refine xq_call (j := 24) (as := [.inr (.inr (11, 5, 79)), .inl (49 : Int32), .inl (57 : Int32)]) (pc' := 8) (ls' := [(0, .inr (.inr (11, 5, 79)))]) (st' := []) rfl rfl (f_X1_readFrom_ok e2) ?_
  refine xq_ite h (fun c6 h => ?_) (fun c6 h => ?_)
  · refine xq_core (pc' := 11) (ls' := [(0, .inr (.inr (11, 5, 79)))]) (st' := []) rfl (if_pos c6) ?_
    refine xq_blk 1 (pc' := 12) (ls' := [(0, .inr (.inr (11, 5, 79)))]) (st' := [.inl (0 : Int32)]) (M' := q1.2) rfl ?_
    exact (hr _ (Option.some.inj h).symm) ▸ xq_ret rfl
  · refine xq_core (pc' := 13) (ls' := [(0, .inr (.inr (11, 5, 79)))]) (st' := []) rfl (if_neg c6) ?_
    refine xq_blk 9 (pc' := 29) (ls' := [(0, .inr (.inr (11, 5, 79)))]) (st' := [.inl (57 : Int32), .inl (48 : Int32), .inr (.inr (11, 5, 79))]) (M' := xd_up q1.2 5 79 6 ((q1.2.1 5 79 2) - (48 : Int32))) rfl ?_
    refine xq_bind h (fun q3 e4 h => ?_)
    refine xq_call (j := 24) (as := [.inr (.inr (11, 5, 79)), .inl (48 : Int32), .inl (57 : Int32)]) (pc' := 32) (ls' := [(0, .inr (.inr (11, 5, 79)))]) (st' := []) rfl rfl (f_X1_readFrom_ok e4) ?_
    refine xq_ite h (fun c5 h => ?_) (fun c5 h => ?_)
    · refine xq_core (pc' := 54) (ls' := [(0, .inr (.inr (11, 5, 79)))]) (st' := []) rfl (if_pos c5) ?_
      refine xq_blk 1 (pc' := 55) (ls' := [(0, .inr (.inr (11, 5, 79)))]) (st' := [.inl (1 : Int32)]) (M' := q3.2) rfl ?_
      exact (hr _ (Option.some.inj h).symm) ▸ xq_ret rfl
    · refine xq_core (pc' := 35) (ls' := [(0, .inr (.inr (11, 5, 79)))]) (st' := []) rfl (if_neg c5) ?_
      refine xq_blk 10 (pc' := 51) (ls' := [(0, .inr (.inr (11, 5, 79)))]) (st' := [.inl ((((q3.2.1 5 79 6) * (10 : Int32)) + (q3.2.1 5 79 2)) - (48 : Int32)), .inr (.inr (11, 5, 79))]) (M' := q3.2) rfl ?_
      refine xq_blk 2 (pc' := 55) (ls' := [(0, .inr (.inr (11, 5, 79)))]) (st' := [.inl (1 : Int32)]) (M' := xd_up q3.2 5 79 6 ((((q3.2.1 5 79 6) * (10 : Int32)) + (q3.2.1 5 79 2)) - (48 : Int32))) rfl ?_
      exact (hr _ (Option.some.inj h).symm) ▸ xq_ret rfl
theorem f_X1_readNumber_ok {X : List Int32}  {M : xM} {p : Int32 × xM} (h : f_X1_readNumber  M = some p) : xq X xe 27 0 [(0, .inr (.inr (11, 5, 79)))] [] M ((some (.inl p.1), p.2) : xR) := f_X1_readNumber_run h (fun q e => by rw [e])
def f_X1_readShed  (M : xM) : Option (Int32 × xM) := (f_X1_readFrom (48 : Int32) (50 : Int32) M).bind (fun q1 => if q1.1 = (0 : Int32) then (some ((vp_nar .boolean (0 : Int32), q1.2))) else (some ((vp_nar .boolean (1 : Int32), xd_up q1.2 5 79 5 ((q1.2.1 5 79 2) - (48 : Int32))))))
theorem f_X1_readShed_run {X : List Int32}  {M : xM} {p : Int32 × xM} {r : xR} (h : f_X1_readShed  M = some p) (hr : ∀ q, p = q → ((some (.inl q.1), q.2) : xR) = r) : xq X xe 26 0 [(0, .inr (.inr (11, 5, 79)))] [] M r := by
  unfold f_X1_readShed at h
  refine xq_blk 3 (pc' := 5) (ls' := [(0, .inr (.inr (11, 5, 79)))]) (st' := [.inl (50 : Int32), .inl (48 : Int32), .inr (.inr (11, 5, 79))]) (M' := M) rfl ?_
  refine xq_bind h (fun q1 e2 h => ?_)
  refine xq_call (j := 24) (as := [.inr (.inr (11, 5, 79)), .inl (48 : Int32), .inl (50 : Int32)]) (pc' := 8) (ls' := [(0, .inr (.inr (11, 5, 79)))]) (st' := []) rfl rfl (f_X1_readFrom_ok e2) ?_
  refine xq_ite h (fun c3 h => ?_) (fun c3 h => ?_)
  · refine xq_core (pc' := 11) (ls' := [(0, .inr (.inr (11, 5, 79)))]) (st' := []) rfl (if_pos c3) ?_
    refine xq_blk 1 (pc' := 12) (ls' := [(0, .inr (.inr (11, 5, 79)))]) (st' := [.inl (0 : Int32)]) (M' := q1.2) rfl ?_
    exact (hr _ (Option.some.inj h).symm) ▸ xq_ret rfl
  · refine xq_core (pc' := 13) (ls' := [(0, .inr (.inr (11, 5, 79)))]) (st' := []) rfl (if_neg c3) ?_
    refine xq_blk 7 (pc' := 25) (ls' := [(0, .inr (.inr (11, 5, 79)))]) (st' := [.inl (1 : Int32)]) (M' := xd_up q1.2 5 79 5 ((q1.2.1 5 79 2) - (48 : Int32))) rfl ?_
    exact (hr _ (Option.some.inj h).symm) ▸ xq_ret rfl
theorem f_X1_readShed_ok {X : List Int32}  {M : xM} {p : Int32 × xM} (h : f_X1_readShed  M = some p) : xq X xe 26 0 [(0, .inr (.inr (11, 5, 79)))] [] M ((some (.inl p.1), p.2) : xR) := f_X1_readShed_run h (fun q e => by rw [e])
def f_X1_readDeedOfPerson  (M : xM) : Option (Int32 × xM) := (f_X3_characterAt (M.1 5 79 1) M).bind (fun q1 => (f_X1_readOne (63 : Int32) (xd_up M 5 79 3 q1)).bind (fun q3 => if q3.1 = (0 : Int32) then ((f_X1_readOne (112 : Int32) q3.2).bind (fun q5 => if q5.1 = (0 : Int32) then ((f_X1_readOne (114 : Int32) q5.2).bind (fun q7 => if q7.1 = (0 : Int32) then ((f_X1_readOne (97 : Int32) q7.2).bind (fun q9 => if q9.1 = (0 : Int32) then ((f_X1_readOne (102 : Int32) q9.2).bind (fun q11 => if q11.1 = (0 : Int32) then (some ((vp_nar .boolean (0 : Int32), q11.2))) else (some ((vp_nar .boolean (1 : Int32), q11.2))))) else (some ((vp_nar .boolean (1 : Int32), q9.2))))) else (some ((vp_nar .boolean (1 : Int32), q7.2))))) else (some ((vp_nar .boolean (1 : Int32), q5.2))))) else ((f_X1_readShed q3.2).bind (fun q17 => if q17.1 = (0 : Int32) then (some ((vp_nar .boolean (0 : Int32), q17.2))) else ((f_X1_readOne (58 : Int32) q17.2).bind (fun q19 => if q19.1 = (0 : Int32) then (some ((vp_nar .boolean (0 : Int32), q19.2))) else ((f_X1_readNumber q19.2).bind (fun q21 => if q21.1 = (0 : Int32) then (some ((vp_nar .boolean (0 : Int32), q21.2))) else (some ((vp_nar .boolean (1 : Int32), q21.2)))))))))))
theorem f_X1_readDeedOfPerson_run {X : List Int32}  {M : xM} {p : Int32 × xM} {r : xR} (h : f_X1_readDeedOfPerson  M = some p) (hr : ∀ q, p = q → ((some (.inl q.1), q.2) : xR) = r) : xq X xe 28 0 [(0, .inr (.inr (11, 5, 79)))] [] M r := by
  unfold f_X1_readDeedOfPerson at h
  refine xq_blk 5 (pc' := 9) (ls' := [(0, .inr (.inr (11, 5, 79)))]) (st' := [.inl (M.1 5 79 1), .inr (.inr (12, 5, 80)), .inr (.inr (11, 5, 79))]) (M' := M) rfl ?_
  refine xq_bind h (fun q1 e2 h => ?_)
  refine xq_call (j := 23) (as := [.inr (.inr (12, 5, 80)), .inl (M.1 5 79 1)]) (pc' := 12) (ls' := [(0, .inr (.inr (11, 5, 79)))]) (st' := [.inr (.inr (11, 5, 79))]) rfl rfl (f_X3_characterAt_ok e2) ?_
  refine xq_blk 3 (pc' := 18) (ls' := [(0, .inr (.inr (11, 5, 79)))]) (st' := [.inl (63 : Int32), .inr (.inr (11, 5, 79))]) (M' := xd_up M 5 79 3 q1) rfl ?_
  refine xq_bind h (fun q3 e4 h => ?_)
  refine xq_call (j := 25) (as := [.inr (.inr (11, 5, 79)), .inl (63 : Int32)]) (pc' := 21) (ls' := [(0, .inr (.inr (11, 5, 79)))]) (st' := []) rfl rfl (f_X1_readOne_ok e4) ?_
  refine xq_ite h (fun c26 h => ?_) (fun c26 h => ?_)
  · refine xq_core (pc' := 53) (ls' := [(0, .inr (.inr (11, 5, 79)))]) (st' := []) rfl (if_pos c26) ?_
    refine xq_blk 2 (pc' := 56) (ls' := [(0, .inr (.inr (11, 5, 79)))]) (st' := [.inl (112 : Int32), .inr (.inr (11, 5, 79))]) (M' := q3.2) rfl ?_
    refine xq_bind h (fun q5 e6 h => ?_)
    refine xq_call (j := 25) (as := [.inr (.inr (11, 5, 79)), .inl (112 : Int32)]) (pc' := 59) (ls' := [(0, .inr (.inr (11, 5, 79)))]) (st' := []) rfl rfl (f_X1_readOne_ok e6) ?_
    refine xq_ite h (fun c16 h => ?_) (fun c16 h => ?_)
    · refine xq_core (pc' := 62) (ls' := [(0, .inr (.inr (11, 5, 79)))]) (st' := []) rfl (if_pos c16) ?_
      refine xq_blk 2 (pc' := 65) (ls' := [(0, .inr (.inr (11, 5, 79)))]) (st' := [.inl (114 : Int32), .inr (.inr (11, 5, 79))]) (M' := q5.2) rfl ?_
      refine xq_bind h (fun q7 e8 h => ?_)
      refine xq_call (j := 25) (as := [.inr (.inr (11, 5, 79)), .inl (114 : Int32)]) (pc' := 68) (ls' := [(0, .inr (.inr (11, 5, 79)))]) (st' := []) rfl rfl (f_X1_readOne_ok e8) ?_
      refine xq_ite h (fun c15 h => ?_) (fun c15 h => ?_)
      · refine xq_core (pc' := 71) (ls' := [(0, .inr (.inr (11, 5, 79)))]) (st' := []) rfl (if_pos c15) ?_
        refine xq_blk 2 (pc' := 74) (ls' := [(0, .inr (.inr (11, 5, 79)))]) (st' := [.inl (97 : Int32), .inr (.inr (11, 5, 79))]) (M' := q7.2) rfl ?_
        refine xq_bind h (fun q9 e10 h => ?_)
        refine xq_call (j := 25) (as := [.inr (.inr (11, 5, 79)), .inl (97 : Int32)]) (pc' := 77) (ls' := [(0, .inr (.inr (11, 5, 79)))]) (st' := []) rfl rfl (f_X1_readOne_ok e10) ?_
        refine xq_ite h (fun c14 h => ?_) (fun c14 h => ?_)
        · refine xq_core (pc' := 80) (ls' := [(0, .inr (.inr (11, 5, 79)))]) (st' := []) rfl (if_pos c14) ?_
          refine xq_blk 2 (pc' := 83) (ls' := [(0, .inr (.inr (11, 5, 79)))]) (st' := [.inl (102 : Int32), .inr (.inr (11, 5, 79))]) (M' := q9.2) rfl ?_
          refine xq_bind h (fun q11 e12 h => ?_)
          refine xq_call (j := 25) (as := [.inr (.inr (11, 5, 79)), .inl (102 : Int32)]) (pc' := 86) (ls' := [(0, .inr (.inr (11, 5, 79)))]) (st' := []) rfl rfl (f_X1_readOne_ok e12) ?_
          refine xq_ite h (fun c13 h => ?_) (fun c13 h => ?_)
          · refine xq_core (pc' := 93) (ls' := [(0, .inr (.inr (11, 5, 79)))]) (st' := []) rfl (if_pos c13) ?_
            refine xq_blk 1 (pc' := 94) (ls' := [(0, .inr (.inr (11, 5, 79)))]) (st' := [.inl (0 : Int32)]) (M' := q11.2) rfl ?_
            exact (hr _ (Option.some.inj h).symm) ▸ xq_ret rfl
          · refine xq_core (pc' := 89) (ls' := [(0, .inr (.inr (11, 5, 79)))]) (st' := []) rfl (if_neg c13) ?_
            refine xq_blk 2 (pc' := 94) (ls' := [(0, .inr (.inr (11, 5, 79)))]) (st' := [.inl (1 : Int32)]) (M' := q11.2) rfl ?_
            exact (hr _ (Option.some.inj h).symm) ▸ xq_ret rfl
        · refine xq_core (pc' := 89) (ls' := [(0, .inr (.inr (11, 5, 79)))]) (st' := []) rfl (if_neg c14) ?_
          refine xq_blk 2 (pc' := 94) (ls' := [(0, .inr (.inr (11, 5, 79)))]) (st' := [.inl (1 : Int32)]) (M' := q9.2) rfl ?_
          exact (hr _ (Option.some.inj h).symm) ▸ xq_ret rfl
      · refine xq_core (pc' := 89) (ls' := [(0, .inr (.inr (11, 5, 79)))]) (st' := []) rfl (if_neg c15) ?_
        refine xq_blk 2 (pc' := 94) (ls' := [(0, .inr (.inr (11, 5, 79)))]) (st' := [.inl (1 : Int32)]) (M' := q7.2) rfl ?_
        exact (hr _ (Option.some.inj h).symm) ▸ xq_ret rfl
    · refine xq_core (pc' := 89) (ls' := [(0, .inr (.inr (11, 5, 79)))]) (st' := []) rfl (if_neg c16) ?_
      refine xq_blk 2 (pc' := 94) (ls' := [(0, .inr (.inr (11, 5, 79)))]) (st' := [.inl (1 : Int32)]) (M' := q5.2) rfl ?_
      exact (hr _ (Option.some.inj h).symm) ▸ xq_ret rfl
  · refine xq_core (pc' := 24) (ls' := [(0, .inr (.inr (11, 5, 79)))]) (st' := []) rfl (if_neg c26) ?_
    refine xq_blk 1 (pc' := 25) (ls' := [(0, .inr (.inr (11, 5, 79)))]) (st' := [.inr (.inr (11, 5, 79))]) (M' := q3.2) rfl ?_
    refine xq_bind h (fun q17 e18 h => ?_)
    refine xq_call (j := 26) (as := [.inr (.inr (11, 5, 79))]) (pc' := 28) (ls' := [(0, .inr (.inr (11, 5, 79)))]) (st' := []) rfl rfl (f_X1_readShed_ok e18) ?_
    refine xq_ite h (fun c25 h => ?_) (fun c25 h => ?_)
    · refine xq_core (pc' := 51) (ls' := [(0, .inr (.inr (11, 5, 79)))]) (st' := []) rfl (if_pos c25) ?_
      refine xq_blk 1 (pc' := 52) (ls' := [(0, .inr (.inr (11, 5, 79)))]) (st' := [.inl (0 : Int32)]) (M' := q17.2) rfl ?_
      exact (hr _ (Option.some.inj h).symm) ▸ xq_ret rfl
    · refine xq_core (pc' := 31) (ls' := [(0, .inr (.inr (11, 5, 79)))]) (st' := []) rfl (if_neg c25) ?_
      refine xq_blk 2 (pc' := 34) (ls' := [(0, .inr (.inr (11, 5, 79)))]) (st' := [.inl (58 : Int32), .inr (.inr (11, 5, 79))]) (M' := q17.2) rfl ?_
      refine xq_bind h (fun q19 e20 h => ?_)
      refine xq_call (j := 25) (as := [.inr (.inr (11, 5, 79)), .inl (58 : Int32)]) (pc' := 37) (ls' := [(0, .inr (.inr (11, 5, 79)))]) (st' := []) rfl rfl (f_X1_readOne_ok e20) ?_
      refine xq_ite h (fun c24 h => ?_) (fun c24 h => ?_)
      · refine xq_core (pc' := 51) (ls' := [(0, .inr (.inr (11, 5, 79)))]) (st' := []) rfl (if_pos c24) ?_
        refine xq_blk 1 (pc' := 52) (ls' := [(0, .inr (.inr (11, 5, 79)))]) (st' := [.inl (0 : Int32)]) (M' := q19.2) rfl ?_
        exact (hr _ (Option.some.inj h).symm) ▸ xq_ret rfl
      · refine xq_core (pc' := 40) (ls' := [(0, .inr (.inr (11, 5, 79)))]) (st' := []) rfl (if_neg c24) ?_
        refine xq_blk 1 (pc' := 41) (ls' := [(0, .inr (.inr (11, 5, 79)))]) (st' := [.inr (.inr (11, 5, 79))]) (M' := q19.2) rfl ?_
        refine xq_bind h (fun q21 e22 h => ?_)
        refine xq_call (j := 27) (as := [.inr (.inr (11, 5, 79))]) (pc' := 44) (ls' := [(0, .inr (.inr (11, 5, 79)))]) (st' := []) rfl rfl (f_X1_readNumber_ok e22) ?_
        refine xq_ite h (fun c23 h => ?_) (fun c23 h => ?_)
        · refine xq_core (pc' := 51) (ls' := [(0, .inr (.inr (11, 5, 79)))]) (st' := []) rfl (if_pos c23) ?_
          refine xq_blk 1 (pc' := 52) (ls' := [(0, .inr (.inr (11, 5, 79)))]) (st' := [.inl (0 : Int32)]) (M' := q21.2) rfl ?_
          exact (hr _ (Option.some.inj h).symm) ▸ xq_ret rfl
        · refine xq_core (pc' := 47) (ls' := [(0, .inr (.inr (11, 5, 79)))]) (st' := []) rfl (if_neg c23) ?_
          refine xq_blk 2 (pc' := 52) (ls' := [(0, .inr (.inr (11, 5, 79)))]) (st' := [.inl (1 : Int32)]) (M' := q21.2) rfl ?_
          exact (hr _ (Option.some.inj h).symm) ▸ xq_ret rfl
theorem f_X1_readDeedOfPerson_ok {X : List Int32}  {M : xM} {p : Int32 × xM} (h : f_X1_readDeedOfPerson  M = some p) : xq X xe 28 0 [(0, .inr (.inr (11, 5, 79)))] [] M ((some (.inl p.1), p.2) : xR) := f_X1_readDeedOfPerson_run h (fun q e => by rw [e])
def f_X1_readDeed  (M : xM) : Option (Int32 × xM) := (f_X1_readFrom (65 : Int32) (84 : Int32) M).bind (fun q1 => if q1.1 = (0 : Int32) then ((f_X3_characterAt (q1.2.1 5 79 1) q1.2).bind (fun q3 => (f_X1_readOne (115 : Int32) (xd_up q1.2 5 79 3 q3)).bind (fun q5 => if q5.1 = (0 : Int32) then ((f_X1_readOne (46 : Int32) q5.2).bind (fun q7 => if q7.1 = (0 : Int32) then (some ((vp_nar .boolean (0 : Int32), q7.2))) else ((f_X1_readNumber q7.2).bind (fun q9 => if q9.1 = (0 : Int32) then (some ((vp_nar .boolean (0 : Int32), q9.2))) else (some ((vp_nar .boolean (1 : Int32), q9.2))))))) else ((f_X1_readShed q5.2).bind (fun q13 => some ((vp_nar .boolean q13.1, q13.2))))))) else ((f_X1_readDeedOfPerson (xd_up q1.2 5 79 4 ((q1.2.1 5 79 2) - (65 : Int32)))).bind (fun q16 => some ((vp_nar .boolean q16.1, q16.2)))))
theorem f_X1_readDeed_run {X : List Int32}  {M : xM} {p : Int32 × xM} {r : xR} (h : f_X1_readDeed  M = some p) (hr : ∀ q, p = q → ((some (.inl q.1), q.2) : xR) = r) : xq X xe 29 0 [(0, .inr (.inr (11, 5, 79)))] [] M r := by
  unfold f_X1_readDeed at h
  refine xq_blk 3 (pc' := 5) (ls' := [(0, .inr (.inr (11, 5, 79)))]) (st' := [.inl (84 : Int32), .inl (65 : Int32), .inr (.inr (11, 5, 79))]) (M' := M) rfl ?_
  refine xq_bind h (fun q1 e2 h => ?_)
  refine xq_call (j := 24) (as := [.inr (.inr (11, 5, 79)), .inl (65 : Int32), .inl (84 : Int32)]) (pc' := 8) (ls' := [(0, .inr (.inr (11, 5, 79)))]) (st' := []) rfl rfl (f_X1_readFrom_ok e2) ?_
  refine xq_ite h (fun c18 h => ?_) (fun c18 h => ?_)
  · refine xq_core (pc' := 27) (ls' := [(0, .inr (.inr (11, 5, 79)))]) (st' := []) rfl (if_pos c18) ?_
    refine xq_blk 5 (pc' := 36) (ls' := [(0, .inr (.inr (11, 5, 79)))]) (st' := [.inl (q1.2.1 5 79 1), .inr (.inr (12, 5, 80)), .inr (.inr (11, 5, 79))]) (M' := q1.2) rfl ?_
    refine xq_bind h (fun q3 e4 h => ?_)
    refine xq_call (j := 23) (as := [.inr (.inr (12, 5, 80)), .inl (q1.2.1 5 79 1)]) (pc' := 39) (ls' := [(0, .inr (.inr (11, 5, 79)))]) (st' := [.inr (.inr (11, 5, 79))]) rfl rfl (f_X3_characterAt_ok e4) ?_
    refine xq_blk 3 (pc' := 45) (ls' := [(0, .inr (.inr (11, 5, 79)))]) (st' := [.inl (115 : Int32), .inr (.inr (11, 5, 79))]) (M' := xd_up q1.2 5 79 3 q3) rfl ?_
    refine xq_bind h (fun q5 e6 h => ?_)
    refine xq_call (j := 25) (as := [.inr (.inr (11, 5, 79)), .inl (115 : Int32)]) (pc' := 48) (ls' := [(0, .inr (.inr (11, 5, 79)))]) (st' := []) rfl rfl (f_X1_readOne_ok e6) ?_
    refine xq_ite h (fun c15 h => ?_) (fun c15 h => ?_)
    · refine xq_core (pc' := 56) (ls' := [(0, .inr (.inr (11, 5, 79)))]) (st' := []) rfl (if_pos c15) ?_
      refine xq_blk 2 (pc' := 59) (ls' := [(0, .inr (.inr (11, 5, 79)))]) (st' := [.inl (46 : Int32), .inr (.inr (11, 5, 79))]) (M' := q5.2) rfl ?_
      refine xq_bind h (fun q7 e8 h => ?_)
      refine xq_call (j := 25) (as := [.inr (.inr (11, 5, 79)), .inl (46 : Int32)]) (pc' := 62) (ls' := [(0, .inr (.inr (11, 5, 79)))]) (st' := []) rfl rfl (f_X1_readOne_ok e8) ?_
      refine xq_ite h (fun c12 h => ?_) (fun c12 h => ?_)
      · refine xq_core (pc' := 76) (ls' := [(0, .inr (.inr (11, 5, 79)))]) (st' := []) rfl (if_pos c12) ?_
        refine xq_blk 1 (pc' := 77) (ls' := [(0, .inr (.inr (11, 5, 79)))]) (st' := [.inl (0 : Int32)]) (M' := q7.2) rfl ?_
        exact (hr _ (Option.some.inj h).symm) ▸ xq_ret rfl
      · refine xq_core (pc' := 65) (ls' := [(0, .inr (.inr (11, 5, 79)))]) (st' := []) rfl (if_neg c12) ?_
        refine xq_blk 1 (pc' := 66) (ls' := [(0, .inr (.inr (11, 5, 79)))]) (st' := [.inr (.inr (11, 5, 79))]) (M' := q7.2) rfl ?_
        refine xq_bind h (fun q9 e10 h => ?_)
        refine xq_call (j := 27) (as := [.inr (.inr (11, 5, 79))]) (pc' := 69) (ls' := [(0, .inr (.inr (11, 5, 79)))]) (st' := []) rfl rfl (f_X1_readNumber_ok e10) ?_
        refine xq_ite h (fun c11 h => ?_) (fun c11 h => ?_)
        · refine xq_core (pc' := 76) (ls' := [(0, .inr (.inr (11, 5, 79)))]) (st' := []) rfl (if_pos c11) ?_
          refine xq_blk 1 (pc' := 77) (ls' := [(0, .inr (.inr (11, 5, 79)))]) (st' := [.inl (0 : Int32)]) (M' := q9.2) rfl ?_
          exact (hr _ (Option.some.inj h).symm) ▸ xq_ret rfl
        · refine xq_core (pc' := 72) (ls' := [(0, .inr (.inr (11, 5, 79)))]) (st' := []) rfl (if_neg c11) ?_
          refine xq_blk 2 (pc' := 77) (ls' := [(0, .inr (.inr (11, 5, 79)))]) (st' := [.inl (1 : Int32)]) (M' := q9.2) rfl ?_
          exact (hr _ (Option.some.inj h).symm) ▸ xq_ret rfl
    · refine xq_core (pc' := 51) (ls' := [(0, .inr (.inr (11, 5, 79)))]) (st' := []) rfl (if_neg c15) ?_
      refine xq_blk 1 (pc' := 52) (ls' := [(0, .inr (.inr (11, 5, 79)))]) (st' := [.inr (.inr (11, 5, 79))]) (M' := q5.2) rfl ?_
      refine xq_bind h (fun q13 e14 h => ?_)
      refine xq_call (j := 26) (as := [.inr (.inr (11, 5, 79))]) (pc' := 55) (ls' := [(0, .inr (.inr (11, 5, 79)))]) (st' := []) rfl rfl (f_X1_readShed_ok e14) ?_
      exact (hr _ (Option.some.inj h).symm) ▸ xq_ret rfl
  · refine xq_core (pc' := 11) (ls' := [(0, .inr (.inr (11, 5, 79)))]) (st' := []) rfl (if_neg c18) ?_
    refine xq_blk 7 (pc' := 23) (ls' := [(0, .inr (.inr (11, 5, 79)))]) (st' := [.inr (.inr (11, 5, 79))]) (M' := xd_up q1.2 5 79 4 ((q1.2.1 5 79 2) - (65 : Int32))) rfl ?_
    refine xq_bind h (fun q16 e17 h => ?_)
    refine xq_call (j := 28) (as := [.inr (.inr (11, 5, 79))]) (pc' := 26) (ls' := [(0, .inr (.inr (11, 5, 79)))]) (st' := []) rfl rfl (f_X1_readDeedOfPerson_ok e17) ?_
    exact (hr _ (Option.some.inj h).symm) ▸ xq_ret rfl
theorem f_X1_readDeed_ok {X : List Int32}  {M : xM} {p : Int32 × xM} (h : f_X1_readDeed  M = some p) : xq X xe 29 0 [(0, .inr (.inr (11, 5, 79)))] [] M ((some (.inl p.1), p.2) : xR) := f_X1_readDeed_run h (fun q e => by rw [e])
def f_X1_readSemicolon  (M : xM) : Option (Int32 × xM) := (f_X1_readOne (59 : Int32) M).bind (fun q1 => some ((vp_nar .boolean q1.1, q1.2)))
theorem f_X1_readSemicolon_run {X : List Int32}  {M : xM} {p : Int32 × xM} {r : xR} (h : f_X1_readSemicolon  M = some p) (hr : ∀ q, p = q → ((some (.inl q.1), q.2) : xR) = r) : xq X xe 30 0 [(0, .inr (.inr (11, 5, 79)))] [] M r := by
  unfold f_X1_readSemicolon at h
  refine xq_blk 2 (pc' := 3) (ls' := [(0, .inr (.inr (11, 5, 79)))]) (st' := [.inl (59 : Int32), .inr (.inr (11, 5, 79))]) (M' := M) rfl ?_
  refine xq_bind h (fun q1 e2 h => ?_)
  refine xq_call (j := 25) (as := [.inr (.inr (11, 5, 79)), .inl (59 : Int32)]) (pc' := 6) (ls' := [(0, .inr (.inr (11, 5, 79)))]) (st' := []) rfl rfl (f_X1_readOne_ok e2) ?_
  exact (hr _ (Option.some.inj h).symm) ▸ xq_ret rfl
theorem f_X1_readSemicolon_ok {X : List Int32}  {M : xM} {p : Int32 × xM} (h : f_X1_readSemicolon  M = some p) : xq X xe 30 0 [(0, .inr (.inr (11, 5, 79)))] [] M ((some (.inl p.1), p.2) : xR) := f_X1_readSemicolon_run h (fun q e => by rw [e])
def f_X1_findFault_l6  (s6 : Int32 × xM) : Option ((Int32 × xM) ⊕ (Int32 × xM)) := if s6.1 < (60 : Int32) then ((f_X1_readDeed s6.2).bind (fun q3 => if q3.1 = (0 : Int32) then (Option.map Sum.inr (some ((q3.2.1 5 79 1, q3.2)))) else ((f_X1_readSemicolon q3.2).bind (fun q5 => if q5.1 = (0 : Int32) then (Option.map Sum.inr (if (q5.2.1 5 79 1) = (q5.2.1 5 80 1) then (some (((-6 : Int32), q5.2))) else (some ((q5.2.1 5 79 1, q5.2))))) else (some (.inl (s6.1 + (1 : Int32), q5.2))))))) else (Option.map Sum.inr (some ((s6.2.1 5 79 1, s6.2))))
theorem f_X1_findFault_l6_ok {X : List Int32}  {s6 : Int32 × xM} {p : (Int32 × xM) ⊕ (Int32 × xM)} {r : xR} (h : f_X1_findFault_l6  s6 = some p) (h0 : ∀ s', p = .inl s' → xq X xe 31 6 [(0, .inr (.inr (11, 5, 79))), (1, .inl s'.1)] [] s'.2 r) (hr : ∀ q, p = .inr (q) → ((some (.inl q.1), q.2) : xR) = r) : xq X xe 31 6 [(0, .inr (.inr (11, 5, 79))), (1, .inl s6.1)] [] s6.2 r := by
  unfold f_X1_findFault_l6 at h
  refine xq_blk 2 (pc' := 9) (ls' := [(0, .inr (.inr (11, 5, 79))), (1, .inl s6.1)]) (st' := [.inl (60 : Int32), .inl s6.1]) (M' := s6.2) rfl ?_
  refine xq_ite h (fun c10 h => ?_) (fun c10 h => ?_)
  · refine xq_core (pc' := 12) (ls' := [(0, .inr (.inr (11, 5, 79))), (1, .inl s6.1)]) (st' := []) rfl (if_pos c10) ?_
    refine xq_blk 1 (pc' := 13) (ls' := [(0, .inr (.inr (11, 5, 79))), (1, .inl s6.1)]) (st' := [.inr (.inr (11, 5, 79))]) (M' := s6.2) rfl ?_
    refine xq_bind h (fun q3 e4 h => ?_)
    refine xq_call (j := 29) (as := [.inr (.inr (11, 5, 79))]) (pc' := 16) (ls' := [(0, .inr (.inr (11, 5, 79))), (1, .inl s6.1)]) (st' := []) rfl rfl (f_X1_readDeed_ok e4) ?_
    refine xq_ite h (fun c9 h => ?_) (fun c9 h => ?_)
    · refine xq_core (pc' := 19) (ls' := [(0, .inr (.inr (11, 5, 79))), (1, .inl s6.1)]) (st' := []) rfl (if_pos c9) ?_
      refine xq_map h (fun p h e => ?_)
      replace hr := fun q e' => hr q (e.symm.trans (congrArg Sum.inr e'))
      clear e
      refine xq_blk 2 (pc' := 23) (ls' := [(0, .inr (.inr (11, 5, 79))), (1, .inl s6.1)]) (st' := [.inl (q3.2.1 5 79 1)]) (M' := q3.2) rfl ?_
      exact (hr _ (Option.some.inj h).symm) ▸ xq_ret rfl
    · refine xq_core (pc' := 24) (ls' := [(0, .inr (.inr (11, 5, 79))), (1, .inl s6.1)]) (st' := []) rfl (if_neg c9) ?_
      refine xq_blk 1 (pc' := 25) (ls' := [(0, .inr (.inr (11, 5, 79))), (1, .inl s6.1)]) (st' := [.inr (.inr (11, 5, 79))]) (M' := q3.2) rfl ?_
      refine xq_bind h (fun q5 e6 h => ?_)
      refine xq_call (j := 30) (as := [.inr (.inr (11, 5, 79))]) (pc' := 28) (ls' := [(0, .inr (.inr (11, 5, 79))), (1, .inl s6.1)]) (st' := []) rfl rfl (f_X1_readSemicolon_ok e6) ?_
      refine xq_ite h (fun c8 h => ?_) (fun c8 h => ?_)
      · refine xq_core (pc' := 31) (ls' := [(0, .inr (.inr (11, 5, 79))), (1, .inl s6.1)]) (st' := []) rfl (if_pos c8) ?_
        refine xq_map h (fun p h e => ?_)
        replace hr := fun q e' => hr q (e.symm.trans (congrArg Sum.inr e'))
        clear e
        refine xq_blk 5 (pc' := 42) (ls' := [(0, .inr (.inr (11, 5, 79))), (1, .inl s6.1)]) (st' := [.inl (q5.2.1 5 80 1), .inl (q5.2.1 5 79 1)]) (M' := q5.2) rfl ?_
        refine xq_ite h (fun c7 h => ?_) (fun c7 h => ?_)
        · refine xq_core (pc' := 45) (ls' := [(0, .inr (.inr (11, 5, 79))), (1, .inl s6.1)]) (st' := []) rfl (if_pos c7) ?_
          refine xq_blk 2 (pc' := 54) (ls' := [(0, .inr (.inr (11, 5, 79))), (1, .inl s6.1)]) (st' := [.inl (-6 : Int32)]) (M' := q5.2) rfl ?_
          exact (hr _ (Option.some.inj h).symm) ▸ xq_ret rfl
        · refine xq_core (pc' := 50) (ls' := [(0, .inr (.inr (11, 5, 79))), (1, .inl s6.1)]) (st' := []) rfl (if_neg c7) ?_
          refine xq_blk 2 (pc' := 54) (ls' := [(0, .inr (.inr (11, 5, 79))), (1, .inl s6.1)]) (st' := [.inl (q5.2.1 5 79 1)]) (M' := q5.2) rfl ?_
          exact (hr _ (Option.some.inj h).symm) ▸ xq_ret rfl
      · refine xq_core (pc' := 55) (ls' := [(0, .inr (.inr (11, 5, 79))), (1, .inl s6.1)]) (st' := []) rfl (if_neg c8) ?_
        refine xq_blk 2 (pc' := 6) (ls' := [(1, .inl (s6.1 + (1 : Int32))), (0, .inr (.inr (11, 5, 79)))]) (st' := []) (M' := q5.2) rfl ?_
        exact xq_sub (a := [(0, .inr (.inr (11, 5, 79))), (1, .inl ((s6.1 + (1 : Int32), q5.2).1))]) ⟨rfl, rfl, trivial⟩ rfl (h0 (s6.1 + (1 : Int32), q5.2) (Option.some.inj h).symm)
  · refine xq_core (pc' := 61) (ls' := [(0, .inr (.inr (11, 5, 79))), (1, .inl s6.1)]) (st' := []) rfl (if_neg c10) ?_
    refine xq_map h (fun p h e => ?_)
    replace hr := fun q e' => hr q (e.symm.trans (congrArg Sum.inr e'))
    clear e
    refine xq_blk 2 (pc' := 65) (ls' := [(0, .inr (.inr (11, 5, 79))), (1, .inl s6.1)]) (st' := [.inl (s6.2.1 5 79 1)]) (M' := s6.2) rfl ?_
    exact (hr _ (Option.some.inj h).symm) ▸ xq_ret rfl
def f_X1_findFault  (M : xM) : Option (Int32 × xM) := (f_X1_goToStart M).bind (fun q1 => xlp (f_X1_findFault_l6) 4000 ((0 : Int32), q1))
theorem f_X1_findFault_run {X : List Int32}  {M : xM} {p : Int32 × xM} {r : xR} (h : f_X1_findFault  M = some p) (hr : ∀ q, p = q → ((some (.inl q.1), q.2) : xR) = r) : xq X xe 31 0 [(0, .inr (.inr (11, 5, 79)))] [] M r := by
  unfold f_X1_findFault at h
  refine xq_blk 1 (pc' := 1) (ls' := [(0, .inr (.inr (11, 5, 79)))]) (st' := [.inr (.inr (11, 5, 79))]) (M' := M) rfl ?_
  refine xq_bind h (fun q1 e2 h => ?_)
  refine xq_call (j := 22) (as := [.inr (.inr (11, 5, 79))]) (pc' := 4) (ls' := [(0, .inr (.inr (11, 5, 79)))]) (st' := []) rfl rfl (f_X1_goToStart_ok e2) ?_
  refine xq_blk 2 (pc' := 6) (ls' := [(1, .inl (0 : Int32)), (0, .inr (.inr (11, 5, 79)))]) (st' := []) (M' := q1) rfl ?_
  refine xq_sub (a := [(0, .inr (.inr (11, 5, 79))), (1, .inl (0 : Int32))]) ⟨rfl, rfl, trivial⟩ rfl ?_
  exact xlp_ok (P := fun s6 => xq X xe 31 6 [(0, .inr (.inr (11, 5, 79))), (1, .inl s6.1)] [] s6.2 r) (fun s p' hb g0 g1 => f_X1_findFault_l6_ok hb g0 (fun q e => hr q (g1 _ e).symm)) 4000 _ h
theorem f_X1_findFault_ok {X : List Int32}  {M : xM} {p : Int32 × xM} (h : f_X1_findFault  M = some p) : xq X xe 31 0 [(0, .inr (.inr (11, 5, 79)))] [] M ((some (.inl p.1), p.2) : xR) := f_X1_findFault_run h (fun q e => by rw [e])
def f_X3_clear  (M : xM) : Option (Int32 × xM) := some ((M.1 5 80 1, xd_up M 5 80 1 (0 : Int32)))
theorem f_X3_clear_run {X : List Int32}  {M : xM} {p : Int32 × xM} {r : xR} (h : f_X3_clear  M = some p) (hr : ∀ q, p = q → ((some (.inl q.1), q.2) : xR) = r) : xq X xe 45 0 [(0, .inr (.inr (12, 5, 80)))] [] M r := by
  unfold f_X3_clear at h
  refine xq_blk 7 (pc' := 11) (ls' := [(1, .inl (M.1 5 80 1)), (0, .inr (.inr (12, 5, 80)))]) (st' := [.inl (M.1 5 80 1)]) (M' := xd_up M 5 80 1 (0 : Int32)) rfl ?_
  exact (hr _ (Option.some.inj h).symm) ▸ xq_ret rfl
theorem f_X3_clear_ok {X : List Int32}  {M : xM} {p : Int32 × xM} (h : f_X3_clear  M = some p) : xq X xe 45 0 [(0, .inr (.inr (12, 5, 80)))] [] M ((some (.inl p.1), p.2) : xR) := f_X3_clear_run h (fun q e => by rw [e])
def f_X6_doDeed  (M : xM) : Option (Int32 × xM) := if (M.1 5 79 3) = (63 : Int32) then ((f_X5_askFor 2 (M.1 5 79 4) (M.1 5 79 5) (M.1 5 79 6) M).bind (fun q1 => some ((q1.1, q1.2)))) else (if (M.1 5 79 3) = (97 : Int32) then ((f_X5_answerFor 2 (M.1 5 79 4) M).bind (fun q4 => some ((q4.1, q4.2)))) else (if (M.1 5 79 3) = (102 : Int32) then ((f_X5_fetchFromPound 2 (M.1 5 79 4) M).bind (fun q7 => some ((q7.1, q7.2)))) else (if (M.1 5 79 3) = (112 : Int32) then ((f_X5_parkBicycle 2 (M.1 5 79 4) M).bind (fun q10 => some ((q10.1, q10.2)))) else (if (M.1 5 79 3) = (114 : Int32) then ((f_X5_rideAway 2 (M.1 5 79 4) M).bind (fun q13 => some ((q13.1, q13.2)))) else (if (M.1 5 79 3) = (115 : Int32) then ((f_X5_sweepShed 2 (M.1 5 79 5) M).bind (fun q16 => some ((q16.1, q16.2)))) else ((f_X5_letPass 2 (M.1 5 79 6) M).bind (fun q19 => some ((q19.1, q19.2)))))))))
theorem f_X6_doDeed_run {X : List Int32}  {M : xM} {p : Int32 × xM} {r : xR} (h : f_X6_doDeed  M = some p) (hr : ∀ q, p = q → ((some (.inl q.1), q.2) : xR) = r) : xq X xe 101 0 [(0, .inr (.inr (7, 5, 0)))] [] M r := by
  unfold f_X6_doDeed at h
  refine xq_blk 3 (pc' := 7) (ls' := [(0, .inr (.inr (7, 5, 0)))]) (st' := [.inl (M.1 5 79 3)]) (M' := M) rfl ?_
  refine xq_ite h (fun c3 h => ?_) (fun c3 h => ?_)
  · refine xq_lsw (pc' := 64) (ls' := [(0, .inr (.inr (7, 5, 0)))]) (st' := []) rfl rfl (if_pos c3) ?_
    refine xq_blk 10 (pc' := 86) (ls' := [(0, .inr (.inr (7, 5, 0)))]) (st' := [.inr (.inr (11, 5, 79)), .inl (M.1 5 79 5), .inl (M.1 5 79 4), .inr (.inr (0, 2, 0))]) (M' := M) rfl ?_
    refine xq_blk 1 (pc' := 89) (ls' := [(0, .inr (.inr (7, 5, 0)))]) (st' := [.inl (M.1 5 79 6), .inl (M.1 5 79 5), .inl (M.1 5 79 4), .inr (.inr (0, 2, 0))]) (M' := M) rfl ?_
    refine xq_bind h (fun q1 e2 h => ?_)
    refine xq_call (j := 67) (as := [.inr (.inr (0, 2, 0)), .inl (M.1 5 79 4), .inl (M.1 5 79 5), .inl (M.1 5 79 6)]) (pc' := 92) (ls' := [(0, .inr (.inr (7, 5, 0)))]) (st' := []) rfl rfl (f_X5_askFor_ok e2) ?_
    exact (hr _ (Option.some.inj h).symm) ▸ xq_ret rfl
  · refine xq_ite h (fun c6 h => ?_) (fun c6 h => ?_)
    · refine xq_lsw (pc' := 123) (ls' := [(0, .inr (.inr (7, 5, 0)))]) (st' := []) rfl rfl (Eq.trans (if_neg c3) (if_pos c6)) ?_
      refine xq_blk 5 (pc' := 134) (ls' := [(0, .inr (.inr (7, 5, 0)))]) (st' := [.inl (M.1 5 79 4), .inr (.inr (0, 2, 0))]) (M' := M) rfl ?_
      refine xq_bind h (fun q4 e5 h => ?_)
      refine xq_call (j := 73) (as := [.inr (.inr (0, 2, 0)), .inl (M.1 5 79 4)]) (pc' := 137) (ls' := [(0, .inr (.inr (7, 5, 0)))]) (st' := []) rfl rfl (f_X5_answerFor_ok e5) ?_
      exact (hr _ (Option.some.inj h).symm) ▸ xq_ret rfl
    · refine xq_ite h (fun c9 h => ?_) (fun c9 h => ?_)
      · refine xq_lsw (pc' := 138) (ls' := [(0, .inr (.inr (7, 5, 0)))]) (st' := []) rfl rfl (Eq.trans (if_neg c3) (Eq.trans (if_neg c6) (if_pos c9))) ?_
        refine xq_blk 5 (pc' := 149) (ls' := [(0, .inr (.inr (7, 5, 0)))]) (st' := [.inl (M.1 5 79 4), .inr (.inr (0, 2, 0))]) (M' := M) rfl ?_
        refine xq_bind h (fun q7 e8 h => ?_)
        refine xq_call (j := 74) (as := [.inr (.inr (0, 2, 0)), .inl (M.1 5 79 4)]) (pc' := 152) (ls' := [(0, .inr (.inr (7, 5, 0)))]) (st' := []) rfl rfl (f_X5_fetchFromPound_ok e8) ?_
        exact (hr _ (Option.some.inj h).symm) ▸ xq_ret rfl
      · refine xq_ite h (fun c12 h => ?_) (fun c12 h => ?_)
        · refine xq_lsw (pc' := 93) (ls' := [(0, .inr (.inr (7, 5, 0)))]) (st' := []) rfl rfl (Eq.trans (if_neg c3) (Eq.trans (if_neg c6) (Eq.trans (if_neg c9) (if_pos c12)))) ?_
          refine xq_blk 5 (pc' := 104) (ls' := [(0, .inr (.inr (7, 5, 0)))]) (st' := [.inl (M.1 5 79 4), .inr (.inr (0, 2, 0))]) (M' := M) rfl ?_
          refine xq_bind h (fun q10 e11 h => ?_)
          refine xq_call (j := 71) (as := [.inr (.inr (0, 2, 0)), .inl (M.1 5 79 4)]) (pc' := 107) (ls' := [(0, .inr (.inr (7, 5, 0)))]) (st' := []) rfl rfl (f_X5_parkBicycle_ok e11) ?_
          exact (hr _ (Option.some.inj h).symm) ▸ xq_ret rfl
        · refine xq_ite h (fun c15 h => ?_) (fun c15 h => ?_)
          · refine xq_lsw (pc' := 108) (ls' := [(0, .inr (.inr (7, 5, 0)))]) (st' := []) rfl rfl (Eq.trans (if_neg c3) (Eq.trans (if_neg c6) (Eq.trans (if_neg c9) (Eq.trans (if_neg c12) (if_pos c15))))) ?_
            refine xq_blk 5 (pc' := 119) (ls' := [(0, .inr (.inr (7, 5, 0)))]) (st' := [.inl (M.1 5 79 4), .inr (.inr (0, 2, 0))]) (M' := M) rfl ?_
            refine xq_bind h (fun q13 e14 h => ?_)
            refine xq_call (j := 72) (as := [.inr (.inr (0, 2, 0)), .inl (M.1 5 79 4)]) (pc' := 122) (ls' := [(0, .inr (.inr (7, 5, 0)))]) (st' := []) rfl rfl (f_X5_rideAway_ok e14) ?_
            exact (hr _ (Option.some.inj h).symm) ▸ xq_ret rfl
          · refine xq_ite h (fun c18 h => ?_) (fun c18 h => ?_)
            · refine xq_lsw (pc' := 153) (ls' := [(0, .inr (.inr (7, 5, 0)))]) (st' := []) rfl rfl (Eq.trans (if_neg c3) (Eq.trans (if_neg c6) (Eq.trans (if_neg c9) (Eq.trans (if_neg c12) (Eq.trans (if_neg c15) (if_pos c18)))))) ?_
              refine xq_blk 5 (pc' := 164) (ls' := [(0, .inr (.inr (7, 5, 0)))]) (st' := [.inl (M.1 5 79 5), .inr (.inr (0, 2, 0))]) (M' := M) rfl ?_
              refine xq_bind h (fun q16 e17 h => ?_)
              refine xq_call (j := 78) (as := [.inr (.inr (0, 2, 0)), .inl (M.1 5 79 5)]) (pc' := 167) (ls' := [(0, .inr (.inr (7, 5, 0)))]) (st' := []) rfl rfl (f_X5_sweepShed_ok e17) ?_
              exact (hr _ (Option.some.inj h).symm) ▸ xq_ret rfl
            · refine xq_lsw (pc' := 168) (ls' := [(0, .inr (.inr (7, 5, 0)))]) (st' := []) rfl rfl (Eq.trans (if_neg c3) (Eq.trans (if_neg c6) (Eq.trans (if_neg c9) (Eq.trans (if_neg c12) (Eq.trans (if_neg c15) (Eq.trans (if_neg c18) (rfl))))))) ?_
              refine xq_blk 5 (pc' := 179) (ls' := [(0, .inr (.inr (7, 5, 0)))]) (st' := [.inl (M.1 5 79 6), .inr (.inr (0, 2, 0))]) (M' := M) rfl ?_
              refine xq_bind h (fun q19 e20 h => ?_)
              refine xq_call (j := 82) (as := [.inr (.inr (0, 2, 0)), .inl (M.1 5 79 6)]) (pc' := 182) (ls' := [(0, .inr (.inr (7, 5, 0)))]) (st' := []) rfl rfl (f_X5_letPass_ok e20) ?_
              exact (hr _ (Option.some.inj h).symm) ▸ xq_ret rfl
theorem f_X6_doDeed_ok {X : List Int32}  {M : xM} {p : Int32 × xM} (h : f_X6_doDeed  M = some p) : xq X xe 101 0 [(0, .inr (.inr (7, 5, 0)))] [] M ((some (.inl p.1), p.2) : xR) := f_X6_doDeed_run h (fun q e => by rw [e])
def f_X6_run_j77 (v1 : Int32) (M : xM) : Option (Int32 × xM) := (f_X3_clear M).bind (fun q7 => (f_X6_recorded v1 q7.2).bind (fun q9 => some ((q9.1, q9.2))))
theorem f_X6_run_j77_ok {X : List Int32} {v1 : Int32} {M : xM} {p : Int32 × xM} {r : xR} (h : f_X6_run_j77 v1 M = some p) (hr : ∀ q, p = q → ((some (.inl q.1), q.2) : xR) = r) : xq X xe 102 77 [(0, .inr (.inr (7, 5, 0))), (1, .inl v1)] [] M r := by
  unfold f_X6_run_j77 at h
  refine xq_blk 3 (pc' := 84) (ls' := [(0, .inr (.inr (7, 5, 0))), (1, .inl v1)]) (st' := [.inr (.inr (12, 5, 80))]) (M' := M) rfl ?_
  refine xq_bind h (fun q7 e8 h => ?_)
  refine xq_call (j := 45) (as := [.inr (.inr (12, 5, 80))]) (pc' := 87) (ls' := [(0, .inr (.inr (7, 5, 0))), (1, .inl v1)]) (st' := []) rfl rfl (f_X3_clear_ok e8) ?_
  refine xq_blk 3 (pc' := 90) (ls' := [(0, .inr (.inr (7, 5, 0))), (1, .inl v1)]) (st' := [.inl v1, .inr (.inr (7, 5, 0))]) (M' := q7.2) rfl ?_
  refine xq_bind h (fun q9 e10 h => ?_)
  refine xq_call (j := 89) (as := [.inr (.inr (7, 5, 0)), .inl v1]) (pc' := 93) (ls' := [(0, .inr (.inr (7, 5, 0))), (1, .inl v1)]) (st' := []) rfl rfl (f_X6_recorded_ok e10) ?_
  exact (hr _ (Option.some.inj h).symm) ▸ xq_ret rfl
def f_X6_run_j63_37 (v1 : Int32) (v2 : Int32) (M : xM) : Option ((Int32 × Int32 × xM) ⊕ (Int32 × xM)) := (f_X1_readSemicolon M).bind (fun q13 => some (.inl (v1, v2 + (1 : Int32), q13.2)))
theorem f_X6_run_j63_37_ok {X : List Int32} {v1 : Int32} {v2 : Int32} {M : xM} {p : (Int32 × Int32 × xM) ⊕ (Int32 × xM)} {r : xR} (h : f_X6_run_j63_37 v1 v2 M = some p) (h0 : ∀ s', p = .inl s' → xq X xe 102 37 [(0, .inr (.inr (7, 5, 0))), (1, .inl s'.1), (2, .inl s'.2.1)] [] s'.2.2 r) (hr : ∀ q, p = .inr (q) → ((some (.inl q.1), q.2) : xR) = r) : xq X xe 102 63 [(0, .inr (.inr (7, 5, 0))), (1, .inl v1), (2, .inl v2)] [] M r := by
  unfold f_X6_run_j63_37 at h
  refine xq_blk 2 (pc' := 67) (ls' := [(0, .inr (.inr (7, 5, 0))), (1, .inl v1), (2, .inl v2)]) (st' := [.inr (.inr (11, 5, 79))]) (M' := M) rfl ?_
  refine xq_bind h (fun q13 e14 h => ?_)
  refine xq_call (j := 30) (as := [.inr (.inr (11, 5, 79))]) (pc' := 70) (ls' := [(0, .inr (.inr (7, 5, 0))), (1, .inl v1), (2, .inl v2)]) (st' := []) rfl rfl (f_X1_readSemicolon_ok e14) ?_
  refine xq_blk 3 (pc' := 37) (ls' := [(2, .inl (v2 + (1 : Int32))), (0, .inr (.inr (7, 5, 0))), (1, .inl v1)]) (st' := []) (M' := q13.2) rfl ?_
  exact xq_sub (a := [(0, .inr (.inr (7, 5, 0))), (1, .inl ((v1, v2 + (1 : Int32), q13.2).1)), (2, .inl ((v1, v2 + (1 : Int32), q13.2).2.1))]) ⟨rfl, rfl, rfl, trivial⟩ rfl (h0 (v1, v2 + (1 : Int32), q13.2) (Option.some.inj h).symm)
def f_X6_run_l37  (s37 : Int32 × Int32 × xM) : Option ((Int32 × Int32 × xM) ⊕ (Int32 × xM)) := if s37.2.1 < (60 : Int32) then ((f_X1_readDeed s37.2.2).bind (fun q5 => if q5.1 = (0 : Int32) then (Option.map Sum.inr (f_X6_run_j77 s37.1 q5.2)) else ((f_X6_doDeed q5.2).bind (fun q11 => if q11.1 < (0 : Int32) then (f_X6_run_j63_37 s37.1 s37.2.1 q11.2) else (f_X6_run_j63_37 (s37.1 + (1 : Int32)) s37.2.1 q11.2))))) else (Option.map Sum.inr (f_X6_run_j77 s37.1 s37.2.2))
theorem f_X6_run_l37_ok {X : List Int32}  {s37 : Int32 × Int32 × xM} {p : (Int32 × Int32 × xM) ⊕ (Int32 × xM)} {r : xR} (h : f_X6_run_l37  s37 = some p) (h0 : ∀ s', p = .inl s' → xq X xe 102 37 [(0, .inr (.inr (7, 5, 0))), (1, .inl s'.1), (2, .inl s'.2.1)] [] s'.2.2 r) (hr : ∀ q, p = .inr (q) → ((some (.inl q.1), q.2) : xR) = r) : xq X xe 102 37 [(0, .inr (.inr (7, 5, 0))), (1, .inl s37.1), (2, .inl s37.2.1)] [] s37.2.2 r := by
  unfold f_X6_run_l37 at h
  refine xq_blk 2 (pc' := 40) (ls' := [(0, .inr (.inr (7, 5, 0))), (1, .inl s37.1), (2, .inl s37.2.1)]) (st' := [.inl (60 : Int32), .inl s37.2.1]) (M' := s37.2.2) rfl ?_
  refine xq_ite h (fun c17 h => ?_) (fun c17 h => ?_)
  · refine xq_core (pc' := 43) (ls' := [(0, .inr (.inr (7, 5, 0))), (1, .inl s37.1), (2, .inl s37.2.1)]) (st' := []) rfl (if_pos c17) ?_
    refine xq_blk 2 (pc' := 47) (ls' := [(0, .inr (.inr (7, 5, 0))), (1, .inl s37.1), (2, .inl s37.2.1)]) (st' := [.inr (.inr (11, 5, 79))]) (M' := s37.2.2) rfl ?_
    refine xq_bind h (fun q5 e6 h => ?_)
    refine xq_call (j := 29) (as := [.inr (.inr (11, 5, 79))]) (pc' := 50) (ls' := [(0, .inr (.inr (7, 5, 0))), (1, .inl s37.1), (2, .inl s37.2.1)]) (st' := []) rfl rfl (f_X1_readDeed_ok e6) ?_
    refine xq_ite h (fun c16 h => ?_) (fun c16 h => ?_)
    · refine xq_core (pc' := 77) (ls' := [(0, .inr (.inr (7, 5, 0))), (1, .inl s37.1), (2, .inl s37.2.1)]) (st' := []) rfl (if_pos c16) ?_
      refine xq_map h (fun p h e => ?_)
      replace hr := fun q e' => hr q (e.symm.trans (congrArg Sum.inr e'))
      clear e
      exact xq_sub (a := [(0, .inr (.inr (7, 5, 0))), (1, .inl s37.1)]) ⟨rfl, rfl, trivial⟩ rfl (f_X6_run_j77_ok h hr)
    · refine xq_core (pc' := 53) (ls' := [(0, .inr (.inr (7, 5, 0))), (1, .inl s37.1), (2, .inl s37.2.1)]) (st' := []) rfl (if_neg c16) ?_
      refine xq_blk 1 (pc' := 54) (ls' := [(0, .inr (.inr (7, 5, 0))), (1, .inl s37.1), (2, .inl s37.2.1)]) (st' := [.inr (.inr (7, 5, 0))]) (M' := q5.2) rfl ?_
      refine xq_bind h (fun q11 e12 h => ?_)
      refine xq_call (j := 101) (as := [.inr (.inr (7, 5, 0))]) (pc' := 57) (ls' := [(0, .inr (.inr (7, 5, 0))), (1, .inl s37.1), (2, .inl s37.2.1)]) (st' := []) rfl rfl (f_X6_doDeed_ok e12) ?_
      refine xq_ite h (fun c15 h => ?_) (fun c15 h => ?_)
      · refine xq_core (pc' := 63) (ls' := [(0, .inr (.inr (7, 5, 0))), (1, .inl s37.1), (2, .inl s37.2.1)]) (st' := []) rfl (if_pos c15) ?_
        exact xq_sub (a := [(0, .inr (.inr (7, 5, 0))), (1, .inl s37.1), (2, .inl s37.2.1)]) ⟨rfl, rfl, rfl, trivial⟩ rfl (f_X6_run_j63_37_ok h h0 hr)
      · refine xq_core (pc' := 60) (ls' := [(0, .inr (.inr (7, 5, 0))), (1, .inl s37.1), (2, .inl s37.2.1)]) (st' := []) rfl (if_neg c15) ?_
        refine xq_blk 1 (pc' := 63) (ls' := [(1, .inl (s37.1 + (1 : Int32))), (0, .inr (.inr (7, 5, 0))), (2, .inl s37.2.1)]) (st' := []) (M' := q11.2) rfl ?_
        exact xq_sub (a := [(0, .inr (.inr (7, 5, 0))), (1, .inl (s37.1 + (1 : Int32))), (2, .inl s37.2.1)]) ⟨rfl, rfl, rfl, trivial⟩ rfl (f_X6_run_j63_37_ok h h0 hr)
  · refine xq_core (pc' := 77) (ls' := [(0, .inr (.inr (7, 5, 0))), (1, .inl s37.1), (2, .inl s37.2.1)]) (st' := []) rfl (if_neg c17) ?_
    refine xq_map h (fun p h e => ?_)
    replace hr := fun q e' => hr q (e.symm.trans (congrArg Sum.inr e'))
    clear e
    exact xq_sub (a := [(0, .inr (.inr (7, 5, 0))), (1, .inl s37.1)]) ⟨rfl, rfl, trivial⟩ rfl (f_X6_run_j77_ok h hr)
def f_X6_run  (M : xM) : Option (Int32 × xM) := (f_X1_findFault M).bind (fun q1 => if q1.1 = (-6 : Int32) then ((f_X1_goToStart (xe_cp 3 2 q1.2)).bind (fun q3 => xlp (f_X6_run_l37) 4000 ((0 : Int32), (0 : Int32), q3))) else (some (((-3 : Int32), q1.2))))
theorem f_X6_run_run {X : List Int32}  {M : xM} {p : Int32 × xM} {r : xR} (h : f_X6_run  M = some p) (hr : ∀ q, p = q → ((some (.inl q.1), q.2) : xR) = r) : xq X xe 102 0 [(0, .inr (.inr (7, 5, 0)))] [] M r := by
  unfold f_X6_run at h
  refine xq_blk 2 (pc' := 4) (ls' := [(0, .inr (.inr (7, 5, 0)))]) (st' := [.inr (.inr (11, 5, 79))]) (M' := M) rfl ?_
  refine xq_bind h (fun q1 e2 h => ?_)
  refine xq_call (j := 31) (as := [.inr (.inr (11, 5, 79))]) (pc' := 7) (ls' := [(0, .inr (.inr (7, 5, 0)))]) (st' := []) rfl rfl (f_X1_findFault_ok e2) ?_
  refine xq_blk 1 (pc' := 9) (ls' := [(0, .inr (.inr (7, 5, 0)))]) (st' := [.inl (-6 : Int32), .inl q1.1]) (M' := q1.2) rfl ?_
  refine xq_ite h (fun c18 h => ?_) (fun c18 h => ?_)
  · refine xq_core (pc' := 15) (ls' := [(0, .inr (.inr (7, 5, 0)))]) (st' := []) rfl (if_pos c18) ?_
    refine xq_blk 4 (pc' := 23) (ls' := [(0, .inr (.inr (7, 5, 0)))]) (st' := [.inr (.inr (0, 2, 0)), .inr (.inr (0, 3, 0))]) (M' := q1.2) rfl ?_
    refine xq_ext (j := 37) (as := [.inr (.inr (0, 3, 0)), .inr (.inr (0, 2, 0))]) (pc' := 26) (ls' := [(0, .inr (.inr (7, 5, 0)))]) (st' := []) (q := (none, xe_cp 3 2 q1.2)) rfl rfl rfl ?_
    refine xq_blk 2 (pc' := 30) (ls' := [(0, .inr (.inr (7, 5, 0)))]) (st' := [.inr (.inr (11, 5, 79))]) (M' := xe_cp 3 2 q1.2) rfl ?_
    refine xq_bind h (fun q3 e4 h => ?_)
    refine xq_call (j := 22) (as := [.inr (.inr (11, 5, 79))]) (pc' := 33) (ls' := [(0, .inr (.inr (7, 5, 0)))]) (st' := []) rfl rfl (f_X1_goToStart_ok e4) ?_
    refine xq_blk 4 (pc' := 37) (ls' := [(2, .inl (0 : Int32)), (1, .inl (0 : Int32)), (0, .inr (.inr (7, 5, 0)))]) (st' := []) (M' := q3) rfl ?_
    refine xq_sub (a := [(0, .inr (.inr (7, 5, 0))), (1, .inl (0 : Int32)), (2, .inl (0 : Int32))]) ⟨rfl, rfl, rfl, trivial⟩ rfl ?_
    exact xlp_ok (P := fun s37 => xq X xe 102 37 [(0, .inr (.inr (7, 5, 0))), (1, .inl s37.1), (2, .inl s37.2.1)] [] s37.2.2 r) (fun s p' hb g0 g1 => f_X6_run_l37_ok hb g0 (fun q e => hr q (g1 _ e).symm)) 4000 _ h
  · refine xq_core (pc' := 12) (ls' := [(0, .inr (.inr (7, 5, 0)))]) (st' := []) rfl (if_neg c18) ?_
    refine xq_blk 1 (pc' := 14) (ls' := [(0, .inr (.inr (7, 5, 0)))]) (st' := [.inl (-3 : Int32)]) (M' := q1.2) rfl ?_
    exact (hr _ (Option.some.inj h).symm) ▸ xq_ret rfl
theorem f_X6_run_ok {X : List Int32}  {M : xM} {p : Int32 × xM} (h : f_X6_run  M = some p) : xq X xe 102 0 [(0, .inr (.inr (7, 5, 0)))] [] M ((some (.inl p.1), p.2) : xR) := f_X6_run_run h (fun q e => by rw [e])
def f_X5_aboutPerson (a0r : Nat) (a1 : Int32) (a2 : Int32) (M : xM) : Option (Int32) := if a2 = (0 : Int32) then (if xp_in a1 20 = true then (some ((M.1 a0r 4 a1.toNatClampNeg))) else none) else (if a2 = (1 : Int32) then (if xp_in a1 20 = true then (some ((M.1 a0r 5 a1.toNatClampNeg))) else none) else (if a2 = (2 : Int32) then ((f_X4_shedsWaitedFor a0r a1 M).bind (fun q5 => some (q5))) else (if a2 = (3 : Int32) then (if xp_in a1 20 = true then (some ((M.1 a0r 19 a1.toNatClampNeg))) else none) else (if a2 = (4 : Int32) then (if xp_in a1 20 = true then (some ((M.1 a0r 20 a1.toNatClampNeg))) else none) else (if a2 = (5 : Int32) then ((f_X0_isInRack a0r a1 M).bind (fun q12 => if q12 = (0 : Int32) then (some ((-6 : Int32))) else (if xp_in a1 20 = true then (some (((M.1 a0r 0 4) - (M.1 a0r 21 a1.toNatClampNeg)))) else none))) else (if a2 = (6 : Int32) then (if xp_in a1 20 = true then (some ((M.1 a0r 22 a1.toNatClampNeg))) else none) else (if a2 = (7 : Int32) then ((f_X0_isInPound a0r a1 M).bind (fun q19 => if q19 = (0 : Int32) then (some ((-6 : Int32))) else (if xp_in a1 20 = true then (some (((M.1 a0r 0 4) - (M.1 a0r 23 a1.toNatClampNeg)))) else none))) else (if a2 = (8 : Int32) then (if xp_in a1 20 = true then (some ((M.1 a0r 24 a1.toNatClampNeg))) else none) else (some ((-2 : Int32)))))))))))
theorem f_X5_aboutPerson_run {X : List Int32} {a0r : Nat} {a1 : Int32} {a2 : Int32} {M : xM} {p : Int32} {r : xR} (h : f_X5_aboutPerson a0r a1 a2 M = some p) (hr : ∀ q, p = q → ((some (.inl q), M) : xR) = r) : xq X xe 84 0 [(0, .inr (.inr (0, a0r, 0))), (1, .inl a1), (2, .inl a2)] [] M r := by
  unfold f_X5_aboutPerson at h
  refine xq_blk 1 (pc' := 1) (ls' := [(0, .inr (.inr (0, a0r, 0))), (1, .inl a1), (2, .inl a2)]) (st' := [.inl a2]) (M' := M) rfl ?_
  refine xq_ite h (fun c2 h => ?_) (fun c2 h => ?_)
  · refine xq_tsw (pc' := 52) (ls' := [(0, .inr (.inr (0, a0r, 0))), (1, .inl a1), (2, .inl a2)]) (st' := []) rfl rfl (if_pos c2) ?_
    refine xq_blk 4 (pc' := 60) (ls' := [(0, .inr (.inr (0, a0r, 0))), (1, .inl a1), (2, .inl a2)]) (st' := [.inl a1, .inr (.inr (3, a0r, 4))]) (M' := M) rfl ?_
    refine xq_guard h (fun g1 h => ?_)
    refine xq_prim (st' := [.inl (M.1 a0r 4 a1.toNatClampNeg)]) (M' := M) rfl rfl rfl (xg_ald0 rfl g1) ?_
    exact (hr _ (Option.some.inj h).symm) ▸ xq_ret rfl
  · refine xq_ite h (fun c4 h => ?_) (fun c4 h => ?_)
    · refine xq_tsw (pc' := 62) (ls' := [(0, .inr (.inr (0, a0r, 0))), (1, .inl a1), (2, .inl a2)]) (st' := []) rfl rfl (Eq.trans (if_neg c2) (if_pos c4)) ?_
      refine xq_blk 4 (pc' := 70) (ls' := [(0, .inr (.inr (0, a0r, 0))), (1, .inl a1), (2, .inl a2)]) (st' := [.inl a1, .inr (.inr (3, a0r, 5))]) (M' := M) rfl ?_
      refine xq_guard h (fun g3 h => ?_)
      refine xq_prim (st' := [.inl (M.1 a0r 5 a1.toNatClampNeg)]) (M' := M) rfl rfl rfl (xg_ald0 rfl g3) ?_
      exact (hr _ (Option.some.inj h).symm) ▸ xq_ret rfl
    · refine xq_ite h (fun c7 h => ?_) (fun c7 h => ?_)
      · refine xq_tsw (pc' := 72) (ls' := [(0, .inr (.inr (0, a0r, 0))), (1, .inl a1), (2, .inl a2)]) (st' := []) rfl rfl (Eq.trans (if_neg c2) (Eq.trans (if_neg c4) (if_pos c7))) ?_
        refine xq_blk 3 (pc' := 77) (ls' := [(0, .inr (.inr (0, a0r, 0))), (1, .inl a1), (2, .inl a2)]) (st' := [.inl a1, .inr (.inr (1, a0r, 3))]) (M' := M) rfl ?_
        refine xq_bind h (fun q5 e6 h => ?_)
        refine xq_call (j := 49) (as := [.inr (.inr (1, a0r, 3)), .inl a1]) (pc' := 80) (ls' := [(0, .inr (.inr (0, a0r, 0))), (1, .inl a1), (2, .inl a2)]) (st' := []) rfl rfl (f_X4_shedsWaitedFor_ok e6) ?_
        exact (hr _ (Option.some.inj h).symm) ▸ xq_ret rfl
      · refine xq_ite h (fun c9 h => ?_) (fun c9 h => ?_)
        · refine xq_tsw (pc' := 81) (ls' := [(0, .inr (.inr (0, a0r, 0))), (1, .inl a1), (2, .inl a2)]) (st' := []) rfl rfl (Eq.trans (if_neg c2) (Eq.trans (if_neg c4) (Eq.trans (if_neg c7) (if_pos c9)))) ?_
          refine xq_blk 4 (pc' := 89) (ls' := [(0, .inr (.inr (0, a0r, 0))), (1, .inl a1), (2, .inl a2)]) (st' := [.inl a1, .inr (.inr (3, a0r, 19))]) (M' := M) rfl ?_
          refine xq_guard h (fun g8 h => ?_)
          refine xq_prim (st' := [.inl (M.1 a0r 19 a1.toNatClampNeg)]) (M' := M) rfl rfl rfl (xg_ald0 rfl g8) ?_
          exact (hr _ (Option.some.inj h).symm) ▸ xq_ret rfl
        · refine xq_ite h (fun c11 h => ?_) (fun c11 h => ?_)
          · refine xq_tsw (pc' := 91) (ls' := [(0, .inr (.inr (0, a0r, 0))), (1, .inl a1), (2, .inl a2)]) (st' := []) rfl rfl (Eq.trans (if_neg c2) (Eq.trans (if_neg c4) (Eq.trans (if_neg c7) (Eq.trans (if_neg c9) (if_pos c11))))) ?_
            refine xq_blk 4 (pc' := 99) (ls' := [(0, .inr (.inr (0, a0r, 0))), (1, .inl a1), (2, .inl a2)]) (st' := [.inl a1, .inr (.inr (3, a0r, 20))]) (M' := M) rfl ?_
            refine xq_guard h (fun g10 h => ?_)
            refine xq_prim (st' := [.inl (M.1 a0r 20 a1.toNatClampNeg)]) (M' := M) rfl rfl rfl (xg_ald0 rfl g10) ?_
            exact (hr _ (Option.some.inj h).symm) ▸ xq_ret rfl
          · refine xq_ite h (fun c16 h => ?_) (fun c16 h => ?_)
            · refine xq_tsw (pc' := 101) (ls' := [(0, .inr (.inr (0, a0r, 0))), (1, .inl a1), (2, .inl a2)]) (st' := []) rfl rfl (Eq.trans (if_neg c2) (Eq.trans (if_neg c4) (Eq.trans (if_neg c7) (Eq.trans (if_neg c9) (Eq.trans (if_neg c11) (if_pos c16)))))) ?_
              refine xq_blk 3 (pc' := 106) (ls' := [(0, .inr (.inr (0, a0r, 0))), (1, .inl a1), (2, .inl a2)]) (st' := [.inl a1, .inr (.inr (2, a0r, 18))]) (M' := M) rfl ?_
              refine xq_bind h (fun q12 e13 h => ?_)
              refine xq_call (j := 4) (as := [.inr (.inr (2, a0r, 18)), .inl a1]) (pc' := 109) (ls' := [(0, .inr (.inr (0, a0r, 0))), (1, .inl a1), (2, .inl a2)]) (st' := []) rfl rfl (f_X0_isInRack_ok e13) ?_
              refine xq_ite h (fun c15 h => ?_) (fun c15 h => ?_)
              · refine xq_core (pc' := 129) (ls' := [(0, .inr (.inr (0, a0r, 0))), (1, .inl a1), (2, .inl a2)]) (st' := []) rfl (if_pos c15) ?_
                refine xq_blk 1 (pc' := 131) (ls' := [(0, .inr (.inr (0, a0r, 0))), (1, .inl a1), (2, .inl a2)]) (st' := [.inl (-6 : Int32)]) (M' := M) rfl ?_
                exact (hr _ (Option.some.inj h).symm) ▸ xq_ret rfl
              · refine xq_core (pc' := 112) (ls' := [(0, .inr (.inr (0, a0r, 0))), (1, .inl a1), (2, .inl a2)]) (st' := []) rfl (if_neg c15) ?_
                refine xq_blk 6 (pc' := 124) (ls' := [(0, .inr (.inr (0, a0r, 0))), (1, .inl a1), (2, .inl a2)]) (st' := [.inl a1, .inr (.inr (3, a0r, 21)), .inl (M.1 a0r 0 4)]) (M' := M) rfl ?_
                refine xq_guard h (fun g14 h => ?_)
                refine xq_prim (st' := [.inl (M.1 a0r 21 a1.toNatClampNeg), .inl (M.1 a0r 0 4)]) (M' := M) rfl rfl rfl (xg_ald0 rfl g14) ?_
                refine xq_blk 2 (pc' := 131) (ls' := [(0, .inr (.inr (0, a0r, 0))), (1, .inl a1), (2, .inl a2)]) (st' := [.inl ((M.1 a0r 0 4) - (M.1 a0r 21 a1.toNatClampNeg))]) (M' := M) rfl ?_
                exact (hr _ (Option.some.inj h).symm) ▸ xq_ret rfl
            · refine xq_ite h (fun c18 h => ?_) (fun c18 h => ?_)
              · refine xq_tsw (pc' := 132) (ls' := [(0, .inr (.inr (0, a0r, 0))), (1, .inl a1), (2, .inl a2)]) (st' := []) rfl rfl (Eq.trans (if_neg c2) (Eq.trans (if_neg c4) (Eq.trans (if_neg c7) (Eq.trans (if_neg c9) (Eq.trans (if_neg c11) (Eq.trans (if_neg c16) (if_pos c18))))))) ?_
                refine xq_blk 4 (pc' := 140) (ls' := [(0, .inr (.inr (0, a0r, 0))), (1, .inl a1), (2, .inl a2)]) (st' := [.inl a1, .inr (.inr (3, a0r, 22))]) (M' := M) rfl ?_
                refine xq_guard h (fun g17 h => ?_)
                refine xq_prim (st' := [.inl (M.1 a0r 22 a1.toNatClampNeg)]) (M' := M) rfl rfl rfl (xg_ald0 rfl g17) ?_
                exact (hr _ (Option.some.inj h).symm) ▸ xq_ret rfl
              · refine xq_ite h (fun c23 h => ?_) (fun c23 h => ?_)
                · refine xq_tsw (pc' := 142) (ls' := [(0, .inr (.inr (0, a0r, 0))), (1, .inl a1), (2, .inl a2)]) (st' := []) rfl rfl (Eq.trans (if_neg c2) (Eq.trans (if_neg c4) (Eq.trans (if_neg c7) (Eq.trans (if_neg c9) (Eq.trans (if_neg c11) (Eq.trans (if_neg c16) (Eq.trans (if_neg c18) (if_pos c23)))))))) ?_
                  refine xq_blk 3 (pc' := 147) (ls' := [(0, .inr (.inr (0, a0r, 0))), (1, .inl a1), (2, .inl a2)]) (st' := [.inl a1, .inr (.inr (2, a0r, 18))]) (M' := M) rfl ?_
                  refine xq_bind h (fun q19 e20 h => ?_)
                  refine xq_call (j := 6) (as := [.inr (.inr (2, a0r, 18)), .inl a1]) (pc' := 150) (ls' := [(0, .inr (.inr (0, a0r, 0))), (1, .inl a1), (2, .inl a2)]) (st' := []) rfl rfl (f_X0_isInPound_ok e20) ?_
                  refine xq_ite h (fun c22 h => ?_) (fun c22 h => ?_)
                  · refine xq_core (pc' := 170) (ls' := [(0, .inr (.inr (0, a0r, 0))), (1, .inl a1), (2, .inl a2)]) (st' := []) rfl (if_pos c22) ?_
                    refine xq_blk 1 (pc' := 172) (ls' := [(0, .inr (.inr (0, a0r, 0))), (1, .inl a1), (2, .inl a2)]) (st' := [.inl (-6 : Int32)]) (M' := M) rfl ?_
                    exact (hr _ (Option.some.inj h).symm) ▸ xq_ret rfl
                  · refine xq_core (pc' := 153) (ls' := [(0, .inr (.inr (0, a0r, 0))), (1, .inl a1), (2, .inl a2)]) (st' := []) rfl (if_neg c22) ?_
                    refine xq_blk 6 (pc' := 165) (ls' := [(0, .inr (.inr (0, a0r, 0))), (1, .inl a1), (2, .inl a2)]) (st' := [.inl a1, .inr (.inr (3, a0r, 23)), .inl (M.1 a0r 0 4)]) (M' := M) rfl ?_
                    refine xq_guard h (fun g21 h => ?_)
                    refine xq_prim (st' := [.inl (M.1 a0r 23 a1.toNatClampNeg), .inl (M.1 a0r 0 4)]) (M' := M) rfl rfl rfl (xg_ald0 rfl g21) ?_
                    refine xq_blk 2 (pc' := 172) (ls' := [(0, .inr (.inr (0, a0r, 0))), (1, .inl a1), (2, .inl a2)]) (st' := [.inl ((M.1 a0r 0 4) - (M.1 a0r 23 a1.toNatClampNeg))]) (M' := M) rfl ?_
                    exact (hr _ (Option.some.inj h).symm) ▸ xq_ret rfl
                · refine xq_ite h (fun c25 h => ?_) (fun c25 h => ?_)
                  · refine xq_tsw (pc' := 173) (ls' := [(0, .inr (.inr (0, a0r, 0))), (1, .inl a1), (2, .inl a2)]) (st' := []) rfl rfl (Eq.trans (if_neg c2) (Eq.trans (if_neg c4) (Eq.trans (if_neg c7) (Eq.trans (if_neg c9) (Eq.trans (if_neg c11) (Eq.trans (if_neg c16) (Eq.trans (if_neg c18) (Eq.trans (if_neg c23) (if_pos c25))))))))) ?_
                    refine xq_blk 4 (pc' := 181) (ls' := [(0, .inr (.inr (0, a0r, 0))), (1, .inl a1), (2, .inl a2)]) (st' := [.inl a1, .inr (.inr (3, a0r, 24))]) (M' := M) rfl ?_
                    refine xq_guard h (fun g24 h => ?_)
                    refine xq_prim (st' := [.inl (M.1 a0r 24 a1.toNatClampNeg)]) (M' := M) rfl rfl rfl (xg_ald0 rfl g24) ?_
                    exact (hr _ (Option.some.inj h).symm) ▸ xq_ret rfl
                  · refine xq_tsw (pc' := 183) (ls' := [(0, .inr (.inr (0, a0r, 0))), (1, .inl a1), (2, .inl a2)]) (st' := []) rfl rfl (Eq.trans (if_neg c2) (Eq.trans (if_neg c4) (Eq.trans (if_neg c7) (Eq.trans (if_neg c9) (Eq.trans (if_neg c11) (Eq.trans (if_neg c16) (Eq.trans (if_neg c18) (Eq.trans (if_neg c23) (Eq.trans (if_neg c25) (rfl)))))))))) ?_
                    refine xq_blk 1 (pc' := 185) (ls' := [(0, .inr (.inr (0, a0r, 0))), (1, .inl a1), (2, .inl a2)]) (st' := [.inl (-2 : Int32)]) (M' := M) rfl ?_
                    exact (hr _ (Option.some.inj h).symm) ▸ xq_ret rfl
theorem f_X5_aboutPerson_ok {X : List Int32} {a0r : Nat} {a1 : Int32} {a2 : Int32} {M : xM} {p : Int32} (h : f_X5_aboutPerson a0r a1 a2 M = some p) : xq X xe 84 0 [(0, .inr (.inr (0, a0r, 0))), (1, .inl a1), (2, .inl a2)] [] M ((some (.inl p), M) : xR) := f_X5_aboutPerson_run h (fun q e => by rw [e])
