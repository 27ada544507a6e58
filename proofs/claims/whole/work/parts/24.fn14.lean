def f_X7_wipe  (M : xM) : Option (Int32 × xM) := some ((M.1 6 0 4, xd_up M 6 0 4 (0 : Int32)))
theorem f_X7_wipe_run {X : List Int32}  {M : xM} {p : Int32 × xM} {r : xR} (h : f_X7_wipe  M = some p) (hr : ∀ q, p = q → ((some (.inl q.1), q.2) : xR) = r) : xq X xe 179 0 [(0, .inr (.inr (14, 6, 0)))] [] M r := by
  unfold f_X7_wipe at h
  refine xq_blk 7 (pc' := 11) (ls' := [(1, .inl (M.1 6 0 4)), (0, .inr (.inr (14, 6, 0)))]) (st' := [.inl (M.1 6 0 4)]) (M' := xd_up M 6 0 4 (0 : Int32)) rfl ?_
  exact (hr _ (Option.some.inj h).symm) ▸ xq_ret rfl
theorem f_X7_wipe_ok {X : List Int32}  {M : xM} {p : Int32 × xM} (h : f_X7_wipe  M = some p) : xq X xe 179 0 [(0, .inr (.inr (14, 6, 0)))] [] M ((some (.inl p.1), p.2) : xR) := f_X7_wipe_run h (fun q e => by rw [e])
def f_X7_isHere (a1 : Int32) (a2 : Int32) (M : xM) : Option (Int32) := if (M.1 6 0 5) < (M.1 6 0 4) then (if xp_in (M.1 6 0 5) 60 = true then ((f_X7_in ((M.1 6 3 (M.1 6 0 5).toNatClampNeg).toInt64) a1.toInt64 a2.toInt64 M).bind (fun q2 => if q2 = (0 : Int32) then (some ((vp_nar .boolean (0 : Int32)))) else (some ((vp_nar .boolean (1 : Int32)))))) else none) else (some ((vp_nar .boolean (0 : Int32))))
theorem f_X7_isHere_run {X : List Int32} {a1 : Int32} {a2 : Int32} {M : xM} {p : Int32} {r : xR} (h : f_X7_isHere a1 a2 M = some p) (hr : ∀ q, p = q → ((some (.inl q), M) : xR) = r) : xq X xe 180 0 [(0, .inr (.inr (14, 6, 0))), (1, .inl a1), (2, .inl a2)] [] M r := by
  unfold f_X7_isHere at h
  refine xq_blk 4 (pc' := 8) (ls' := [(0, .inr (.inr (14, 6, 0))), (1, .inl a1), (2, .inl a2)]) (st' := [.inl (M.1 6 0 4), .inl (M.1 6 0 5)]) (M' := M) rfl ?_
  refine xq_ite h (fun c5 h => ?_) (fun c5 h => ?_)
  · refine xq_core (pc' := 11) (ls' := [(0, .inr (.inr (14, 6, 0))), (1, .inl a1), (2, .inl a2)]) (st' := []) rfl (if_pos c5) ?_
    refine xq_blk 4 (pc' := 19) (ls' := [(0, .inr (.inr (14, 6, 0))), (1, .inl a1), (2, .inl a2)]) (st' := [.inl (M.1 6 0 5), .inr (.inr (17, 6, 3))]) (M' := M) rfl ?_
    refine xq_guard h (fun g1 h => ?_)
    refine xq_prim (st' := [.inl (M.1 6 3 (M.1 6 0 5).toNatClampNeg)]) (M' := M) rfl rfl rfl (xg_ald0 rfl g1) ?_
    refine xq_blk 5 (pc' := 25) (ls' := [(0, .inr (.inr (14, 6, 0))), (1, .inl a1), (2, .inl a2)]) (st' := [.inr (.inl a2.toInt64), .inr (.inl a1.toInt64), .inr (.inl ((M.1 6 3 (M.1 6 0 5).toNatClampNeg).toInt64))]) (M' := M) rfl ?_
    refine xq_bind h (fun q2 e3 h => ?_)
    refine xq_call (j := 119) (as := [.inr (.inl ((M.1 6 3 (M.1 6 0 5).toNatClampNeg).toInt64)), .inr (.inl a1.toInt64), .inr (.inl a2.toInt64)]) (pc' := 28) (ls' := [(0, .inr (.inr (14, 6, 0))), (1, .inl a1), (2, .inl a2)]) (st' := []) rfl rfl (f_X7_in_ok e3) ?_
    refine xq_ite h (fun c4 h => ?_) (fun c4 h => ?_)
    · refine xq_core (pc' := 35) (ls' := [(0, .inr (.inr (14, 6, 0))), (1, .inl a1), (2, .inl a2)]) (st' := []) rfl (if_pos c4) ?_
      refine xq_blk 1 (pc' := 36) (ls' := [(0, .inr (.inr (14, 6, 0))), (1, .inl a1), (2, .inl a2)]) (st' := [.inl (0 : Int32)]) (M' := M) rfl ?_
      exact (hr _ (Option.some.inj h).symm) ▸ xq_ret rfl
    · refine xq_core (pc' := 31) (ls' := [(0, .inr (.inr (14, 6, 0))), (1, .inl a1), (2, .inl a2)]) (st' := []) rfl (if_neg c4) ?_
      refine xq_blk 2 (pc' := 36) (ls' := [(0, .inr (.inr (14, 6, 0))), (1, .inl a1), (2, .inl a2)]) (st' := [.inl (1 : Int32)]) (M' := M) rfl ?_
      exact (hr _ (Option.some.inj h).symm) ▸ xq_ret rfl
  · refine xq_core (pc' := 35) (ls' := [(0, .inr (.inr (14, 6, 0))), (1, .inl a1), (2, .inl a2)]) (st' := []) rfl (if_neg c5) ?_
    refine xq_blk 1 (pc' := 36) (ls' := [(0, .inr (.inr (14, 6, 0))), (1, .inl a1), (2, .inl a2)]) (st' := [.inl (0 : Int32)]) (M' := M) rfl ?_
    exact (hr _ (Option.some.inj h).symm) ▸ xq_ret rfl
theorem f_X7_isHere_ok {X : List Int32} {a1 : Int32} {a2 : Int32} {M : xM} {p : Int32} (h : f_X7_isHere a1 a2 M = some p) : xq X xe 180 0 [(0, .inr (.inr (14, 6, 0))), (1, .inl a1), (2, .inl a2)] [] M ((some (.inl p), M) : xR) := f_X7_isHere_run h (fun q e => by rw [e])
def f_X7_reads_j40 (v3 : Int32) (t0 : Int32) (t1 : Int32) (M : xM) : Option (Int32 × xM) := (f_X7_flag t0 M).bind (fun q3 => some ((v3, xd_up M 6 0 5 (t1 + q3))))
theorem f_X7_reads_j40_ok {X : List Int32} {v3 : Int32} {t0 : Int32} {t1 : Int32} {M : xM} {p : Int32 × xM} {r : xR} (h : f_X7_reads_j40 v3 t0 t1 M = some p) (hr : ∀ q, p = q → ((some (.inl q.1), q.2) : xR) = r) : xq X xe 181 40 [(3, .inl v3)] [.inl t0, .inl t1, .inr (.inr (14, 6, 0))] M r := by
  unfold f_X7_reads_j40 at h
  refine xq_bind h (fun q3 e4 h => ?_)
  refine xq_call (j := 120) (as := [.inl t0]) (pc' := 43) (ls' := [(3, .inl v3)]) (st' := [.inl t1, .inr (.inr (14, 6, 0))]) rfl rfl (f_X7_flag_ok e4) ?_
  refine xq_blk 3 (pc' := 48) (ls' := [(3, .inl v3)]) (st' := [.inl v3]) (M' := xd_up M 6 0 5 (t1 + q3)) rfl ?_
  exact (hr _ (Option.some.inj h).symm) ▸ xq_ret rfl
def f_X7_reads_j23 (t0 : Int32) (M : xM) : Option (Int32 × xM) := if t0 = (-6 : Int32) then (f_X7_reads_j40 t0 (0 : Int32) (M.1 6 0 5) M) else (f_X7_reads_j40 t0 (1 : Int32) (M.1 6 0 5) M)
theorem f_X7_reads_j23_ok {X : List Int32} {t0 : Int32} {M : xM} {p : Int32 × xM} {r : xR} (h : f_X7_reads_j23 t0 M = some p) (hr : ∀ q, p = q → ((some (.inl q.1), q.2) : xR) = r) : xq X xe 181 23 [(0, .inr (.inr (14, 6, 0)))] [.inl t0] M r := by
  unfold f_X7_reads_j23 at h
  refine xq_blk 6 (pc' := 32) (ls' := [(3, .inl t0), (0, .inr (.inr (14, 6, 0)))]) (st' := [.inl (-6 : Int32), .inl t0, .inl (M.1 6 0 5), .inr (.inr (14, 6, 0))]) (M' := M) rfl ?_
  refine xq_ite h (fun c5 h => ?_) (fun c5 h => ?_)
  · refine xq_core (pc' := 39) (ls' := [(3, .inl t0), (0, .inr (.inr (14, 6, 0)))]) (st' := [.inl (M.1 6 0 5), .inr (.inr (14, 6, 0))]) rfl (if_pos c5) ?_
    refine xq_blk 1 (pc' := 40) (ls' := [(3, .inl t0), (0, .inr (.inr (14, 6, 0)))]) (st' := [.inl (0 : Int32), .inl (M.1 6 0 5), .inr (.inr (14, 6, 0))]) (M' := M) rfl ?_
    exact xq_sub (a := [(3, .inl t0)]) ⟨rfl, trivial⟩ rfl (f_X7_reads_j40_ok h hr)
  · refine xq_core (pc' := 35) (ls' := [(3, .inl t0), (0, .inr (.inr (14, 6, 0)))]) (st' := [.inl (M.1 6 0 5), .inr (.inr (14, 6, 0))]) rfl (if_neg c5) ?_
    refine xq_blk 2 (pc' := 40) (ls' := [(3, .inl t0), (0, .inr (.inr (14, 6, 0)))]) (st' := [.inl (1 : Int32), .inl (M.1 6 0 5), .inr (.inr (14, 6, 0))]) (M' := M) rfl ?_
    exact xq_sub (a := [(3, .inl t0)]) ⟨rfl, trivial⟩ rfl (f_X7_reads_j40_ok h hr)
def f_X7_reads (a1 : Int32) (a2 : Int32) (M : xM) : Option (Int32 × xM) := (f_X7_isHere a1 a2 M).bind (fun q1 => if q1 = (0 : Int32) then (f_X7_reads_j23 (-6 : Int32) M) else (if xp_in (M.1 6 0 5) 60 = true then (f_X7_reads_j23 (M.1 6 3 (M.1 6 0 5).toNatClampNeg) M) else none))
theorem f_X7_reads_run {X : List Int32} {a1 : Int32} {a2 : Int32} {M : xM} {p : Int32 × xM} {r : xR} (h : f_X7_reads a1 a2 M = some p) (hr : ∀ q, p = q → ((some (.inl q.1), q.2) : xR) = r) : xq X xe 181 0 [(0, .inr (.inr (14, 6, 0))), (1, .inl a1), (2, .inl a2)] [] M r := by
  unfold f_X7_reads at h
  refine xq_blk 3 (pc' := 3) (ls' := [(0, .inr (.inr (14, 6, 0))), (1, .inl a1), (2, .inl a2)]) (st' := [.inl a2, .inl a1, .inr (.inr (14, 6, 0))]) (M' := M) rfl ?_
  refine xq_bind h (fun q1 e2 h => ?_)
  refine xq_call (j := 180) (as := [.inr (.inr (14, 6, 0)), .inl a1, .inl a2]) (pc' := 6) (ls' := [(0, .inr (.inr (14, 6, 0))), (1, .inl a1), (2, .inl a2)]) (st' := []) rfl rfl (f_X7_isHere_ok e2) ?_
  refine xq_ite h (fun c7 h => ?_) (fun c7 h => ?_)
  · refine xq_core (pc' := 21) (ls' := [(0, .inr (.inr (14, 6, 0))), (1, .inl a1), (2, .inl a2)]) (st' := []) rfl (if_pos c7) ?_
    refine xq_blk 1 (pc' := 23) (ls' := [(0, .inr (.inr (14, 6, 0))), (1, .inl a1), (2, .inl a2)]) (st' := [.inl (-6 : Int32)]) (M' := M) rfl ?_
    exact xq_sub (a := [(0, .inr (.inr (14, 6, 0)))]) ⟨rfl, trivial⟩ rfl (f_X7_reads_j23_ok h hr)
  · refine xq_core (pc' := 9) (ls' := [(0, .inr (.inr (14, 6, 0))), (1, .inl a1), (2, .inl a2)]) (st' := []) rfl (if_neg c7) ?_
    refine xq_blk 4 (pc' := 17) (ls' := [(0, .inr (.inr (14, 6, 0))), (1, .inl a1), (2, .inl a2)]) (st' := [.inl (M.1 6 0 5), .inr (.inr (17, 6, 3))]) (M' := M) rfl ?_
    refine xq_guard h (fun g6 h => ?_)
    refine xq_prim (st' := [.inl (M.1 6 3 (M.1 6 0 5).toNatClampNeg)]) (M' := M) rfl rfl rfl (xg_ald0 rfl g6) ?_
    refine xq_blk 1 (pc' := 23) (ls' := [(0, .inr (.inr (14, 6, 0))), (1, .inl a1), (2, .inl a2)]) (st' := [.inl (M.1 6 3 (M.1 6 0 5).toNatClampNeg)]) (M' := M) rfl ?_
    exact xq_sub (a := [(0, .inr (.inr (14, 6, 0)))]) ⟨rfl, trivial⟩ rfl (f_X7_reads_j23_ok h hr)
theorem f_X7_reads_ok {X : List Int32} {a1 : Int32} {a2 : Int32} {M : xM} {p : Int32 × xM} (h : f_X7_reads a1 a2 M = some p) : xq X xe 181 0 [(0, .inr (.inr (14, 6, 0))), (1, .inl a1), (2, .inl a2)] [] M ((some (.inl p.1), p.2) : xR) := f_X7_reads_run h (fun q e => by rw [e])
def f_X7_readsShed  (M : xM) : Option (Int32 × xM) := (f_X7_reads (48 : Int32) (50 : Int32) M).bind (fun q1 => if q1.1 = (-6 : Int32) then (some ((vp_nar .boolean (0 : Int32), xd_up q1.2 6 0 8 (q1.1 - (48 : Int32))))) else (some ((vp_nar .boolean (1 : Int32), xd_up q1.2 6 0 8 (q1.1 - (48 : Int32))))))
theorem f_X7_readsShed_run {X : List Int32}  {M : xM} {p : Int32 × xM} {r : xR} (h : f_X7_readsShed  M = some p) (hr : ∀ q, p = q → ((some (.inl q.1), q.2) : xR) = r) : xq X xe 183 0 [(0, .inr (.inr (14, 6, 0)))] [] M r := by
  unfold f_X7_readsShed at h
  refine xq_blk 3 (pc' := 5) (ls' := [(0, .inr (.inr (14, 6, 0)))]) (st' := [.inl (50 : Int32), .inl (48 : Int32), .inr (.inr (14, 6, 0))]) (M' := M) rfl ?_
  refine xq_bind h (fun q1 e2 h => ?_)
  refine xq_call (j := 181) (as := [.inr (.inr (14, 6, 0)), .inl (48 : Int32), .inl (50 : Int32)]) (pc' := 8) (ls' := [(0, .inr (.inr (14, 6, 0)))]) (st' := []) rfl rfl (f_X7_reads_ok e2) ?_
  refine xq_blk 8 (pc' := 20) (ls' := [(1, .inl q1.1), (0, .inr (.inr (14, 6, 0)))]) (st' := [.inl (-6 : Int32), .inl q1.1]) (M' := xd_up q1.2 6 0 8 (q1.1 - (48 : Int32))) rfl ?_
  refine xq_ite h (fun c3 h => ?_) (fun c3 h => ?_)
  · refine xq_core (pc' := 27) (ls' := [(1, .inl q1.1), (0, .inr (.inr (14, 6, 0)))]) (st' := []) rfl (if_pos c3) ?_
    refine xq_blk 1 (pc' := 28) (ls' := [(1, .inl q1.1), (0, .inr (.inr (14, 6, 0)))]) (st' := [.inl (0 : Int32)]) (M' := xd_up q1.2 6 0 8 (q1.1 - (48 : Int32))) rfl ?_
    exact (hr _ (Option.some.inj h).symm) ▸ xq_ret rfl
  · refine xq_core (pc' := 23) (ls' := [(1, .inl q1.1), (0, .inr (.inr (14, 6, 0)))]) (st' := []) rfl (if_neg c3) ?_
    refine xq_blk 2 (pc' := 28) (ls' := [(1, .inl q1.1), (0, .inr (.inr (14, 6, 0)))]) (st' := [.inl (1 : Int32)]) (M' := xd_up q1.2 6 0 8 (q1.1 - (48 : Int32))) rfl ?_
    exact (hr _ (Option.some.inj h).symm) ▸ xq_ret rfl
theorem f_X7_readsShed_ok {X : List Int32}  {M : xM} {p : Int32 × xM} (h : f_X7_readsShed  M = some p) : xq X xe 183 0 [(0, .inr (.inr (14, 6, 0)))] [] M ((some (.inl p.1), p.2) : xR) := f_X7_readsShed_run h (fun q e => by rw [e])
def f_X7_number  (M : xM) : Option (Int32 × xM) := (f_X7_reads (49 : Int32) (57 : Int32) M).bind (fun q1 => if q1.1 = (-6 : Int32) then (some (((-6 : Int32), q1.2))) else ((f_X7_isHere (48 : Int32) (57 : Int32) q1.2).bind (fun q3 => if q3 = (0 : Int32) then (some ((q1.1 - (48 : Int32), q1.2))) else (if xp_in (q1.2.1 6 0 5) 60 = true then (some (((((10 : Int32) * (q1.1 - (48 : Int32))) + (q1.2.1 6 3 (q1.2.1 6 0 5).toNatClampNeg)) - (48 : Int32), xd_up q1.2 6 0 5 ((q1.2.1 6 0 5) + (1 : Int32))))) else none))))
theorem f_X7_number_run {X : List Int32}  {M : xM} {p : Int32 × xM} {r : xR} (h : f_X7_number  M = some p) (hr : ∀ q, p = q → ((some (.inl q.1), q.2) : xR) = r) : xq X xe 182 0 [(0, .inr (.inr (14, 6, 0)))] [] M r := by
  unfold f_X7_number at h
  refine xq_blk 3 (pc' := 5) (ls' := [(0, .inr (.inr (14, 6, 0)))]) (st' := [.inl (57 : Int32), .inl (49 : Int32), .inr (.inr (14, 6, 0))]) (M' := M) rfl ?_
  refine xq_bind h (fun q1 e2 h => ?_)
  refine xq_call (j := 181) (as := [.inr (.inr (14, 6, 0)), .inl (49 : Int32), .inl (57 : Int32)]) (pc' := 8) (ls' := [(0, .inr (.inr (14, 6, 0)))]) (st' := []) rfl rfl (f_X7_reads_ok e2) ?_
  refine xq_blk 3 (pc' := 12) (ls' := [(1, .inl q1.1), (0, .inr (.inr (14, 6, 0)))]) (st' := [.inl (-6 : Int32), .inl q1.1]) (M' := q1.2) rfl ?_
  refine xq_ite h (fun c7 h => ?_) (fun c7 h => ?_)
  · refine xq_core (pc' := 15) (ls' := [(1, .inl q1.1), (0, .inr (.inr (14, 6, 0)))]) (st' := []) rfl (if_pos c7) ?_
    refine xq_blk 1 (pc' := 17) (ls' := [(1, .inl q1.1), (0, .inr (.inr (14, 6, 0)))]) (st' := [.inl (-6 : Int32)]) (M' := q1.2) rfl ?_
    exact (hr _ (Option.some.inj h).symm) ▸ xq_ret rfl
  · refine xq_core (pc' := 18) (ls' := [(1, .inl q1.1), (0, .inr (.inr (14, 6, 0)))]) (st' := []) rfl (if_neg c7) ?_
    refine xq_blk 7 (pc' := 28) (ls' := [(2, .inl (q1.1 - (48 : Int32))), (1, .inl q1.1), (0, .inr (.inr (14, 6, 0)))]) (st' := [.inl (57 : Int32), .inl (48 : Int32), .inr (.inr (14, 6, 0))]) (M' := q1.2) rfl ?_
    refine xq_bind h (fun q3 e4 h => ?_)
    refine xq_call (j := 180) (as := [.inr (.inr (14, 6, 0)), .inl (48 : Int32), .inl (57 : Int32)]) (pc' := 31) (ls' := [(2, .inl (q1.1 - (48 : Int32))), (1, .inl q1.1), (0, .inr (.inr (14, 6, 0)))]) (st' := []) rfl rfl (f_X7_isHere_ok e4) ?_
    refine xq_ite h (fun c6 h => ?_) (fun c6 h => ?_)
    · refine xq_core (pc' := 62) (ls' := [(2, .inl (q1.1 - (48 : Int32))), (1, .inl q1.1), (0, .inr (.inr (14, 6, 0)))]) (st' := []) rfl (if_pos c6) ?_
      refine xq_blk 1 (pc' := 63) (ls' := [(2, .inl (q1.1 - (48 : Int32))), (1, .inl q1.1), (0, .inr (.inr (14, 6, 0)))]) (st' := [.inl (q1.1 - (48 : Int32))]) (M' := q1.2) rfl ?_
      exact (hr _ (Option.some.inj h).symm) ▸ xq_ret rfl
    · refine xq_core (pc' := 34) (ls' := [(2, .inl (q1.1 - (48 : Int32))), (1, .inl q1.1), (0, .inr (.inr (14, 6, 0)))]) (st' := []) rfl (if_neg c6) ?_
      refine xq_blk 7 (pc' := 46) (ls' := [(2, .inl (q1.1 - (48 : Int32))), (1, .inl q1.1), (0, .inr (.inr (14, 6, 0)))]) (st' := [.inl (q1.2.1 6 0 5), .inr (.inr (17, 6, 3)), .inl ((10 : Int32) * (q1.1 - (48 : Int32)))]) (M' := q1.2) rfl ?_
      refine xq_guard h (fun g5 h => ?_)
      refine xq_prim (st' := [.inl (q1.2.1 6 3 (q1.2.1 6 0 5).toNatClampNeg), .inl ((10 : Int32) * (q1.1 - (48 : Int32)))]) (M' := q1.2) rfl rfl rfl (xg_ald0 rfl g5) ?_
      refine xq_blk 10 (pc' := 62) (ls' := [(2, .inl ((((10 : Int32) * (q1.1 - (48 : Int32))) + (q1.2.1 6 3 (q1.2.1 6 0 5).toNatClampNeg)) - (48 : Int32))), (1, .inl q1.1), (0, .inr (.inr (14, 6, 0)))]) (st' := []) (M' := xd_up q1.2 6 0 5 ((q1.2.1 6 0 5) + (1 : Int32))) rfl ?_
      refine xq_blk 1 (pc' := 63) (ls' := [(2, .inl ((((10 : Int32) * (q1.1 - (48 : Int32))) + (q1.2.1 6 3 (q1.2.1 6 0 5).toNatClampNeg)) - (48 : Int32))), (1, .inl q1.1), (0, .inr (.inr (14, 6, 0)))]) (st' := [.inl ((((10 : Int32) * (q1.1 - (48 : Int32))) + (q1.2.1 6 3 (q1.2.1 6 0 5).toNatClampNeg)) - (48 : Int32))]) (M' := xd_up q1.2 6 0 5 ((q1.2.1 6 0 5) + (1 : Int32))) rfl ?_
      exact (hr _ (Option.some.inj h).symm) ▸ xq_ret rfl
theorem f_X7_number_ok {X : List Int32}  {M : xM} {p : Int32 × xM} (h : f_X7_number  M = some p) : xq X xe 182 0 [(0, .inr (.inr (14, 6, 0)))] [] M ((some (.inl p.1), p.2) : xR) := f_X7_number_run h (fun q e => by rw [e])
def f_X7_readsDeed_j167 (t0 : Int32) (M : xM) : Option (Int32 × xM) := if ((xd_up M 6 0 7 t0).1 6 0 7) = (63 : Int32) then ((f_X7_readsShed (xd_up M 6 0 7 t0)).bind (fun q17 => if q17.1 = (0 : Int32) then (some ((vp_nar .boolean (0 : Int32), q17.2))) else ((f_X7_reads (58 : Int32) (58 : Int32) q17.2).bind (fun q19 => if q19.1 = (-6 : Int32) then (some ((vp_nar .boolean (0 : Int32), q19.2))) else ((f_X7_number q19.2).bind (fun q21 => if ((xd_up q21.2 6 0 9 q21.1).1 6 0 9) = (-6 : Int32) then (some ((vp_nar .boolean (0 : Int32), xd_up q21.2 6 0 9 q21.1))) else (some ((vp_nar .boolean (1 : Int32), xd_up q21.2 6 0 9 q21.1))))))))) else (if ((xd_up M 6 0 7 t0).1 6 0 7) = (-6 : Int32) then (some ((vp_nar .boolean (0 : Int32), xd_up M 6 0 7 t0))) else (some ((vp_nar .boolean (1 : Int32), xd_up M 6 0 7 t0))))
theorem f_X7_readsDeed_j167_ok {X : List Int32} {t0 : Int32} {M : xM} {p : Int32 × xM} {r : xR} (h : f_X7_readsDeed_j167 t0 M = some p) (hr : ∀ q, p = q → ((some (.inl q.1), q.2) : xR) = r) : xq X xe 184 167 [(0, .inr (.inr (14, 6, 0)))] [.inl t0, .inr (.inr (14, 6, 0))] M r := by
  unfold f_X7_readsDeed_j167 at h
  refine xq_blk 4 (pc' := 176) (ls' := [(0, .inr (.inr (14, 6, 0)))]) (st' := [.inl (63 : Int32), .inl ((xd_up M 6 0 7 t0).1 6 0 7)]) (M' := xd_up M 6 0 7 t0) rfl ?_
  refine xq_ite h (fun c27 h => ?_) (fun c27 h => ?_)
  · refine xq_core (pc' := 194) (ls' := [(0, .inr (.inr (14, 6, 0)))]) (st' := []) rfl (if_pos c27) ?_
    refine xq_blk 1 (pc' := 195) (ls' := [(0, .inr (.inr (14, 6, 0)))]) (st' := [.inr (.inr (14, 6, 0))]) (M' := xd_up M 6 0 7 t0) rfl ?_
    refine xq_bind h (fun q17 e18 h => ?_)
    refine xq_call (j := 183) (as := [.inr (.inr (14, 6, 0))]) (pc' := 198) (ls' := [(0, .inr (.inr (14, 6, 0)))]) (st' := []) rfl rfl (f_X7_readsShed_ok e18) ?_
    refine xq_ite h (fun c25 h => ?_) (fun c25 h => ?_)
    · refine xq_core (pc' := 214) (ls' := [(0, .inr (.inr (14, 6, 0)))]) (st' := []) rfl (if_pos c25) ?_
      refine xq_blk 1 (pc' := 215) (ls' := [(0, .inr (.inr (14, 6, 0)))]) (st' := [.inl (0 : Int32)]) (M' := q17.2) rfl ?_
      exact (hr _ (Option.some.inj h).symm) ▸ xq_ret rfl
    · refine xq_core (pc' := 201) (ls' := [(0, .inr (.inr (14, 6, 0)))]) (st' := []) rfl (if_neg c25) ?_
      refine xq_blk 3 (pc' := 206) (ls' := [(0, .inr (.inr (14, 6, 0)))]) (st' := [.inl (58 : Int32), .inl (58 : Int32), .inr (.inr (14, 6, 0))]) (M' := q17.2) rfl ?_
      refine xq_bind h (fun q19 e20 h => ?_)
      refine xq_call (j := 181) (as := [.inr (.inr (14, 6, 0)), .inl (58 : Int32), .inl (58 : Int32)]) (pc' := 209) (ls' := [(0, .inr (.inr (14, 6, 0)))]) (st' := []) rfl rfl (f_X7_reads_ok e20) ?_
      refine xq_blk 1 (pc' := 211) (ls' := [(0, .inr (.inr (14, 6, 0)))]) (st' := [.inl (-6 : Int32), .inl q19.1]) (M' := q19.2) rfl ?_
      refine xq_ite h (fun c24 h => ?_) (fun c24 h => ?_)
      · refine xq_core (pc' := 214) (ls' := [(0, .inr (.inr (14, 6, 0)))]) (st' := []) rfl (if_pos c24) ?_
        refine xq_blk 1 (pc' := 215) (ls' := [(0, .inr (.inr (14, 6, 0)))]) (st' := [.inl (0 : Int32)]) (M' := q19.2) rfl ?_
        exact (hr _ (Option.some.inj h).symm) ▸ xq_ret rfl
      · refine xq_core (pc' := 216) (ls' := [(0, .inr (.inr (14, 6, 0)))]) (st' := []) rfl (if_neg c24) ?_
        refine xq_blk 2 (pc' := 218) (ls' := [(0, .inr (.inr (14, 6, 0)))]) (st' := [.inr (.inr (14, 6, 0)), .inr (.inr (14, 6, 0))]) (M' := q19.2) rfl ?_
        refine xq_bind h (fun q21 e22 h => ?_)
        refine xq_call (j := 182) (as := [.inr (.inr (14, 6, 0))]) (pc' := 221) (ls' := [(0, .inr (.inr (14, 6, 0)))]) (st' := [.inr (.inr (14, 6, 0))]) rfl rfl (f_X7_number_ok e22) ?_
        refine xq_blk 4 (pc' := 230) (ls' := [(0, .inr (.inr (14, 6, 0)))]) (st' := [.inl (-6 : Int32), .inl ((xd_up q21.2 6 0 9 q21.1).1 6 0 9)]) (M' := xd_up q21.2 6 0 9 q21.1) rfl ?_
        refine xq_ite h (fun c23 h => ?_) (fun c23 h => ?_)
        · refine xq_core (pc' := 237) (ls' := [(0, .inr (.inr (14, 6, 0)))]) (st' := []) rfl (if_pos c23) ?_
          refine xq_blk 1 (pc' := 238) (ls' := [(0, .inr (.inr (14, 6, 0)))]) (st' := [.inl (0 : Int32)]) (M' := xd_up q21.2 6 0 9 q21.1) rfl ?_
          exact (hr _ (Option.some.inj h).symm) ▸ xq_ret rfl
        · refine xq_core (pc' := 233) (ls' := [(0, .inr (.inr (14, 6, 0)))]) (st' := []) rfl (if_neg c23) ?_
          refine xq_blk 2 (pc' := 238) (ls' := [(0, .inr (.inr (14, 6, 0)))]) (st' := [.inl (1 : Int32)]) (M' := xd_up q21.2 6 0 9 q21.1) rfl ?_
          exact (hr _ (Option.some.inj h).symm) ▸ xq_ret rfl
  · refine xq_core (pc' := 179) (ls' := [(0, .inr (.inr (14, 6, 0)))]) (st' := []) rfl (if_neg c27) ?_
    refine xq_blk 3 (pc' := 185) (ls' := [(0, .inr (.inr (14, 6, 0)))]) (st' := [.inl (-6 : Int32), .inl ((xd_up M 6 0 7 t0).1 6 0 7)]) (M' := xd_up M 6 0 7 t0) rfl ?_
    refine xq_ite h (fun c26 h => ?_) (fun c26 h => ?_)
    · refine xq_core (pc' := 192) (ls' := [(0, .inr (.inr (14, 6, 0)))]) (st' := []) rfl (if_pos c26) ?_
      refine xq_blk 1 (pc' := 193) (ls' := [(0, .inr (.inr (14, 6, 0)))]) (st' := [.inl (0 : Int32)]) (M' := xd_up M 6 0 7 t0) rfl ?_
      exact (hr _ (Option.some.inj h).symm) ▸ xq_ret rfl
    · refine xq_core (pc' := 188) (ls' := [(0, .inr (.inr (14, 6, 0)))]) (st' := []) rfl (if_neg c26) ?_
      refine xq_blk 2 (pc' := 193) (ls' := [(0, .inr (.inr (14, 6, 0)))]) (st' := [.inl (1 : Int32)]) (M' := xd_up M 6 0 7 t0) rfl ?_
      exact (hr _ (Option.some.inj h).symm) ▸ xq_ret rfl
def f_X7_readsDeed_j154  (M : xM) : Option (Int32 × xM) := (f_X7_reads (33 : Int32) (126 : Int32) M).bind (fun q28 => f_X7_readsDeed_j167 q28.1 q28.2)
theorem f_X7_readsDeed_j154_ok {X : List Int32}  {M : xM} {p : Int32 × xM} {r : xR} (h : f_X7_readsDeed_j154  M = some p) (hr : ∀ q, p = q → ((some (.inl q.1), q.2) : xR) = r) : xq X xe 184 154 [(0, .inr (.inr (14, 6, 0)))] [.inr (.inr (14, 6, 0))] M r := by
  unfold f_X7_readsDeed_j154 at h
  refine xq_blk 3 (pc' := 159) (ls' := [(0, .inr (.inr (14, 6, 0)))]) (st' := [.inl (126 : Int32), .inl (33 : Int32), .inr (.inr (14, 6, 0)), .inr (.inr (14, 6, 0))]) (M' := M) rfl ?_
  refine xq_bind h (fun q28 e29 h => ?_)
  refine xq_call (j := 181) (as := [.inr (.inr (14, 6, 0)), .inl (33 : Int32), .inl (126 : Int32)]) (pc' := 162) (ls' := [(0, .inr (.inr (14, 6, 0)))]) (st' := [.inr (.inr (14, 6, 0))]) rfl rfl (f_X7_reads_ok e29) ?_
  refine xq_blk 1 (pc' := 167) (ls' := [(0, .inr (.inr (14, 6, 0)))]) (st' := [.inl q28.1, .inr (.inr (14, 6, 0))]) (M' := q28.2) rfl ?_
  exact xq_sub (a := [(0, .inr (.inr (14, 6, 0)))]) ⟨rfl, trivial⟩ rfl (f_X7_readsDeed_j167_ok h hr)
def f_X7_readsDeed  (M : xM) : Option (Int32 × xM) := (f_X7_isHere (115 : Int32) (115 : Int32) M).bind (fun q1 => if q1 = (0 : Int32) then ((f_X7_isHere (46 : Int32) (46 : Int32) M).bind (fun q3 => if q3 = (0 : Int32) then ((f_X7_reads (65 : Int32) (84 : Int32) M).bind (fun q5 => if ((xd_up q5.2 6 0 6 (q5.1 - (65 : Int32))).1 6 0 6) < (0 : Int32) then (some ((vp_nar .boolean (0 : Int32), xd_up q5.2 6 0 6 (q5.1 - (65 : Int32))))) else ((f_X7_isHere (63 : Int32) (63 : Int32) (xd_up q5.2 6 0 6 (q5.1 - (65 : Int32)))).bind (fun q7 => if q7 = (0 : Int32) then ((f_X7_isHere (112 : Int32) (112 : Int32) (xd_up q5.2 6 0 6 (q5.1 - (65 : Int32)))).bind (fun q9 => if q9 = (0 : Int32) then ((f_X7_isHere (114 : Int32) (114 : Int32) (xd_up q5.2 6 0 6 (q5.1 - (65 : Int32)))).bind (fun q11 => if q11 = (0 : Int32) then ((f_X7_isHere (97 : Int32) (97 : Int32) (xd_up q5.2 6 0 6 (q5.1 - (65 : Int32)))).bind (fun q13 => if q13 = (0 : Int32) then ((f_X7_isHere (102 : Int32) (102 : Int32) (xd_up q5.2 6 0 6 (q5.1 - (65 : Int32)))).bind (fun q15 => if q15 = (0 : Int32) then (f_X7_readsDeed_j167 (-6 : Int32) (xd_up q5.2 6 0 6 (q5.1 - (65 : Int32)))) else (f_X7_readsDeed_j154 (xd_up q5.2 6 0 6 (q5.1 - (65 : Int32)))))) else (f_X7_readsDeed_j154 (xd_up q5.2 6 0 6 (q5.1 - (65 : Int32)))))) else (f_X7_readsDeed_j154 (xd_up q5.2 6 0 6 (q5.1 - (65 : Int32)))))) else (f_X7_readsDeed_j154 (xd_up q5.2 6 0 6 (q5.1 - (65 : Int32)))))) else (f_X7_readsDeed_j154 (xd_up q5.2 6 0 6 (q5.1 - (65 : Int32)))))))) else ((f_X7_reads (46 : Int32) (46 : Int32) M).bind (fun q36 => (f_X7_number (xd_up q36.2 6 0 7 q36.1)).bind (fun q38 => if ((xd_up q38.2 6 0 9 q38.1).1 6 0 9) = (-6 : Int32) then (some ((vp_nar .boolean (0 : Int32), xd_up q38.2 6 0 9 q38.1))) else (some ((vp_nar .boolean (1 : Int32), xd_up q38.2 6 0 9 q38.1)))))))) else ((f_X7_reads (115 : Int32) (115 : Int32) M).bind (fun q42 => (f_X7_readsShed (xd_up q42.2 6 0 7 q42.1)).bind (fun q44 => some ((vp_nar .boolean q44.1, q44.2))))))
theorem f_X7_readsDeed_run {X : List Int32}  {M : xM} {p : Int32 × xM} {r : xR} (h : f_X7_readsDeed  M = some p) (hr : ∀ q, p = q → ((some (.inl q.1), q.2) : xR) = r) : xq X xe 184 0 [(0, .inr (.inr (14, 6, 0)))] [] M r := by
  unfold f_X7_readsDeed at h
  refine xq_blk 3 (pc' := 5) (ls' := [(0, .inr (.inr (14, 6, 0)))]) (st' := [.inl (115 : Int32), .inl (115 : Int32), .inr (.inr (14, 6, 0))]) (M' := M) rfl ?_
  refine xq_bind h (fun q1 e2 h => ?_)
  refine xq_call (j := 180) (as := [.inr (.inr (14, 6, 0)), .inl (115 : Int32), .inl (115 : Int32)]) (pc' := 8) (ls' := [(0, .inr (.inr (14, 6, 0)))]) (st' := []) rfl rfl (f_X7_isHere_ok e2) ?_
  refine xq_ite h (fun c46 h => ?_) (fun c46 h => ?_)
  · refine xq_core (pc' := 28) (ls' := [(0, .inr (.inr (14, 6, 0)))]) (st' := []) rfl (if_pos c46) ?_
    refine xq_blk 3 (pc' := 33) (ls' := [(0, .inr (.inr (14, 6, 0)))]) (st' := [.inl (46 : Int32), .inl (46 : Int32), .inr (.inr (14, 6, 0))]) (M' := M) rfl ?_
    refine xq_bind h (fun q3 e4 h => ?_)
    refine xq_call (j := 180) (as := [.inr (.inr (14, 6, 0)), .inl (46 : Int32), .inl (46 : Int32)]) (pc' := 36) (ls' := [(0, .inr (.inr (14, 6, 0)))]) (st' := []) rfl rfl (f_X7_isHere_ok e4) ?_
    refine xq_ite h (fun c41 h => ?_) (fun c41 h => ?_)
    · refine xq_core (pc' := 74) (ls' := [(0, .inr (.inr (14, 6, 0)))]) (st' := []) rfl (if_pos c41) ?_
      refine xq_blk 4 (pc' := 80) (ls' := [(0, .inr (.inr (14, 6, 0)))]) (st' := [.inl (84 : Int32), .inl (65 : Int32), .inr (.inr (14, 6, 0)), .inr (.inr (14, 6, 0))]) (M' := M) rfl ?_
      refine xq_bind h (fun q5 e6 h => ?_)
      refine xq_call (j := 181) (as := [.inr (.inr (14, 6, 0)), .inl (65 : Int32), .inl (84 : Int32)]) (pc' := 83) (ls' := [(0, .inr (.inr (14, 6, 0)))]) (st' := [.inr (.inr (14, 6, 0))]) rfl rfl (f_X7_reads_ok e6) ?_
      refine xq_blk 5 (pc' := 93) (ls' := [(0, .inr (.inr (14, 6, 0)))]) (st' := [.inl ((xd_up q5.2 6 0 6 (q5.1 - (65 : Int32))).1 6 0 6)]) (M' := xd_up q5.2 6 0 6 (q5.1 - (65 : Int32))) rfl ?_
      refine xq_ite h (fun c35 h => ?_) (fun c35 h => ?_)
      · refine xq_core (pc' := 96) (ls' := [(0, .inr (.inr (14, 6, 0)))]) (st' := []) rfl (if_pos c35) ?_
        refine xq_blk 1 (pc' := 97) (ls' := [(0, .inr (.inr (14, 6, 0)))]) (st' := [.inl (0 : Int32)]) (M' := xd_up q5.2 6 0 6 (q5.1 - (65 : Int32))) rfl ?_
        exact (hr _ (Option.some.inj h).symm) ▸ xq_ret rfl
      · refine xq_core (pc' := 98) (ls' := [(0, .inr (.inr (14, 6, 0)))]) (st' := []) rfl (if_neg c35) ?_
        refine xq_blk 4 (pc' := 104) (ls' := [(0, .inr (.inr (14, 6, 0)))]) (st' := [.inl (63 : Int32), .inl (63 : Int32), .inr (.inr (14, 6, 0)), .inr (.inr (14, 6, 0))]) (M' := xd_up q5.2 6 0 6 (q5.1 - (65 : Int32))) rfl ?_
        refine xq_bind h (fun q7 e8 h => ?_)
        refine xq_call (j := 180) (as := [.inr (.inr (14, 6, 0)), .inl (63 : Int32), .inl (63 : Int32)]) (pc' := 107) (ls' := [(0, .inr (.inr (14, 6, 0)))]) (st' := [.inr (.inr (14, 6, 0))]) rfl rfl (f_X7_isHere_ok e8) ?_
        refine xq_ite h (fun c34 h => ?_) (fun c34 h => ?_)
        · refine xq_core (pc' := 110) (ls' := [(0, .inr (.inr (14, 6, 0)))]) (st' := [.inr (.inr (14, 6, 0))]) rfl (if_pos c34) ?_
          refine xq_blk 3 (pc' := 115) (ls' := [(0, .inr (.inr (14, 6, 0)))]) (st' := [.inl (112 : Int32), .inl (112 : Int32), .inr (.inr (14, 6, 0)), .inr (.inr (14, 6, 0))]) (M' := xd_up q5.2 6 0 6 (q5.1 - (65 : Int32))) rfl ?_
          refine xq_bind h (fun q9 e10 h => ?_)
          refine xq_call (j := 180) (as := [.inr (.inr (14, 6, 0)), .inl (112 : Int32), .inl (112 : Int32)]) (pc' := 118) (ls' := [(0, .inr (.inr (14, 6, 0)))]) (st' := [.inr (.inr (14, 6, 0))]) rfl rfl (f_X7_isHere_ok e10) ?_
          refine xq_ite h (fun c33 h => ?_) (fun c33 h => ?_)
          · refine xq_core (pc' := 121) (ls' := [(0, .inr (.inr (14, 6, 0)))]) (st' := [.inr (.inr (14, 6, 0))]) rfl (if_pos c33) ?_
            refine xq_blk 3 (pc' := 126) (ls' := [(0, .inr (.inr (14, 6, 0)))]) (st' := [.inl (114 : Int32), .inl (114 : Int32), .inr (.inr (14, 6, 0)), .inr (.inr (14, 6, 0))]) (M' := xd_up q5.2 6 0 6 (q5.1 - (65 : Int32))) rfl ?_
            refine xq_bind h (fun q11 e12 h => ?_)
            refine xq_call (j := 180) (as := [.inr (.inr (14, 6, 0)), .inl (114 : Int32), .inl (114 : Int32)]) (pc' := 129) (ls' := [(0, .inr (.inr (14, 6, 0)))]) (st' := [.inr (.inr (14, 6, 0))]) rfl rfl (f_X7_isHere_ok e12) ?_
            refine xq_ite h (fun c32 h => ?_) (fun c32 h => ?_)
            · refine xq_core (pc' := 132) (ls' := [(0, .inr (.inr (14, 6, 0)))]) (st' := [.inr (.inr (14, 6, 0))]) rfl (if_pos c32) ?_
              refine xq_blk 3 (pc' := 137) (ls' := [(0, .inr (.inr (14, 6, 0)))]) (st' := [.inl (97 : Int32), .inl (97 : Int32), .inr (.inr (14, 6, 0)), .inr (.inr (14, 6, 0))]) (M' := xd_up q5.2 6 0 6 (q5.1 - (65 : Int32))) rfl ?_
              refine xq_bind h (fun q13 e14 h => ?_)
              refine xq_call (j := 180) (as := [.inr (.inr (14, 6, 0)), .inl (97 : Int32), .inl (97 : Int32)]) (pc' := 140) (ls' := [(0, .inr (.inr (14, 6, 0)))]) (st' := [.inr (.inr (14, 6, 0))]) rfl rfl (f_X7_isHere_ok e14) ?_
              refine xq_ite h (fun c31 h => ?_) (fun c31 h => ?_)
              · refine xq_core (pc' := 143) (ls' := [(0, .inr (.inr (14, 6, 0)))]) (st' := [.inr (.inr (14, 6, 0))]) rfl (if_pos c31) ?_
                refine xq_blk 3 (pc' := 148) (ls' := [(0, .inr (.inr (14, 6, 0)))]) (st' := [.inl (102 : Int32), .inl (102 : Int32), .inr (.inr (14, 6, 0)), .inr (.inr (14, 6, 0))]) (M' := xd_up q5.2 6 0 6 (q5.1 - (65 : Int32))) rfl ?_
                refine xq_bind h (fun q15 e16 h => ?_)
                refine xq_call (j := 180) (as := [.inr (.inr (14, 6, 0)), .inl (102 : Int32), .inl (102 : Int32)]) (pc' := 151) (ls' := [(0, .inr (.inr (14, 6, 0)))]) (st' := [.inr (.inr (14, 6, 0))]) rfl rfl (f_X7_isHere_ok e16) ?_
                refine xq_ite h (fun c30 h => ?_) (fun c30 h => ?_)
                · refine xq_core (pc' := 165) (ls' := [(0, .inr (.inr (14, 6, 0)))]) (st' := [.inr (.inr (14, 6, 0))]) rfl (if_pos c30) ?_
                  refine xq_blk 1 (pc' := 167) (ls' := [(0, .inr (.inr (14, 6, 0)))]) (st' := [.inl (-6 : Int32), .inr (.inr (14, 6, 0))]) (M' := xd_up q5.2 6 0 6 (q5.1 - (65 : Int32))) rfl ?_
                  exact xq_sub (a := [(0, .inr (.inr (14, 6, 0)))]) ⟨rfl, trivial⟩ rfl (f_X7_readsDeed_j167_ok h hr)
                · refine xq_core (pc' := 154) (ls' := [(0, .inr (.inr (14, 6, 0)))]) (st' := [.inr (.inr (14, 6, 0))]) rfl (if_neg c30) ?_
                  exact xq_sub (a := [(0, .inr (.inr (14, 6, 0)))]) ⟨rfl, trivial⟩ rfl (f_X7_readsDeed_j154_ok h hr)
              · refine xq_core (pc' := 154) (ls' := [(0, .inr (.inr (14, 6, 0)))]) (st' := [.inr (.inr (14, 6, 0))]) rfl (if_neg c31) ?_
                exact xq_sub (a := [(0, .inr (.inr (14, 6, 0)))]) ⟨rfl, trivial⟩ rfl (f_X7_readsDeed_j154_ok h hr)
            · refine xq_core (pc' := 154) (ls' := [(0, .inr (.inr (14, 6, 0)))]) (st' := [.inr (.inr (14, 6, 0))]) rfl (if_neg c32) ?_
              exact xq_sub (a := [(0, .inr (.inr (14, 6, 0)))]) ⟨rfl, trivial⟩ rfl (f_X7_readsDeed_j154_ok h hr)
          · refine xq_core (pc' := 154) (ls' := [(0, .inr (.inr (14, 6, 0)))]) (st' := [.inr (.inr (14, 6, 0))]) rfl (if_neg c33) ?_
            exact xq_sub (a := [(0, .inr (.inr (14, 6, 0)))]) ⟨rfl, trivial⟩ rfl (f_X7_readsDeed_j154_ok h hr)
        · refine xq_core (pc' := 154) (ls' := [(0, .inr (.inr (14, 6, 0)))]) (st' := [.inr (.inr (14, 6, 0))]) rfl (if_neg c34) ?_
          exact xq_sub (a := [(0, .inr (.inr (14, 6, 0)))]) ⟨rfl, trivial⟩ rfl (f_X7_readsDeed_j154_ok h hr)
    · refine xq_core (pc' := 39) (ls' := [(0, .inr (.inr (14, 6, 0)))]) (st' := []) rfl (if_neg c41) ?_
      refine xq_blk 4 (pc' := 45) (ls' := [(0, .inr (.inr (14, 6, 0)))]) (st' := [.inl (46 : Int32), .inl (46 : Int32), .inr (.inr (14, 6, 0)), .inr (.inr (14, 6, 0))]) (M' := M) rfl ?_
      refine xq_bind h (fun q36 e37 h => ?_)
      refine xq_call (j := 181) (as := [.inr (.inr (14, 6, 0)), .inl (46 : Int32), .inl (46 : Int32)]) (pc' := 48) (ls' := [(0, .inr (.inr (14, 6, 0)))]) (st' := [.inr (.inr (14, 6, 0))]) rfl rfl (f_X7_reads_ok e37) ?_
      refine xq_blk 3 (pc' := 53) (ls' := [(0, .inr (.inr (14, 6, 0)))]) (st' := [.inr (.inr (14, 6, 0)), .inr (.inr (14, 6, 0))]) (M' := xd_up q36.2 6 0 7 q36.1) rfl ?_
      refine xq_bind h (fun q38 e39 h => ?_)
      refine xq_call (j := 182) (as := [.inr (.inr (14, 6, 0))]) (pc' := 56) (ls' := [(0, .inr (.inr (14, 6, 0)))]) (st' := [.inr (.inr (14, 6, 0))]) rfl rfl (f_X7_number_ok e39) ?_
      refine xq_blk 4 (pc' := 65) (ls' := [(0, .inr (.inr (14, 6, 0)))]) (st' := [.inl (-6 : Int32), .inl ((xd_up q38.2 6 0 9 q38.1).1 6 0 9)]) (M' := xd_up q38.2 6 0 9 q38.1) rfl ?_
      refine xq_ite h (fun c40 h => ?_) (fun c40 h => ?_)
      · refine xq_core (pc' := 72) (ls' := [(0, .inr (.inr (14, 6, 0)))]) (st' := []) rfl (if_pos c40) ?_
        refine xq_blk 1 (pc' := 73) (ls' := [(0, .inr (.inr (14, 6, 0)))]) (st' := [.inl (0 : Int32)]) (M' := xd_up q38.2 6 0 9 q38.1) rfl ?_
        exact (hr _ (Option.some.inj h).symm) ▸ xq_ret rfl
      · refine xq_core (pc' := 68) (ls' := [(0, .inr (.inr (14, 6, 0)))]) (st' := []) rfl (if_neg c40) ?_
        refine xq_blk 2 (pc' := 73) (ls' := [(0, .inr (.inr (14, 6, 0)))]) (st' := [.inl (1 : Int32)]) (M' := xd_up q38.2 6 0 9 q38.1) rfl ?_
        exact (hr _ (Option.some.inj h).symm) ▸ xq_ret rfl
  · refine xq_core (pc' := 11) (ls' := [(0, .inr (.inr (14, 6, 0)))]) (st' := []) rfl (if_neg c46) ?_
    refine xq_blk 4 (pc' := 17) (ls' := [(0, .inr (.inr (14, 6, 0)))]) (st' := [.inl (115 : Int32), .inl (115 : Int32), .inr (.inr (14, 6, 0)), .inr (.inr (14, 6, 0))]) (M' := M) rfl ?_
    refine xq_bind h (fun q42 e43 h => ?_)
    refine xq_call (j := 181) (as := [.inr (.inr (14, 6, 0)), .inl (115 : Int32), .inl (115 : Int32)]) (pc' := 20) (ls' := [(0, .inr (.inr (14, 6, 0)))]) (st' := [.inr (.inr (14, 6, 0))]) rfl rfl (f_X7_reads_ok e43) ?_
    refine xq_blk 2 (pc' := 24) (ls' := [(0, .inr (.inr (14, 6, 0)))]) (st' := [.inr (.inr (14, 6, 0))]) (M' := xd_up q42.2 6 0 7 q42.1) rfl ?_
    refine xq_bind h (fun q44 e45 h => ?_)
    refine xq_call (j := 183) (as := [.inr (.inr (14, 6, 0))]) (pc' := 27) (ls' := [(0, .inr (.inr (14, 6, 0)))]) (st' := []) rfl rfl (f_X7_readsShed_ok e45) ?_
    exact (hr _ (Option.some.inj h).symm) ▸ xq_ret rfl
theorem f_X7_readsDeed_ok {X : List Int32}  {M : xM} {p : Int32 × xM} (h : f_X7_readsDeed  M = some p) : xq X xe 184 0 [(0, .inr (.inr (14, 6, 0)))] [] M ((some (.inl p.1), p.2) : xR) := f_X7_readsDeed_run h (fun q e => by rw [e])
def f_X7_fault_l7  (s7 : Int32 × xM) : Option ((Int32 × xM) ⊕ (Int32 × xM)) := if s7.1 = (0 : Int32) then (Option.map Sum.inr (if (s7.2.1 6 0 5) = (s7.2.1 6 0 4) then (some (((-6 : Int32), s7.2))) else (some ((s7.2.1 6 0 5, s7.2))))) else ((f_X7_readsDeed s7.2).bind (fun q2 => if q2.1 = (0 : Int32) then (Option.map Sum.inr (some ((q2.2.1 6 0 5, q2.2)))) else ((f_X7_reads (59 : Int32) (59 : Int32) q2.2).bind (fun q4 => if q4.1 = (-6 : Int32) then (some (.inl ((0 : Int32), q4.2))) else (some (.inl ((1 : Int32), q4.2)))))))
theorem f_X7_fault_l7_ok {X : List Int32}  {s7 : Int32 × xM} {p : (Int32 × xM) ⊕ (Int32 × xM)} {r : xR} (h : f_X7_fault_l7  s7 = some p) (h0 : ∀ s', p = .inl s' → xq X xe 185 7 [(0, .inr (.inr (14, 6, 0))), (1, .inl s'.1)] [] s'.2 r) (hr : ∀ q, p = .inr (q) → ((some (.inl q.1), q.2) : xR) = r) : xq X xe 185 7 [(0, .inr (.inr (14, 6, 0))), (1, .inl s7.1)] [] s7.2 r := by
  unfold f_X7_fault_l7 at h
  refine xq_blk 1 (pc' := 8) (ls' := [(0, .inr (.inr (14, 6, 0))), (1, .inl s7.1)]) (st' := [.inl s7.1]) (M' := s7.2) rfl ?_
  refine xq_ite h (fun c8 h => ?_) (fun c8 h => ?_)
  · refine xq_core (pc' := 45) (ls' := [(0, .inr (.inr (14, 6, 0))), (1, .inl s7.1)]) (st' := []) rfl (if_pos c8) ?_
    refine xq_map h (fun p h e => ?_)
    replace hr := fun q e' => hr q (e.symm.trans (congrArg Sum.inr e'))
    clear e
    refine xq_blk 4 (pc' := 53) (ls' := [(0, .inr (.inr (14, 6, 0))), (1, .inl s7.1)]) (st' := [.inl (s7.2.1 6 0 4), .inl (s7.2.1 6 0 5)]) (M' := s7.2) rfl ?_
    refine xq_ite h (fun c1 h => ?_) (fun c1 h => ?_)
    · refine xq_core (pc' := 56) (ls' := [(0, .inr (.inr (14, 6, 0))), (1, .inl s7.1)]) (st' := []) rfl (if_pos c1) ?_
      refine xq_blk 2 (pc' := 65) (ls' := [(0, .inr (.inr (14, 6, 0))), (1, .inl s7.1)]) (st' := [.inl (-6 : Int32)]) (M' := s7.2) rfl ?_
      exact (hr _ (Option.some.inj h).symm) ▸ xq_ret rfl
    · refine xq_core (pc' := 61) (ls' := [(0, .inr (.inr (14, 6, 0))), (1, .inl s7.1)]) (st' := []) rfl (if_neg c1) ?_
      refine xq_blk 2 (pc' := 65) (ls' := [(0, .inr (.inr (14, 6, 0))), (1, .inl s7.1)]) (st' := [.inl (s7.2.1 6 0 5)]) (M' := s7.2) rfl ?_
      exact (hr _ (Option.some.inj h).symm) ▸ xq_ret rfl
  · refine xq_core (pc' := 11) (ls' := [(0, .inr (.inr (14, 6, 0))), (1, .inl s7.1)]) (st' := []) rfl (if_neg c8) ?_
    refine xq_blk 1 (pc' := 12) (ls' := [(0, .inr (.inr (14, 6, 0))), (1, .inl s7.1)]) (st' := [.inr (.inr (14, 6, 0))]) (M' := s7.2) rfl ?_
    refine xq_bind h (fun q2 e3 h => ?_)
    refine xq_call (j := 184) (as := [.inr (.inr (14, 6, 0))]) (pc' := 15) (ls' := [(0, .inr (.inr (14, 6, 0))), (1, .inl s7.1)]) (st' := []) rfl rfl (f_X7_readsDeed_ok e3) ?_
    refine xq_ite h (fun c7 h => ?_) (fun c7 h => ?_)
    · refine xq_core (pc' := 18) (ls' := [(0, .inr (.inr (14, 6, 0))), (1, .inl s7.1)]) (st' := []) rfl (if_pos c7) ?_
      refine xq_map h (fun p h e => ?_)
      replace hr := fun q e' => hr q (e.symm.trans (congrArg Sum.inr e'))
      clear e
      refine xq_blk 2 (pc' := 22) (ls' := [(0, .inr (.inr (14, 6, 0))), (1, .inl s7.1)]) (st' := [.inl (q2.2.1 6 0 5)]) (M' := q2.2) rfl ?_
      exact (hr _ (Option.some.inj h).symm) ▸ xq_ret rfl
    · refine xq_core (pc' := 23) (ls' := [(0, .inr (.inr (14, 6, 0))), (1, .inl s7.1)]) (st' := []) rfl (if_neg c7) ?_
      refine xq_blk 3 (pc' := 28) (ls' := [(0, .inr (.inr (14, 6, 0))), (1, .inl s7.1)]) (st' := [.inl (59 : Int32), .inl (59 : Int32), .inr (.inr (14, 6, 0))]) (M' := q2.2) rfl ?_
      refine xq_bind h (fun q4 e5 h => ?_)
      refine xq_call (j := 181) (as := [.inr (.inr (14, 6, 0)), .inl (59 : Int32), .inl (59 : Int32)]) (pc' := 31) (ls' := [(0, .inr (.inr (14, 6, 0))), (1, .inl s7.1)]) (st' := []) rfl rfl (f_X7_reads_ok e5) ?_
      refine xq_blk 1 (pc' := 33) (ls' := [(0, .inr (.inr (14, 6, 0))), (1, .inl s7.1)]) (st' := [.inl (-6 : Int32), .inl q4.1]) (M' := q4.2) rfl ?_
      refine xq_ite h (fun c6 h => ?_) (fun c6 h => ?_)
      · refine xq_core (pc' := 40) (ls' := [(0, .inr (.inr (14, 6, 0))), (1, .inl s7.1)]) (st' := []) rfl (if_pos c6) ?_
        refine xq_blk 3 (pc' := 7) (ls' := [(1, .inl (0 : Int32)), (0, .inr (.inr (14, 6, 0)))]) (st' := []) (M' := q4.2) rfl ?_
        exact xq_sub (a := [(0, .inr (.inr (14, 6, 0))), (1, .inl (((0 : Int32), q4.2).1))]) ⟨rfl, rfl, trivial⟩ rfl (h0 ((0 : Int32), q4.2) (Option.some.inj h).symm)
      · refine xq_core (pc' := 36) (ls' := [(0, .inr (.inr (14, 6, 0))), (1, .inl s7.1)]) (st' := []) rfl (if_neg c6) ?_
        refine xq_blk 4 (pc' := 7) (ls' := [(1, .inl (1 : Int32)), (0, .inr (.inr (14, 6, 0)))]) (st' := []) (M' := q4.2) rfl ?_
        exact xq_sub (a := [(0, .inr (.inr (14, 6, 0))), (1, .inl (((1 : Int32), q4.2).1))]) ⟨rfl, rfl, trivial⟩ rfl (h0 ((1 : Int32), q4.2) (Option.some.inj h).symm)
def f_X7_fault  (M : xM) : Option (Int32 × xM) := xlp (f_X7_fault_l7) 4000 ((1 : Int32), xd_up M 6 0 5 (0 : Int32))
theorem f_X7_fault_run {X : List Int32}  {M : xM} {p : Int32 × xM} {r : xR} (h : f_X7_fault  M = some p) (hr : ∀ q, p = q → ((some (.inl q.1), q.2) : xR) = r) : xq X xe 185 0 [(0, .inr (.inr (14, 6, 0)))] [] M r := by
  unfold f_X7_fault at h
  refine xq_blk 5 (pc' := 7) (ls' := [(1, .inl (1 : Int32)), (0, .inr (.inr (14, 6, 0)))]) (st' := []) (M' := xd_up M 6 0 5 (0 : Int32)) rfl ?_
  refine xq_sub (a := [(0, .inr (.inr (14, 6, 0))), (1, .inl (1 : Int32))]) ⟨rfl, rfl, trivial⟩ rfl ?_
  exact xlp_ok (P := fun s7 => xq X xe 185 7 [(0, .inr (.inr (14, 6, 0))), (1, .inl s7.1)] [] s7.2 r) (fun s p' hb g0 g1 => f_X7_fault_l7_ok hb g0 (fun q e => hr q (g1 _ e).symm)) 4000 _ h
theorem f_X7_fault_ok {X : List Int32}  {M : xM} {p : Int32 × xM} (h : f_X7_fault  M = some p) : xq X xe 185 0 [(0, .inr (.inr (14, 6, 0)))] [] M ((some (.inl p.1), p.2) : xR) := f_X7_fault_run h (fun q e => by rw [e])
def f_X7_does  (M : xM) : Option (Int32 × xM) := if (M.1 6 0 7) = (46 : Int32) then ((f_X7_days (0 : Int32) (M.1 6 0 9) M).bind (fun q1 => some ((q1.1, q1.2)))) else (if (M.1 6 0 7) = (63 : Int32) then ((f_X7_asksFor (0 : Int32) (M.1 6 0 6) (M.1 6 0 8) (M.1 6 0 9) M).bind (fun q4 => some ((q4.1, q4.2)))) else (if (M.1 6 0 7) = (97 : Int32) then ((f_X7_answers (M.1 6 0 6) M).bind (fun q7 => some ((q7.1, q7.2)))) else (if (M.1 6 0 7) = (102 : Int32) then ((f_X7_fetches (M.1 6 0 6) M).bind (fun q10 => some ((q10.1, q10.2)))) else (if (M.1 6 0 7) = (112 : Int32) then ((f_X7_parks (M.1 6 0 6) M).bind (fun q13 => some ((q13.1, q13.2)))) else (if (M.1 6 0 7) = (114 : Int32) then ((f_X7_rides (M.1 6 0 6) M).bind (fun q16 => some ((q16.1, q16.2)))) else ((f_X7_sweeps (0 : Int32) (M.1 6 0 8) M).bind (fun q19 => some ((q19.1, q19.2)))))))))
theorem f_X7_does_run {X : List Int32}  {M : xM} {p : Int32 × xM} {r : xR} (h : f_X7_does  M = some p) (hr : ∀ q, p = q → ((some (.inl q.1), q.2) : xR) = r) : xq X xe 187 0 [(0, .inr (.inr (14, 6, 0)))] [] M r := by
  unfold f_X7_does at h
  refine xq_blk 2 (pc' := 4) (ls' := [(0, .inr (.inr (14, 6, 0)))]) (st' := [.inl (M.1 6 0 7)]) (M' := M) rfl ?_
  refine xq_ite h (fun c3 h => ?_) (fun c3 h => ?_)
  · refine xq_lsw (pc' := 118) (ls' := [(0, .inr (.inr (14, 6, 0)))]) (st' := []) rfl rfl (if_pos c3) ?_
    refine xq_blk 4 (pc' := 124) (ls' := [(0, .inr (.inr (14, 6, 0)))]) (st' := [.inl (M.1 6 0 9), .inl (0 : Int32), .inr (.inr (14, 6, 0))]) (M' := M) rfl ?_
    refine xq_bind h (fun q1 e2 h => ?_)
    refine xq_call (j := 135) (as := [.inr (.inr (14, 6, 0)), .inl (0 : Int32), .inl (M.1 6 0 9)]) (pc' := 127) (ls' := [(0, .inr (.inr (14, 6, 0)))]) (st' := []) rfl rfl (f_X7_days_ok e2) ?_
    exact (hr _ (Option.some.inj h).symm) ▸ xq_ret rfl
  · refine xq_ite h (fun c6 h => ?_) (fun c6 h => ?_)
    · refine xq_lsw (pc' := 64) (ls' := [(0, .inr (.inr (14, 6, 0)))]) (st' := []) rfl rfl (Eq.trans (if_neg c3) (if_pos c6)) ?_
      refine xq_blk 8 (pc' := 78) (ls' := [(0, .inr (.inr (14, 6, 0)))]) (st' := [.inl (M.1 6 0 9), .inl (M.1 6 0 8), .inl (M.1 6 0 6), .inl (0 : Int32), .inr (.inr (14, 6, 0))]) (M' := M) rfl ?_
      refine xq_bind h (fun q4 e5 h => ?_)
      refine xq_call (j := 132) (as := [.inr (.inr (14, 6, 0)), .inl (0 : Int32), .inl (M.1 6 0 6), .inl (M.1 6 0 8), .inl (M.1 6 0 9)]) (pc' := 81) (ls' := [(0, .inr (.inr (14, 6, 0)))]) (st' := []) rfl rfl (f_X7_asksFor_ok e5) ?_
      exact (hr _ (Option.some.inj h).symm) ▸ xq_ret rfl
    · refine xq_ite h (fun c9 h => ?_) (fun c9 h => ?_)
      · refine xq_lsw (pc' := 100) (ls' := [(0, .inr (.inr (14, 6, 0)))]) (st' := []) rfl rfl (Eq.trans (if_neg c3) (Eq.trans (if_neg c6) (if_pos c9))) ?_
        refine xq_blk 3 (pc' := 105) (ls' := [(0, .inr (.inr (14, 6, 0)))]) (st' := [.inl (M.1 6 0 6), .inr (.inr (14, 6, 0))]) (M' := M) rfl ?_
        refine xq_bind h (fun q7 e8 h => ?_)
        refine xq_call (j := 152) (as := [.inr (.inr (14, 6, 0)), .inl (M.1 6 0 6)]) (pc' := 108) (ls' := [(0, .inr (.inr (14, 6, 0)))]) (st' := []) rfl rfl (f_X7_answers_ok e8) ?_
        exact (hr _ (Option.some.inj h).symm) ▸ xq_ret rfl
      · refine xq_ite h (fun c12 h => ?_) (fun c12 h => ?_)
        · refine xq_lsw (pc' := 109) (ls' := [(0, .inr (.inr (14, 6, 0)))]) (st' := []) rfl rfl (Eq.trans (if_neg c3) (Eq.trans (if_neg c6) (Eq.trans (if_neg c9) (if_pos c12)))) ?_
          refine xq_blk 3 (pc' := 114) (ls' := [(0, .inr (.inr (14, 6, 0)))]) (st' := [.inl (M.1 6 0 6), .inr (.inr (14, 6, 0))]) (M' := M) rfl ?_
          refine xq_bind h (fun q10 e11 h => ?_)
          refine xq_call (j := 153) (as := [.inr (.inr (14, 6, 0)), .inl (M.1 6 0 6)]) (pc' := 117) (ls' := [(0, .inr (.inr (14, 6, 0)))]) (st' := []) rfl rfl (f_X7_fetches_ok e11) ?_
          exact (hr _ (Option.some.inj h).symm) ▸ xq_ret rfl
        · refine xq_ite h (fun c15 h => ?_) (fun c15 h => ?_)
          · refine xq_lsw (pc' := 82) (ls' := [(0, .inr (.inr (14, 6, 0)))]) (st' := []) rfl rfl (Eq.trans (if_neg c3) (Eq.trans (if_neg c6) (Eq.trans (if_neg c9) (Eq.trans (if_neg c12) (if_pos c15))))) ?_
            refine xq_blk 3 (pc' := 87) (ls' := [(0, .inr (.inr (14, 6, 0)))]) (st' := [.inl (M.1 6 0 6), .inr (.inr (14, 6, 0))]) (M' := M) rfl ?_
            refine xq_bind h (fun q13 e14 h => ?_)
            refine xq_call (j := 150) (as := [.inr (.inr (14, 6, 0)), .inl (M.1 6 0 6)]) (pc' := 90) (ls' := [(0, .inr (.inr (14, 6, 0)))]) (st' := []) rfl rfl (f_X7_parks_ok e14) ?_
            exact (hr _ (Option.some.inj h).symm) ▸ xq_ret rfl
          · refine xq_ite h (fun c18 h => ?_) (fun c18 h => ?_)
            · refine xq_lsw (pc' := 91) (ls' := [(0, .inr (.inr (14, 6, 0)))]) (st' := []) rfl rfl (Eq.trans (if_neg c3) (Eq.trans (if_neg c6) (Eq.trans (if_neg c9) (Eq.trans (if_neg c12) (Eq.trans (if_neg c15) (if_pos c18)))))) ?_
              refine xq_blk 3 (pc' := 96) (ls' := [(0, .inr (.inr (14, 6, 0)))]) (st' := [.inl (M.1 6 0 6), .inr (.inr (14, 6, 0))]) (M' := M) rfl ?_
              refine xq_bind h (fun q16 e17 h => ?_)
              refine xq_call (j := 151) (as := [.inr (.inr (14, 6, 0)), .inl (M.1 6 0 6)]) (pc' := 99) (ls' := [(0, .inr (.inr (14, 6, 0)))]) (st' := []) rfl rfl (f_X7_rides_ok e17) ?_
              exact (hr _ (Option.some.inj h).symm) ▸ xq_ret rfl
            · refine xq_lsw (pc' := 128) (ls' := [(0, .inr (.inr (14, 6, 0)))]) (st' := []) rfl rfl (Eq.trans (if_neg c3) (Eq.trans (if_neg c6) (Eq.trans (if_neg c9) (Eq.trans (if_neg c12) (Eq.trans (if_neg c15) (Eq.trans (if_neg c18) (rfl))))))) ?_
              refine xq_blk 4 (pc' := 134) (ls' := [(0, .inr (.inr (14, 6, 0)))]) (st' := [.inl (M.1 6 0 8), .inl (0 : Int32), .inr (.inr (14, 6, 0))]) (M' := M) rfl ?_
              refine xq_bind h (fun q19 e20 h => ?_)
              refine xq_call (j := 139) (as := [.inr (.inr (14, 6, 0)), .inl (0 : Int32), .inl (M.1 6 0 8)]) (pc' := 137) (ls' := [(0, .inr (.inr (14, 6, 0)))]) (st' := []) rfl rfl (f_X7_sweeps_ok e20) ?_
              exact (hr _ (Option.some.inj h).symm) ▸ xq_ret rfl
theorem f_X7_does_ok {X : List Int32}  {M : xM} {p : Int32 × xM} (h : f_X7_does  M = some p) : xq X xe 187 0 [(0, .inr (.inr (14, 6, 0)))] [] M ((some (.inl p.1), p.2) : xR) := f_X7_does_run h (fun q e => by rw [e])
def f_X7_deedError  (M : xM) : Option (Int32) := if (M.1 6 0 7) = (46 : Int32) then ((f_X7_passError (M.1 6 0 9) M).bind (fun q1 => some (q1))) else (if (M.1 6 0 7) = (63 : Int32) then ((f_X7_askError (M.1 6 0 6) (M.1 6 0 8) (M.1 6 0 9) M).bind (fun q4 => some (q4))) else (if (M.1 6 0 7) = (97 : Int32) then ((f_X7_rackError (M.1 6 0 6) M).bind (fun q7 => some (q7))) else (if (M.1 6 0 7) = (102 : Int32) then ((f_X7_fetchError (M.1 6 0 6) M).bind (fun q10 => some (q10))) else (if (M.1 6 0 7) = (112 : Int32) then ((f_X7_parkError (M.1 6 0 6) M).bind (fun q13 => some (q13))) else (if (M.1 6 0 7) = (114 : Int32) then ((f_X7_rackError (M.1 6 0 6) M).bind (fun q16 => some (q16))) else (some ((0 : Int32))))))))
theorem f_X7_deedError_run {X : List Int32}  {M : xM} {p : Int32} {r : xR} (h : f_X7_deedError  M = some p) (hr : ∀ q, p = q → ((some (.inl q), M) : xR) = r) : xq X xe 186 0 [(0, .inr (.inr (14, 6, 0)))] [] M r := by
  unfold f_X7_deedError at h
  refine xq_blk 2 (pc' := 4) (ls' := [(0, .inr (.inr (14, 6, 0)))]) (st' := [.inl (M.1 6 0 7)]) (M' := M) rfl ?_
  refine xq_ite h (fun c3 h => ?_) (fun c3 h => ?_)
  · refine xq_lsw (pc' := 108) (ls' := [(0, .inr (.inr (14, 6, 0)))]) (st' := []) rfl rfl (if_pos c3) ?_
    refine xq_blk 3 (pc' := 113) (ls' := [(0, .inr (.inr (14, 6, 0)))]) (st' := [.inl (M.1 6 0 9), .inr (.inr (14, 6, 0))]) (M' := M) rfl ?_
    refine xq_bind h (fun q1 e2 h => ?_)
    refine xq_call (j := 149) (as := [.inr (.inr (14, 6, 0)), .inl (M.1 6 0 9)]) (pc' := 116) (ls' := [(0, .inr (.inr (14, 6, 0)))]) (st' := []) rfl rfl (f_X7_passError_ok e2) ?_
    exact (hr _ (Option.some.inj h).symm) ▸ xq_ret rfl
  · refine xq_ite h (fun c6 h => ?_) (fun c6 h => ?_)
    · refine xq_lsw (pc' := 64) (ls' := [(0, .inr (.inr (14, 6, 0)))]) (st' := []) rfl rfl (Eq.trans (if_neg c3) (if_pos c6)) ?_
      refine xq_blk 7 (pc' := 77) (ls' := [(0, .inr (.inr (14, 6, 0)))]) (st' := [.inl (M.1 6 0 9), .inl (M.1 6 0 8), .inl (M.1 6 0 6), .inr (.inr (14, 6, 0))]) (M' := M) rfl ?_
      refine xq_bind h (fun q4 e5 h => ?_)
      refine xq_call (j := 145) (as := [.inr (.inr (14, 6, 0)), .inl (M.1 6 0 6), .inl (M.1 6 0 8), .inl (M.1 6 0 9)]) (pc' := 80) (ls' := [(0, .inr (.inr (14, 6, 0)))]) (st' := []) rfl rfl (f_X7_askError_ok e5) ?_
      exact (hr _ (Option.some.inj h).symm) ▸ xq_ret rfl
    · refine xq_ite h (fun c9 h => ?_) (fun c9 h => ?_)
      · refine xq_lsw (pc' := 90) (ls' := [(0, .inr (.inr (14, 6, 0)))]) (st' := []) rfl rfl (Eq.trans (if_neg c3) (Eq.trans (if_neg c6) (if_pos c9))) ?_
        refine xq_blk 3 (pc' := 95) (ls' := [(0, .inr (.inr (14, 6, 0)))]) (st' := [.inl (M.1 6 0 6), .inr (.inr (14, 6, 0))]) (M' := M) rfl ?_
        refine xq_bind h (fun q7 e8 h => ?_)
        refine xq_call (j := 147) (as := [.inr (.inr (14, 6, 0)), .inl (M.1 6 0 6)]) (pc' := 98) (ls' := [(0, .inr (.inr (14, 6, 0)))]) (st' := []) rfl rfl (f_X7_rackError_ok e8) ?_
        exact (hr _ (Option.some.inj h).symm) ▸ xq_ret rfl
      · refine xq_ite h (fun c12 h => ?_) (fun c12 h => ?_)
        · refine xq_lsw (pc' := 99) (ls' := [(0, .inr (.inr (14, 6, 0)))]) (st' := []) rfl rfl (Eq.trans (if_neg c3) (Eq.trans (if_neg c6) (Eq.trans (if_neg c9) (if_pos c12)))) ?_
          refine xq_blk 3 (pc' := 104) (ls' := [(0, .inr (.inr (14, 6, 0)))]) (st' := [.inl (M.1 6 0 6), .inr (.inr (14, 6, 0))]) (M' := M) rfl ?_
          refine xq_bind h (fun q10 e11 h => ?_)
          refine xq_call (j := 148) (as := [.inr (.inr (14, 6, 0)), .inl (M.1 6 0 6)]) (pc' := 107) (ls' := [(0, .inr (.inr (14, 6, 0)))]) (st' := []) rfl rfl (f_X7_fetchError_ok e11) ?_
          exact (hr _ (Option.some.inj h).symm) ▸ xq_ret rfl
        · refine xq_ite h (fun c15 h => ?_) (fun c15 h => ?_)
          · refine xq_lsw (pc' := 81) (ls' := [(0, .inr (.inr (14, 6, 0)))]) (st' := []) rfl rfl (Eq.trans (if_neg c3) (Eq.trans (if_neg c6) (Eq.trans (if_neg c9) (Eq.trans (if_neg c12) (if_pos c15))))) ?_
            refine xq_blk 3 (pc' := 86) (ls' := [(0, .inr (.inr (14, 6, 0)))]) (st' := [.inl (M.1 6 0 6), .inr (.inr (14, 6, 0))]) (M' := M) rfl ?_
            refine xq_bind h (fun q13 e14 h => ?_)
            refine xq_call (j := 146) (as := [.inr (.inr (14, 6, 0)), .inl (M.1 6 0 6)]) (pc' := 89) (ls' := [(0, .inr (.inr (14, 6, 0)))]) (st' := []) rfl rfl (f_X7_parkError_ok e14) ?_
            exact (hr _ (Option.some.inj h).symm) ▸ xq_ret rfl
          · refine xq_ite h (fun c18 h => ?_) (fun c18 h => ?_)
            · refine xq_lsw (pc' := 90) (ls' := [(0, .inr (.inr (14, 6, 0)))]) (st' := []) rfl rfl (Eq.trans (if_neg c3) (Eq.trans (if_neg c6) (Eq.trans (if_neg c9) (Eq.trans (if_neg c12) (Eq.trans (if_neg c15) (if_pos c18)))))) ?_
              refine xq_blk 3 (pc' := 95) (ls' := [(0, .inr (.inr (14, 6, 0)))]) (st' := [.inl (M.1 6 0 6), .inr (.inr (14, 6, 0))]) (M' := M) rfl ?_
              refine xq_bind h (fun q16 e17 h => ?_)
              refine xq_call (j := 147) (as := [.inr (.inr (14, 6, 0)), .inl (M.1 6 0 6)]) (pc' := 98) (ls' := [(0, .inr (.inr (14, 6, 0)))]) (st' := []) rfl rfl (f_X7_rackError_ok e17) ?_
              exact (hr _ (Option.some.inj h).symm) ▸ xq_ret rfl
            · refine xq_lsw (pc' := 117) (ls' := [(0, .inr (.inr (14, 6, 0)))]) (st' := []) rfl rfl (Eq.trans (if_neg c3) (Eq.trans (if_neg c6) (Eq.trans (if_neg c9) (Eq.trans (if_neg c12) (Eq.trans (if_neg c15) (Eq.trans (if_neg c18) (rfl))))))) ?_
              refine xq_blk 1 (pc' := 118) (ls' := [(0, .inr (.inr (14, 6, 0)))]) (st' := [.inl (0 : Int32)]) (M' := M) rfl ?_
              exact (hr _ (Option.some.inj h).symm) ▸ xq_ret rfl
theorem f_X7_deedError_ok {X : List Int32}  {M : xM} {p : Int32} (h : f_X7_deedError  M = some p) : xq X xe 186 0 [(0, .inr (.inr (14, 6, 0)))] [] M ((some (.inl p), M) : xR) := f_X7_deedError_run h (fun q e => by rw [e])
def f_X7_run_j62_25 (v1 : Int32) (v3 : Int32) (t0 : Int32) (M : xM) : Option ((Int32 × Int32 × xM) ⊕ (Int32 × xM)) := (f_X7_flag v3 M).bind (fun q7 => (f_X7_reads (59 : Int32) (59 : Int32) M).bind (fun q9 => if q9.1 = (-6 : Int32) then (some (.inl (v1 + q7, (0 : Int32), q9.2))) else (some (.inl (v1 + q7, (1 : Int32), q9.2)))))
theorem f_X7_run_j62_25_ok {X : List Int32} {v1 : Int32} {v3 : Int32} {t0 : Int32} {M : xM} {p : (Int32 × Int32 × xM) ⊕ (Int32 × xM)} {r : xR} (h : f_X7_run_j62_25 v1 v3 t0 M = some p) (h0 : ∀ s', p = .inl s' → xq X xe 188 25 [(0, .inr (.inr (14, 6, 0))), (1, .inl s'.1), (2, .inl s'.2.1)] [] s'.2.2 r) (hr : ∀ q, p = .inr (q) → ((some (.inl q.1), q.2) : xR) = r) : xq X xe 188 62 [(0, .inr (.inr (14, 6, 0))), (1, .inl v1), (3, .inl v3)] [.inl t0] M r := by
  unfold f_X7_run_j62_25 at h
  refine xq_blk 3 (pc' := 66) (ls' := [(4, .inl t0), (0, .inr (.inr (14, 6, 0))), (1, .inl v1), (3, .inl v3)]) (st' := [.inl v3, .inl v1]) (M' := M) rfl ?_
  refine xq_bind h (fun q7 e8 h => ?_)
  refine xq_call (j := 120) (as := [.inl v3]) (pc' := 69) (ls' := [(4, .inl t0), (0, .inr (.inr (14, 6, 0))), (1, .inl v1), (3, .inl v3)]) (st' := [.inl v1]) rfl rfl (f_X7_flag_ok e8) ?_
  refine xq_blk 5 (pc' := 76) (ls' := [(1, .inl (v1 + q7)), (4, .inl t0), (0, .inr (.inr (14, 6, 0))), (3, .inl v3)]) (st' := [.inl (59 : Int32), .inl (59 : Int32), .inr (.inr (14, 6, 0))]) (M' := M) rfl ?_
  refine xq_bind h (fun q9 e10 h => ?_)
  refine xq_call (j := 181) (as := [.inr (.inr (14, 6, 0)), .inl (59 : Int32), .inl (59 : Int32)]) (pc' := 79) (ls' := [(1, .inl (v1 + q7)), (4, .inl t0), (0, .inr (.inr (14, 6, 0))), (3, .inl v3)]) (st' := []) rfl rfl (f_X7_reads_ok e10) ?_
  refine xq_blk 1 (pc' := 81) (ls' := [(1, .inl (v1 + q7)), (4, .inl t0), (0, .inr (.inr (14, 6, 0))), (3, .inl v3)]) (st' := [.inl (-6 : Int32), .inl q9.1]) (M' := q9.2) rfl ?_
  refine xq_ite h (fun c11 h => ?_) (fun c11 h => ?_)
  · refine xq_core (pc' := 88) (ls' := [(1, .inl (v1 + q7)), (4, .inl t0), (0, .inr (.inr (14, 6, 0))), (3, .inl v3)]) (st' := []) rfl (if_pos c11) ?_
    refine xq_blk 3 (pc' := 25) (ls' := [(2, .inl (0 : Int32)), (1, .inl (v1 + q7)), (4, .inl t0), (0, .inr (.inr (14, 6, 0))), (3, .inl v3)]) (st' := []) (M' := q9.2) rfl ?_
    exact xq_sub (a := [(0, .inr (.inr (14, 6, 0))), (1, .inl ((v1 + q7, (0 : Int32), q9.2).1)), (2, .inl ((v1 + q7, (0 : Int32), q9.2).2.1))]) ⟨rfl, rfl, rfl, trivial⟩ rfl (h0 (v1 + q7, (0 : Int32), q9.2) (Option.some.inj h).symm)
  · refine xq_core (pc' := 84) (ls' := [(1, .inl (v1 + q7)), (4, .inl t0), (0, .inr (.inr (14, 6, 0))), (3, .inl v3)]) (st' := []) rfl (if_neg c11) ?_
    refine xq_blk 4 (pc' := 25) (ls' := [(2, .inl (1 : Int32)), (1, .inl (v1 + q7)), (4, .inl t0), (0, .inr (.inr (14, 6, 0))), (3, .inl v3)]) (st' := []) (M' := q9.2) rfl ?_
    exact xq_sub (a := [(0, .inr (.inr (14, 6, 0))), (1, .inl ((v1 + q7, (1 : Int32), q9.2).1)), (2, .inl ((v1 + q7, (1 : Int32), q9.2).2.1))]) ⟨rfl, rfl, rfl, trivial⟩ rfl (h0 (v1 + q7, (1 : Int32), q9.2) (Option.some.inj h).symm)
def f_X7_run_j48_25 (v1 : Int32) (t0 : Int32) (M : xM) : Option ((Int32 × Int32 × xM) ⊕ (Int32 × xM)) := if t0 = (0 : Int32) then (f_X7_run_j62_25 v1 t0 (-6 : Int32) M) else ((f_X7_does M).bind (fun q12 => f_X7_run_j62_25 v1 t0 q12.1 q12.2))
theorem f_X7_run_j48_25_ok {X : List Int32} {v1 : Int32} {t0 : Int32} {M : xM} {p : (Int32 × Int32 × xM) ⊕ (Int32 × xM)} {r : xR} (h : f_X7_run_j48_25 v1 t0 M = some p) (h0 : ∀ s', p = .inl s' → xq X xe 188 25 [(0, .inr (.inr (14, 6, 0))), (1, .inl s'.1), (2, .inl s'.2.1)] [] s'.2.2 r) (hr : ∀ q, p = .inr (q) → ((some (.inl q.1), q.2) : xR) = r) : xq X xe 188 48 [(0, .inr (.inr (14, 6, 0))), (1, .inl v1)] [.inl t0] M r := by
  unfold f_X7_run_j48_25 at h
  refine xq_blk 2 (pc' := 50) (ls' := [(3, .inl t0), (0, .inr (.inr (14, 6, 0))), (1, .inl v1)]) (st' := [.inl t0]) (M' := M) rfl ?_
  refine xq_ite h (fun c14 h => ?_) (fun c14 h => ?_)
  · refine xq_core (pc' := 60) (ls' := [(3, .inl t0), (0, .inr (.inr (14, 6, 0))), (1, .inl v1)]) (st' := []) rfl (if_pos c14) ?_
    refine xq_blk 1 (pc' := 62) (ls' := [(3, .inl t0), (0, .inr (.inr (14, 6, 0))), (1, .inl v1)]) (st' := [.inl (-6 : Int32)]) (M' := M) rfl ?_
    exact xq_sub (a := [(0, .inr (.inr (14, 6, 0))), (1, .inl v1), (3, .inl t0)]) ⟨rfl, rfl, rfl, trivial⟩ rfl (f_X7_run_j62_25_ok h h0 hr)
  · refine xq_core (pc' := 53) (ls' := [(3, .inl t0), (0, .inr (.inr (14, 6, 0))), (1, .inl v1)]) (st' := []) rfl (if_neg c14) ?_
    refine xq_blk 1 (pc' := 54) (ls' := [(3, .inl t0), (0, .inr (.inr (14, 6, 0))), (1, .inl v1)]) (st' := [.inr (.inr (14, 6, 0))]) (M' := M) rfl ?_
    refine xq_bind h (fun q12 e13 h => ?_)
    refine xq_call (j := 187) (as := [.inr (.inr (14, 6, 0))]) (pc' := 57) (ls' := [(3, .inl t0), (0, .inr (.inr (14, 6, 0))), (1, .inl v1)]) (st' := []) rfl rfl (f_X7_does_ok e13) ?_
    refine xq_blk 1 (pc' := 62) (ls' := [(3, .inl t0), (0, .inr (.inr (14, 6, 0))), (1, .inl v1)]) (st' := [.inl q12.1]) (M' := q12.2) rfl ?_
    exact xq_sub (a := [(0, .inr (.inr (14, 6, 0))), (1, .inl v1), (3, .inl t0)]) ⟨rfl, rfl, rfl, trivial⟩ rfl (f_X7_run_j62_25_ok h h0 hr)
def f_X7_run_j47_25 (v1 : Int32) (M : xM) : Option ((Int32 × Int32 × xM) ⊕ (Int32 × xM)) := f_X7_run_j48_25 v1 (0 : Int32) M
theorem f_X7_run_j47_25_ok {X : List Int32} {v1 : Int32} {M : xM} {p : (Int32 × Int32 × xM) ⊕ (Int32 × xM)} {r : xR} (h : f_X7_run_j47_25 v1 M = some p) (h0 : ∀ s', p = .inl s' → xq X xe 188 25 [(0, .inr (.inr (14, 6, 0))), (1, .inl s'.1), (2, .inl s'.2.1)] [] s'.2.2 r) (hr : ∀ q, p = .inr (q) → ((some (.inl q.1), q.2) : xR) = r) : xq X xe 188 47 [(0, .inr (.inr (14, 6, 0))), (1, .inl v1)] [] M r := by
  unfold f_X7_run_j47_25 at h
  refine xq_blk 1 (pc' := 48) (ls' := [(0, .inr (.inr (14, 6, 0))), (1, .inl v1)]) (st' := [.inl (0 : Int32)]) (M' := M) rfl ?_
  exact xq_sub (a := [(0, .inr (.inr (14, 6, 0))), (1, .inl v1)]) ⟨rfl, rfl, trivial⟩ rfl (f_X7_run_j48_25_ok h h0 hr)
def f_X7_run_l25  (s25 : Int32 × Int32 × xM) : Option ((Int32 × Int32 × xM) ⊕ (Int32 × xM)) := if s25.2.1 = (0 : Int32) then (Option.map Sum.inr (some ((s25.1, xd_up s25.2.2 6 0 4 (0 : Int32))))) else ((f_X7_readsDeed s25.2.2).bind (fun q5 => if q5.1 = (0 : Int32) then (f_X7_run_j47_25 s25.1 q5.2) else ((f_X7_deedError q5.2).bind (fun q15 => if q15 = (0 : Int32) then (f_X7_run_j48_25 s25.1 (1 : Int32) q5.2) else (f_X7_run_j47_25 s25.1 q5.2)))))
theorem f_X7_run_l25_ok {X : List Int32}  {s25 : Int32 × Int32 × xM} {p : (Int32 × Int32 × xM) ⊕ (Int32 × xM)} {r : xR} (h : f_X7_run_l25  s25 = some p) (h0 : ∀ s', p = .inl s' → xq X xe 188 25 [(0, .inr (.inr (14, 6, 0))), (1, .inl s'.1), (2, .inl s'.2.1)] [] s'.2.2 r) (hr : ∀ q, p = .inr (q) → ((some (.inl q.1), q.2) : xR) = r) : xq X xe 188 25 [(0, .inr (.inr (14, 6, 0))), (1, .inl s25.1), (2, .inl s25.2.1)] [] s25.2.2 r := by
  unfold f_X7_run_l25 at h
  refine xq_blk 1 (pc' := 26) (ls' := [(0, .inr (.inr (14, 6, 0))), (1, .inl s25.1), (2, .inl s25.2.1)]) (st' := [.inl s25.2.1]) (M' := s25.2.2) rfl ?_
  refine xq_ite h (fun c19 h => ?_) (fun c19 h => ?_)
  · refine xq_core (pc' := 93) (ls' := [(0, .inr (.inr (14, 6, 0))), (1, .inl s25.1), (2, .inl s25.2.1)]) (st' := []) rfl (if_pos c19) ?_
    refine xq_map h (fun p h e => ?_)
    replace hr := fun q e' => hr q (e.symm.trans (congrArg Sum.inr e'))
    clear e
    refine xq_blk 4 (pc' := 99) (ls' := [(0, .inr (.inr (14, 6, 0))), (1, .inl s25.1), (2, .inl s25.2.1)]) (st' := [.inl s25.1]) (M' := xd_up s25.2.2 6 0 4 (0 : Int32)) rfl ?_
    exact (hr _ (Option.some.inj h).symm) ▸ xq_ret rfl
  · refine xq_core (pc' := 29) (ls' := [(0, .inr (.inr (14, 6, 0))), (1, .inl s25.1), (2, .inl s25.2.1)]) (st' := []) rfl (if_neg c19) ?_
    refine xq_blk 1 (pc' := 30) (ls' := [(0, .inr (.inr (14, 6, 0))), (1, .inl s25.1), (2, .inl s25.2.1)]) (st' := [.inr (.inr (14, 6, 0))]) (M' := s25.2.2) rfl ?_
    refine xq_bind h (fun q5 e6 h => ?_)
    refine xq_call (j := 184) (as := [.inr (.inr (14, 6, 0))]) (pc' := 33) (ls' := [(0, .inr (.inr (14, 6, 0))), (1, .inl s25.1), (2, .inl s25.2.1)]) (st' := []) rfl rfl (f_X7_readsDeed_ok e6) ?_
    refine xq_ite h (fun c18 h => ?_) (fun c18 h => ?_)
    · refine xq_core (pc' := 47) (ls' := [(0, .inr (.inr (14, 6, 0))), (1, .inl s25.1), (2, .inl s25.2.1)]) (st' := []) rfl (if_pos c18) ?_
      exact xq_sub (a := [(0, .inr (.inr (14, 6, 0))), (1, .inl s25.1)]) ⟨rfl, rfl, trivial⟩ rfl (f_X7_run_j47_25_ok h h0 hr)
    · refine xq_core (pc' := 36) (ls' := [(0, .inr (.inr (14, 6, 0))), (1, .inl s25.1), (2, .inl s25.2.1)]) (st' := []) rfl (if_neg c18) ?_
      refine xq_blk 1 (pc' := 37) (ls' := [(0, .inr (.inr (14, 6, 0))), (1, .inl s25.1), (2, .inl s25.2.1)]) (st' := [.inr (.inr (14, 6, 0))]) (M' := q5.2) rfl ?_
      refine xq_bind h (fun q15 e16 h => ?_)
      refine xq_call (j := 186) (as := [.inr (.inr (14, 6, 0))]) (pc' := 40) (ls' := [(0, .inr (.inr (14, 6, 0))), (1, .inl s25.1), (2, .inl s25.2.1)]) (st' := []) rfl rfl (f_X7_deedError_ok e16) ?_
      refine xq_ite h (fun c17 h => ?_) (fun c17 h => ?_)
      · refine xq_core (pc' := 43) (ls' := [(0, .inr (.inr (14, 6, 0))), (1, .inl s25.1), (2, .inl s25.2.1)]) (st' := []) rfl (if_pos c17) ?_
        refine xq_blk 2 (pc' := 48) (ls' := [(0, .inr (.inr (14, 6, 0))), (1, .inl s25.1), (2, .inl s25.2.1)]) (st' := [.inl (1 : Int32)]) (M' := q5.2) rfl ?_
        exact xq_sub (a := [(0, .inr (.inr (14, 6, 0))), (1, .inl s25.1)]) ⟨rfl, rfl, trivial⟩ rfl (f_X7_run_j48_25_ok h h0 hr)
      · refine xq_core (pc' := 47) (ls' := [(0, .inr (.inr (14, 6, 0))), (1, .inl s25.1), (2, .inl s25.2.1)]) (st' := []) rfl (if_neg c17) ?_
        exact xq_sub (a := [(0, .inr (.inr (14, 6, 0))), (1, .inl s25.1)]) ⟨rfl, rfl, trivial⟩ rfl (f_X7_run_j47_25_ok h h0 hr)
def f_X7_run  (M : xM) : Option (Int32 × xM) := (f_X7_fault M).bind (fun q1 => if q1.1 = (-6 : Int32) then ((f_X7_changes q1.2).bind (fun q3 => xlp (f_X7_run_l25) 4000 ((0 : Int32), (1 : Int32), xd_up q3 6 0 5 (0 : Int32)))) else (some (((-3 : Int32), q1.2))))
theorem f_X7_run_run {X : List Int32}  {M : xM} {p : Int32 × xM} {r : xR} (h : f_X7_run  M = some p) (hr : ∀ q, p = q → ((some (.inl q.1), q.2) : xR) = r) : xq X xe 188 0 [(0, .inr (.inr (14, 6, 0)))] [] M r := by
  unfold f_X7_run at h
  refine xq_blk 1 (pc' := 1) (ls' := [(0, .inr (.inr (14, 6, 0)))]) (st' := [.inr (.inr (14, 6, 0))]) (M' := M) rfl ?_
  refine xq_bind h (fun q1 e2 h => ?_)
  refine xq_call (j := 185) (as := [.inr (.inr (14, 6, 0))]) (pc' := 4) (ls' := [(0, .inr (.inr (14, 6, 0)))]) (st' := []) rfl rfl (f_X7_fault_ok e2) ?_
  refine xq_blk 1 (pc' := 6) (ls' := [(0, .inr (.inr (14, 6, 0)))]) (st' := [.inl (-6 : Int32), .inl q1.1]) (M' := q1.2) rfl ?_
  refine xq_ite h (fun c20 h => ?_) (fun c20 h => ?_)
  · refine xq_core (pc' := 12) (ls' := [(0, .inr (.inr (14, 6, 0)))]) (st' := []) rfl (if_pos c20) ?_
    refine xq_blk 1 (pc' := 13) (ls' := [(0, .inr (.inr (14, 6, 0)))]) (st' := [.inr (.inr (14, 6, 0))]) (M' := q1.2) rfl ?_
    refine xq_bind h (fun q3 e4 h => ?_)
    refine xq_call (j := 122) (as := [.inr (.inr (14, 6, 0))]) (pc' := 16) (ls' := [(0, .inr (.inr (14, 6, 0)))]) (st' := []) rfl rfl (f_X7_changes_ok e4) ?_
    refine xq_blk 7 (pc' := 25) (ls' := [(2, .inl (1 : Int32)), (1, .inl (0 : Int32)), (0, .inr (.inr (14, 6, 0)))]) (st' := []) (M' := xd_up q3 6 0 5 (0 : Int32)) rfl ?_
    refine xq_sub (a := [(0, .inr (.inr (14, 6, 0))), (1, .inl (0 : Int32)), (2, .inl (1 : Int32))]) ⟨rfl, rfl, rfl, trivial⟩ rfl ?_
    exact xlp_ok (P := fun s25 => xq X xe 188 25 [(0, .inr (.inr (14, 6, 0))), (1, .inl s25.1), (2, .inl s25.2.1)] [] s25.2.2 r) (fun s p' hb g0 g1 => f_X7_run_l25_ok hb g0 (fun q e => hr q (g1 _ e).symm)) 4000 _ h
  · refine xq_core (pc' := 9) (ls' := [(0, .inr (.inr (14, 6, 0)))]) (st' := []) rfl (if_neg c20) ?_
    refine xq_blk 1 (pc' := 11) (ls' := [(0, .inr (.inr (14, 6, 0)))]) (st' := [.inl (-3 : Int32)]) (M' := q1.2) rfl ?_
    exact (hr _ (Option.some.inj h).symm) ▸ xq_ret rfl
theorem f_X7_run_ok {X : List Int32}  {M : xM} {p : Int32 × xM} (h : f_X7_run  M = some p) : xq X xe 188 0 [(0, .inr (.inr (14, 6, 0)))] [] M ((some (.inl p.1), p.2) : xR) := f_X7_run_run h (fun q e => by rw [e])
