def f_X7_undo  (M : xM) : Option (Int32 × xM) := if (M.1 6 0 1) = (0 : Int32) then (some (((-5 : Int32), M))) else ((f_X7_copies (M.1 6 0 1) (0 : Int32) M).bind (fun q1 => some (((xd_up q1 6 0 1 ((q1.1 6 0 1) - (1 : Int32))).1 6 0 1, xd_up q1 6 0 1 ((q1.1 6 0 1) - (1 : Int32))))))
theorem f_X7_undo_run {X : List Int32}  {M : xM} {p : Int32 × xM} {r : xR} (h : f_X7_undo  M = some p) (hr : ∀ q, p = q → ((some (.inl q.1), q.2) : xR) = r) : xq X xe 189 0 [(0, .inr (.inr (14, 6, 0)))] [] M r := by
  unfold f_X7_undo at h
  refine xq_blk 2 (pc' := 4) (ls' := [(0, .inr (.inr (14, 6, 0)))]) (st' := [.inl (M.1 6 0 1)]) (M' := M) rfl ?_
  refine xq_ite h (fun c3 h => ?_) (fun c3 h => ?_)
  · refine xq_core (pc' := 7) (ls' := [(0, .inr (.inr (14, 6, 0)))]) (st' := []) rfl (if_pos c3) ?_
    refine xq_blk 1 (pc' := 9) (ls' := [(0, .inr (.inr (14, 6, 0)))]) (st' := [.inl (-5 : Int32)]) (M' := M) rfl ?_
    exact (hr _ (Option.some.inj h).symm) ▸ xq_ret rfl
  · refine xq_core (pc' := 10) (ls' := [(0, .inr (.inr (14, 6, 0)))]) (st' := []) rfl (if_neg c3) ?_
    refine xq_blk 4 (pc' := 16) (ls' := [(0, .inr (.inr (14, 6, 0)))]) (st' := [.inl (0 : Int32), .inl (M.1 6 0 1), .inr (.inr (14, 6, 0))]) (M' := M) rfl ?_
    refine xq_bind h (fun q1 e2 h => ?_)
    refine xq_call (j := 121) (as := [.inr (.inr (14, 6, 0)), .inl (M.1 6 0 1), .inl (0 : Int32)]) (pc' := 19) (ls' := [(0, .inr (.inr (14, 6, 0)))]) (st' := []) rfl rfl (f_X7_copies_ok e2) ?_
    refine xq_blk 8 (pc' := 33) (ls' := [(0, .inr (.inr (14, 6, 0)))]) (st' := [.inl ((xd_up q1 6 0 1 ((q1.1 6 0 1) - (1 : Int32))).1 6 0 1)]) (M' := xd_up q1 6 0 1 ((q1.1 6 0 1) - (1 : Int32))) rfl ?_
    exact (hr _ (Option.some.inj h).symm) ▸ xq_ret rfl
theorem f_X7_undo_ok {X : List Int32}  {M : xM} {p : Int32 × xM} (h : f_X7_undo  M = some p) : xq X xe 189 0 [(0, .inr (.inr (14, 6, 0)))] [] M ((some (.inl p.1), p.2) : xR) := f_X7_undo_run h (fun q e => by rw [e])
def f_X7_isSlot (a0 : Int32) (M : xM) : Option (Int32) := if a0 = (0 : Int32) then (some ((vp_nar .boolean (1 : Int32)))) else (if a0 = (1 : Int32) then (some ((vp_nar .boolean (1 : Int32)))) else (some ((vp_nar .boolean (0 : Int32)))))
theorem f_X7_isSlot_run {X : List Int32} {a0 : Int32} {M : xM} {p : Int32} {r : xR} (h : f_X7_isSlot a0 M = some p) (hr : ∀ q, p = q → ((some (.inl q), M) : xR) = r) : xq X xe 190 0 [(0, .inl a0)] [] M r := by
  unfold f_X7_isSlot at h
  refine xq_blk 1 (pc' := 1) (ls' := [(0, .inl a0)]) (st' := [.inl a0]) (M' := M) rfl ?_
  refine xq_ite h (fun c2 h => ?_) (fun c2 h => ?_)
  · refine xq_core (pc' := 9) (ls' := [(0, .inl a0)]) (st' := []) rfl (if_pos c2) ?_
    refine xq_blk 2 (pc' := 14) (ls' := [(0, .inl a0)]) (st' := [.inl (1 : Int32)]) (M' := M) rfl ?_
    exact (hr _ (Option.some.inj h).symm) ▸ xq_ret rfl
  · refine xq_core (pc' := 4) (ls' := [(0, .inl a0)]) (st' := []) rfl (if_neg c2) ?_
    refine xq_blk 2 (pc' := 6) (ls' := [(0, .inl a0)]) (st' := [.inl (1 : Int32), .inl a0]) (M' := M) rfl ?_
    refine xq_ite h (fun c1 h => ?_) (fun c1 h => ?_)
    · refine xq_core (pc' := 9) (ls' := [(0, .inl a0)]) (st' := []) rfl (if_pos c1) ?_
      refine xq_blk 2 (pc' := 14) (ls' := [(0, .inl a0)]) (st' := [.inl (1 : Int32)]) (M' := M) rfl ?_
      exact (hr _ (Option.some.inj h).symm) ▸ xq_ret rfl
    · refine xq_core (pc' := 13) (ls' := [(0, .inl a0)]) (st' := []) rfl (if_neg c1) ?_
      refine xq_blk 1 (pc' := 14) (ls' := [(0, .inl a0)]) (st' := [.inl (0 : Int32)]) (M' := M) rfl ?_
      exact (hr _ (Option.some.inj h).symm) ▸ xq_ret rfl
theorem f_X7_isSlot_ok {X : List Int32} {a0 : Int32} {M : xM} {p : Int32} (h : f_X7_isSlot a0 M = some p) : xq X xe 190 0 [(0, .inl a0)] [] M ((some (.inl p), M) : xR) := f_X7_isSlot_run h (fun q e => by rw [e])
def f_X7_save (a1 : Int32) (M : xM) : Option (Int32 × xM) := (f_X7_isSlot a1 M).bind (fun q1 => if q1 = (0 : Int32) then (some (((-2 : Int32), M))) else ((f_X7_copies (0 : Int32) ((7 : Int32) + a1) M).bind (fun q3 => if xp_in a1 2 = true then (some (((xd_up q3 6 2 a1.toNatClampNeg (vp_nar .boolean (1 : Int32))).1 6 1 4, xd_up q3 6 2 a1.toNatClampNeg (vp_nar .boolean (1 : Int32))))) else none)))
theorem f_X7_save_run {X : List Int32} {a1 : Int32} {M : xM} {p : Int32 × xM} {r : xR} (h : f_X7_save a1 M = some p) (hr : ∀ q, p = q → ((some (.inl q.1), q.2) : xR) = r) : xq X xe 191 0 [(0, .inr (.inr (14, 6, 0))), (1, .inl a1)] [] M r := by
  unfold f_X7_save at h
  refine xq_blk 1 (pc' := 1) (ls' := [(0, .inr (.inr (14, 6, 0))), (1, .inl a1)]) (st' := [.inl a1]) (M' := M) rfl ?_
  refine xq_bind h (fun q1 e2 h => ?_)
  refine xq_call (j := 190) (as := [.inl a1]) (pc' := 4) (ls' := [(0, .inr (.inr (14, 6, 0))), (1, .inl a1)]) (st' := []) rfl rfl (f_X7_isSlot_ok e2) ?_
  refine xq_ite h (fun c6 h => ?_) (fun c6 h => ?_)
  · refine xq_core (pc' := 7) (ls' := [(0, .inr (.inr (14, 6, 0))), (1, .inl a1)]) (st' := []) rfl (if_pos c6) ?_
    refine xq_blk 1 (pc' := 9) (ls' := [(0, .inr (.inr (14, 6, 0))), (1, .inl a1)]) (st' := [.inl (-2 : Int32)]) (M' := M) rfl ?_
    exact (hr _ (Option.some.inj h).symm) ▸ xq_ret rfl
  · refine xq_core (pc' := 10) (ls' := [(0, .inr (.inr (14, 6, 0))), (1, .inl a1)]) (st' := []) rfl (if_neg c6) ?_
    refine xq_blk 5 (pc' := 16) (ls' := [(0, .inr (.inr (14, 6, 0))), (1, .inl a1)]) (st' := [.inl ((7 : Int32) + a1), .inl (0 : Int32), .inr (.inr (14, 6, 0))]) (M' := M) rfl ?_
    refine xq_bind h (fun q3 e4 h => ?_)
    refine xq_call (j := 121) (as := [.inr (.inr (14, 6, 0)), .inl (0 : Int32), .inl ((7 : Int32) + a1)]) (pc' := 19) (ls' := [(0, .inr (.inr (14, 6, 0))), (1, .inl a1)]) (st' := []) rfl rfl (f_X7_copies_ok e4) ?_
    refine xq_blk 4 (pc' := 25) (ls' := [(0, .inr (.inr (14, 6, 0))), (1, .inl a1)]) (st' := [.inl (1 : Int32), .inl a1, .inr (.inr (16, 6, 2))]) (M' := q3) rfl ?_
    refine xq_guard h (fun g5 h => ?_)
    refine xq_prim (st' := []) (M' := xd_up q3 6 2 a1.toNatClampNeg (vp_nar .boolean (1 : Int32))) rfl rfl rfl (xg_ast1 rfl g5) ?_
    refine xq_blk 3 (pc' := 31) (ls' := [(0, .inr (.inr (14, 6, 0))), (1, .inl a1)]) (st' := [.inl (4 : Int32), .inr (.inr (15, 6, 1))]) (M' := xd_up q3 6 2 a1.toNatClampNeg (vp_nar .boolean (1 : Int32))) rfl ?_
    refine xq_prim (st' := [.inl ((xd_up q3 6 2 a1.toNatClampNeg (vp_nar .boolean (1 : Int32))).1 6 1 4)]) (M' := xd_up q3 6 2 a1.toNatClampNeg (vp_nar .boolean (1 : Int32))) rfl rfl rfl (xg_ald0 rfl rfl) ?_
    exact (hr _ (Option.some.inj h).symm) ▸ xq_ret rfl
theorem f_X7_save_ok {X : List Int32} {a1 : Int32} {M : xM} {p : Int32 × xM} (h : f_X7_save a1 M = some p) : xq X xe 191 0 [(0, .inr (.inr (14, 6, 0))), (1, .inl a1)] [] M ((some (.inl p.1), p.2) : xR) := f_X7_save_run h (fun q e => by rw [e])
def f_X7_restore (a1 : Int32) (M : xM) : Option (Int32 × xM) := (f_X7_isSlot a1 M).bind (fun q1 => if q1 = (0 : Int32) then (some (((-2 : Int32), M))) else (if xp_in a1 2 = true then (if (M.1 6 2 a1.toNatClampNeg) = (0 : Int32) then (some (((-5 : Int32), M))) else ((f_X7_changes M).bind (fun q4 => (f_X7_copies ((7 : Int32) + a1) (0 : Int32) q4).bind (fun q6 => some ((q6.1 6 1 4, q6)))))) else none))
theorem f_X7_restore_run {X : List Int32} {a1 : Int32} {M : xM} {p : Int32 × xM} {r : xR} (h : f_X7_restore a1 M = some p) (hr : ∀ q, p = q → ((some (.inl q.1), q.2) : xR) = r) : xq X xe 192 0 [(0, .inr (.inr (14, 6, 0))), (1, .inl a1)] [] M r := by
  unfold f_X7_restore at h
  refine xq_blk 1 (pc' := 1) (ls' := [(0, .inr (.inr (14, 6, 0))), (1, .inl a1)]) (st' := [.inl a1]) (M' := M) rfl ?_
  refine xq_bind h (fun q1 e2 h => ?_)
  refine xq_call (j := 190) (as := [.inl a1]) (pc' := 4) (ls' := [(0, .inr (.inr (14, 6, 0))), (1, .inl a1)]) (st' := []) rfl rfl (f_X7_isSlot_ok e2) ?_
  refine xq_ite h (fun c9 h => ?_) (fun c9 h => ?_)
  · refine xq_core (pc' := 7) (ls' := [(0, .inr (.inr (14, 6, 0))), (1, .inl a1)]) (st' := []) rfl (if_pos c9) ?_
    refine xq_blk 1 (pc' := 9) (ls' := [(0, .inr (.inr (14, 6, 0))), (1, .inl a1)]) (st' := [.inl (-2 : Int32)]) (M' := M) rfl ?_
    exact (hr _ (Option.some.inj h).symm) ▸ xq_ret rfl
  · refine xq_core (pc' := 10) (ls' := [(0, .inr (.inr (14, 6, 0))), (1, .inl a1)]) (st' := []) rfl (if_neg c9) ?_
    refine xq_blk 3 (pc' := 15) (ls' := [(0, .inr (.inr (14, 6, 0))), (1, .inl a1)]) (st' := [.inl a1, .inr (.inr (16, 6, 2))]) (M' := M) rfl ?_
    refine xq_guard h (fun g3 h => ?_)
    refine xq_prim (st' := [.inl (M.1 6 2 a1.toNatClampNeg)]) (M' := M) rfl rfl rfl (xg_ald1 rfl g3) ?_
    refine xq_ite h (fun c8 h => ?_) (fun c8 h => ?_)
    · refine xq_core (pc' := 19) (ls' := [(0, .inr (.inr (14, 6, 0))), (1, .inl a1)]) (st' := []) rfl (if_pos c8) ?_
      refine xq_blk 1 (pc' := 21) (ls' := [(0, .inr (.inr (14, 6, 0))), (1, .inl a1)]) (st' := [.inl (-5 : Int32)]) (M' := M) rfl ?_
      exact (hr _ (Option.some.inj h).symm) ▸ xq_ret rfl
    · refine xq_core (pc' := 22) (ls' := [(0, .inr (.inr (14, 6, 0))), (1, .inl a1)]) (st' := []) rfl (if_neg c8) ?_
      refine xq_blk 1 (pc' := 23) (ls' := [(0, .inr (.inr (14, 6, 0))), (1, .inl a1)]) (st' := [.inr (.inr (14, 6, 0))]) (M' := M) rfl ?_
      refine xq_bind h (fun q4 e5 h => ?_)
      refine xq_call (j := 122) (as := [.inr (.inr (14, 6, 0))]) (pc' := 26) (ls' := [(0, .inr (.inr (14, 6, 0))), (1, .inl a1)]) (st' := []) rfl rfl (f_X7_changes_ok e5) ?_
      refine xq_blk 5 (pc' := 32) (ls' := [(0, .inr (.inr (14, 6, 0))), (1, .inl a1)]) (st' := [.inl (0 : Int32), .inl ((7 : Int32) + a1), .inr (.inr (14, 6, 0))]) (M' := q4) rfl ?_
      refine xq_bind h (fun q6 e7 h => ?_)
      refine xq_call (j := 121) (as := [.inr (.inr (14, 6, 0)), .inl ((7 : Int32) + a1), .inl (0 : Int32)]) (pc' := 35) (ls' := [(0, .inr (.inr (14, 6, 0))), (1, .inl a1)]) (st' := []) rfl rfl (f_X7_copies_ok e7) ?_
      refine xq_blk 3 (pc' := 40) (ls' := [(0, .inr (.inr (14, 6, 0))), (1, .inl a1)]) (st' := [.inl (4 : Int32), .inr (.inr (15, 6, 1))]) (M' := q6) rfl ?_
      refine xq_prim (st' := [.inl (q6.1 6 1 4)]) (M' := q6) rfl rfl rfl (xg_ald0 rfl rfl) ?_
      exact (hr _ (Option.some.inj h).symm) ▸ xq_ret rfl
theorem f_X7_restore_ok {X : List Int32} {a1 : Int32} {M : xM} {p : Int32 × xM} (h : f_X7_restore a1 M = some p) : xq X xe 192 0 [(0, .inr (.inr (14, 6, 0))), (1, .inl a1)] [] M ((some (.inl p.1), p.2) : xR) := f_X7_restore_run h (fun q e => by rw [e])
