def f_X6_giveUp (a1 : Int32) (M : xM) : Option (Int32 × xM) := (f_X5_giveUpAll 2 a1 (xe_cp 3 2 M)).bind (fun q1 => (f_X6_recorded q1.1 q1.2).bind (fun q3 => some ((q3.1, q3.2))))
theorem f_X6_giveUp_run {X : List Int32} {a1 : Int32} {M : xM} {p : Int32 × xM} {r : xR} (h : f_X6_giveUp a1 M = some p) (hr : ∀ q, p = q → ((some (.inl q.1), q.2) : xR) = r) : xq X xe 78 0 [(0, .inr (.inr (7, 5, 0))), (1, .inl a1)] [] M r := by
  unfold f_X6_giveUp at h
  refine xq_blk 4 (pc' := 8) (ls' := [(0, .inr (.inr (7, 5, 0))), (1, .inl a1)]) (st' := [.inr (.inr (0, 2, 0)), .inr (.inr (0, 3, 0))]) (M' := M) rfl ?_
  refine xq_ext (j := 27) (as := [.inr (.inr (0, 3, 0)), .inr (.inr (0, 2, 0))]) (pc' := 11) (ls' := [(0, .inr (.inr (7, 5, 0))), (1, .inl a1)]) (st' := []) (q := (none, xe_cp 3 2 M)) rfl rfl rfl ?_
  refine xq_blk 4 (pc' := 17) (ls' := [(0, .inr (.inr (7, 5, 0))), (1, .inl a1)]) (st' := [.inl a1, .inr (.inr (0, 2, 0)), .inr (.inr (7, 5, 0))]) (M' := xe_cp 3 2 M) rfl ?_
  refine xq_bind h (fun q1 e2 h => ?_)
  refine xq_call (j := 54) (as := [.inr (.inr (0, 2, 0)), .inl a1]) (pc' := 20) (ls' := [(0, .inr (.inr (7, 5, 0))), (1, .inl a1)]) (st' := [.inr (.inr (7, 5, 0))]) rfl rfl (f_X5_giveUpAll_ok e2) ?_
  refine xq_bind h (fun q3 e4 h => ?_)
  refine xq_call (j := 75) (as := [.inr (.inr (7, 5, 0)), .inl q1.1]) (pc' := 23) (ls' := [(0, .inr (.inr (7, 5, 0))), (1, .inl a1)]) (st' := []) rfl rfl (f_X6_recorded_ok e4) ?_
  exact (hr _ (Option.some.inj h).symm) ▸ xq_ret rfl
theorem f_X6_giveUp_ok {X : List Int32} {a1 : Int32} {M : xM} {p : Int32 × xM} (h : f_X6_giveUp a1 M = some p) : xq X xe 78 0 [(0, .inr (.inr (7, 5, 0))), (1, .inl a1)] [] M ((some (.inl p.1), p.2) : xR) := f_X6_giveUp_run h (fun q e => by rw [e])
def f_X5_lengthen (a0r : Nat) (a1 : Int32) (a2 : Int32) (M : xM) : Option (Int32 × xM) := (f_X6_isPerson a1 M).bind (fun q1 => if q1 = (0 : Int32) then (some (((-1 : Int32), M))) else ((f_X6_isFrom (1 : Int32) a2 (99 : Int32) M).bind (fun q3 => if q3 = (0 : Int32) then (some (((-2 : Int32), M))) else ((f_X4_hasPermit a0r a1 M).bind (fun q5 => if q5 = (0 : Int32) then (some (((-5 : Int32), M))) else (if xp_in a1 20 = true then ((f_X4_countWaiting a0r (M.1 a0r 4 a1.toNatClampNeg) M).bind (fun q8 => if (0 : Int32) < q8 then (some (((-5 : Int32), M))) else (if xp_in a1 20 = true then (if xp_in a1 20 = true then (if xp_in a1 20 = true then (some (((xd_up M a0r 5 a1.toNatClampNeg ((M.1 a0r 5 a1.toNatClampNeg) + a2)).1 a0r 5 a1.toNatClampNeg, xd_up M a0r 5 a1.toNatClampNeg ((M.1 a0r 5 a1.toNatClampNeg) + a2)))) else none) else none) else none))) else none))))))
theorem f_X5_lengthen_run {X : List Int32} {a0r : Nat} {a1 : Int32} {a2 : Int32} {M : xM} {p : Int32 × xM} {r : xR} (h : f_X5_lengthen a0r a1 a2 M = some p) (hr : ∀ q, p = q → ((some (.inl q.1), q.2) : xR) = r) : xq X xe 55 0 [(0, .inr (.inr (0, a0r, 0))), (1, .inl a1), (2, .inl a2)] [] M r := by
  unfold f_X5_lengthen at h
  refine xq_blk 1 (pc' := 1) (ls' := [(0, .inr (.inr (0, a0r, 0))), (1, .inl a1), (2, .inl a2)]) (st' := [.inl a1]) (M' := M) rfl ?_
  refine xq_bind h (fun q1 e2 h => ?_)
  refine xq_call (j := 46) (as := [.inl a1]) (pc' := 4) (ls' := [(0, .inr (.inr (0, a0r, 0))), (1, .inl a1), (2, .inl a2)]) (st' := []) rfl rfl (f_X6_isPerson_ok e2) ?_
  refine xq_ite h (fun c16 h => ?_) (fun c16 h => ?_)
  · refine xq_core (pc' := 7) (ls' := [(0, .inr (.inr (0, a0r, 0))), (1, .inl a1), (2, .inl a2)]) (st' := []) rfl (if_pos c16) ?_
    refine xq_blk 1 (pc' := 8) (ls' := [(0, .inr (.inr (0, a0r, 0))), (1, .inl a1), (2, .inl a2)]) (st' := [.inl (-1 : Int32)]) (M' := M) rfl ?_
    exact (hr _ (Option.some.inj h).symm) ▸ xq_ret rfl
  · refine xq_core (pc' := 9) (ls' := [(0, .inr (.inr (0, a0r, 0))), (1, .inl a1), (2, .inl a2)]) (st' := []) rfl (if_neg c16) ?_
    refine xq_blk 3 (pc' := 13) (ls' := [(0, .inr (.inr (0, a0r, 0))), (1, .inl a1), (2, .inl a2)]) (st' := [.inl (99 : Int32), .inl a2, .inl (1 : Int32)]) (M' := M) rfl ?_
    refine xq_bind h (fun q3 e4 h => ?_)
    refine xq_call (j := 48) (as := [.inl (1 : Int32), .inl a2, .inl (99 : Int32)]) (pc' := 16) (ls' := [(0, .inr (.inr (0, a0r, 0))), (1, .inl a1), (2, .inl a2)]) (st' := []) rfl rfl (f_X6_isFrom_ok e4) ?_
    refine xq_ite h (fun c15 h => ?_) (fun c15 h => ?_)
    · refine xq_core (pc' := 19) (ls' := [(0, .inr (.inr (0, a0r, 0))), (1, .inl a1), (2, .inl a2)]) (st' := []) rfl (if_pos c15) ?_
      refine xq_blk 1 (pc' := 21) (ls' := [(0, .inr (.inr (0, a0r, 0))), (1, .inl a1), (2, .inl a2)]) (st' := [.inl (-2 : Int32)]) (M' := M) rfl ?_
      exact (hr _ (Option.some.inj h).symm) ▸ xq_ret rfl
    · refine xq_core (pc' := 22) (ls' := [(0, .inr (.inr (0, a0r, 0))), (1, .inl a1), (2, .inl a2)]) (st' := []) rfl (if_neg c15) ?_
      refine xq_blk 3 (pc' := 27) (ls' := [(0, .inr (.inr (0, a0r, 0))), (1, .inl a1), (2, .inl a2)]) (st' := [.inl a1, .inr (.inr (1, a0r, 3))]) (M' := M) rfl ?_
      refine xq_bind h (fun q5 e6 h => ?_)
      refine xq_call (j := 32) (as := [.inr (.inr (1, a0r, 3)), .inl a1]) (pc' := 30) (ls' := [(0, .inr (.inr (0, a0r, 0))), (1, .inl a1), (2, .inl a2)]) (st' := []) rfl rfl (f_X4_hasPermit_ok e6) ?_
      refine xq_ite h (fun c14 h => ?_) (fun c14 h => ?_)
      · refine xq_core (pc' := 52) (ls' := [(0, .inr (.inr (0, a0r, 0))), (1, .inl a1), (2, .inl a2)]) (st' := []) rfl (if_pos c14) ?_
        refine xq_blk 1 (pc' := 54) (ls' := [(0, .inr (.inr (0, a0r, 0))), (1, .inl a1), (2, .inl a2)]) (st' := [.inl (-5 : Int32)]) (M' := M) rfl ?_
        exact (hr _ (Option.some.inj h).symm) ▸ xq_ret rfl
      · refine xq_core (pc' := 33) (ls' := [(0, .inr (.inr (0, a0r, 0))), (1, .inl a1), (2, .inl a2)]) (st' := []) rfl (if_neg c14) ?_
        refine xq_blk 6 (pc' := 45) (ls' := [(0, .inr (.inr (0, a0r, 0))), (1, .inl a1), (2, .inl a2)]) (st' := [.inl a1, .inr (.inr (3, a0r, 4)), .inr (.inr (1, a0r, 3))]) (M' := M) rfl ?_
        refine xq_guard h (fun g7 h => ?_)
        refine xq_prim (st' := [.inl (M.1 a0r 4 a1.toNatClampNeg), .inr (.inr (1, a0r, 3))]) (M' := M) rfl rfl rfl (xg_ald0 rfl g7) ?_
        refine xq_bind h (fun q8 e9 h => ?_)
        refine xq_call (j := 38) (as := [.inr (.inr (1, a0r, 3)), .inl (M.1 a0r 4 a1.toNatClampNeg)]) (pc' := 49) (ls' := [(0, .inr (.inr (0, a0r, 0))), (1, .inl a1), (2, .inl a2)]) (st' := []) rfl rfl (f_X4_countWaiting_ok e9) ?_
        refine xq_ite h (fun c13 h => ?_) (fun c13 h => ?_)
        · refine xq_core (pc' := 52) (ls' := [(0, .inr (.inr (0, a0r, 0))), (1, .inl a1), (2, .inl a2)]) (st' := []) rfl (if_pos c13) ?_
          refine xq_blk 1 (pc' := 54) (ls' := [(0, .inr (.inr (0, a0r, 0))), (1, .inl a1), (2, .inl a2)]) (st' := [.inl (-5 : Int32)]) (M' := M) rfl ?_
          exact (hr _ (Option.some.inj h).symm) ▸ xq_ret rfl
        · refine xq_core (pc' := 55) (ls' := [(0, .inr (.inr (0, a0r, 0))), (1, .inl a1), (2, .inl a2)]) (st' := []) rfl (if_neg c13) ?_
          refine xq_blk 5 (pc' := 64) (ls' := [(0, .inr (.inr (0, a0r, 0))), (1, .inl a1), (2, .inl a2)]) (st' := [.inl a1, .inr (.inr (3, a0r, 5)), .inl a1, .inr (.inr (3, a0r, 5))]) (M' := M) rfl ?_
          refine xq_guard h (fun g10 h => ?_)
          refine xq_prim (st' := [.inl (M.1 a0r 5 a1.toNatClampNeg), .inl a1, .inr (.inr (3, a0r, 5))]) (M' := M) rfl rfl rfl (xg_ald0 rfl g10) ?_
          refine xq_blk 2 (pc' := 67) (ls' := [(0, .inr (.inr (0, a0r, 0))), (1, .inl a1), (2, .inl a2)]) (st' := [.inl ((M.1 a0r 5 a1.toNatClampNeg) + a2), .inl a1, .inr (.inr (3, a0r, 5))]) (M' := M) rfl ?_
          refine xq_guard h (fun g11 h => ?_)
          refine xq_prim (st' := []) (M' := xd_up M a0r 5 a1.toNatClampNeg ((M.1 a0r 5 a1.toNatClampNeg) + a2)) rfl rfl rfl (xg_ast0 rfl g11) ?_
          refine xq_blk 4 (pc' := 76) (ls' := [(0, .inr (.inr (0, a0r, 0))), (1, .inl a1), (2, .inl a2)]) (st' := [.inl a1, .inr (.inr (3, a0r, 5))]) (M' := xd_up M a0r 5 a1.toNatClampNeg ((M.1 a0r 5 a1.toNatClampNeg) + a2)) rfl ?_
          refine xq_guard h (fun g12 h => ?_)
          refine xq_prim (st' := [.inl ((xd_up M a0r 5 a1.toNatClampNeg ((M.1 a0r 5 a1.toNatClampNeg) + a2)).1 a0r 5 a1.toNatClampNeg)]) (M' := xd_up M a0r 5 a1.toNatClampNeg ((M.1 a0r 5 a1.toNatClampNeg) + a2)) rfl rfl rfl (xg_ald0 rfl g12) ?_
          exact (hr _ (Option.some.inj h).symm) ▸ xq_ret rfl
theorem f_X5_lengthen_ok {X : List Int32} {a0r : Nat} {a1 : Int32} {a2 : Int32} {M : xM} {p : Int32 × xM} (h : f_X5_lengthen a0r a1 a2 M = some p) : xq X xe 55 0 [(0, .inr (.inr (0, a0r, 0))), (1, .inl a1), (2, .inl a2)] [] M ((some (.inl p.1), p.2) : xR) := f_X5_lengthen_run h (fun q e => by rw [e])
def f_X6_prolong (a1 : Int32) (a2 : Int32) (M : xM) : Option (Int32 × xM) := (f_X5_lengthen 2 a1 a2 (xe_cp 3 2 M)).bind (fun q1 => (f_X6_recorded q1.1 q1.2).bind (fun q3 => some ((q3.1, q3.2))))
theorem f_X6_prolong_run {X : List Int32} {a1 : Int32} {a2 : Int32} {M : xM} {p : Int32 × xM} {r : xR} (h : f_X6_prolong a1 a2 M = some p) (hr : ∀ q, p = q → ((some (.inl q.1), q.2) : xR) = r) : xq X xe 79 0 [(0, .inr (.inr (7, 5, 0))), (1, .inl a1), (2, .inl a2)] [] M r := by
  unfold f_X6_prolong at h
  refine xq_blk 4 (pc' := 8) (ls' := [(0, .inr (.inr (7, 5, 0))), (1, .inl a1), (2, .inl a2)]) (st' := [.inr (.inr (0, 2, 0)), .inr (.inr (0, 3, 0))]) (M' := M) rfl ?_
  refine xq_ext (j := 27) (as := [.inr (.inr (0, 3, 0)), .inr (.inr (0, 2, 0))]) (pc' := 11) (ls' := [(0, .inr (.inr (7, 5, 0))), (1, .inl a1), (2, .inl a2)]) (st' := []) (q := (none, xe_cp 3 2 M)) rfl rfl rfl ?_
  refine xq_blk 5 (pc' := 18) (ls' := [(0, .inr (.inr (7, 5, 0))), (1, .inl a1), (2, .inl a2)]) (st' := [.inl a2, .inl a1, .inr (.inr (0, 2, 0)), .inr (.inr (7, 5, 0))]) (M' := xe_cp 3 2 M) rfl ?_
  refine xq_bind h (fun q1 e2 h => ?_)
  refine xq_call (j := 55) (as := [.inr (.inr (0, 2, 0)), .inl a1, .inl a2]) (pc' := 21) (ls' := [(0, .inr (.inr (7, 5, 0))), (1, .inl a1), (2, .inl a2)]) (st' := [.inr (.inr (7, 5, 0))]) rfl rfl (f_X5_lengthen_ok e2) ?_
  refine xq_bind h (fun q3 e4 h => ?_)
  refine xq_call (j := 75) (as := [.inr (.inr (7, 5, 0)), .inl q1.1]) (pc' := 24) (ls' := [(0, .inr (.inr (7, 5, 0))), (1, .inl a1), (2, .inl a2)]) (st' := []) rfl rfl (f_X6_recorded_ok e4) ?_
  exact (hr _ (Option.some.inj h).symm) ▸ xq_ret rfl
theorem f_X6_prolong_ok {X : List Int32} {a1 : Int32} {a2 : Int32} {M : xM} {p : Int32 × xM} (h : f_X6_prolong a1 a2 M = some p) : xq X xe 79 0 [(0, .inr (.inr (7, 5, 0))), (1, .inl a1), (2, .inl a2)] [] M ((some (.inl p.1), p.2) : xR) := f_X6_prolong_run h (fun q e => by rw [e])
def f_X0_isInRack (a0r : Nat) (a1 : Int32) (M : xM) : Option (Int32) := if xp_in a1 20 = true then (if (M.1 a0r 19 a1.toNatClampNeg) = (-6 : Int32) then (some ((vp_nar .boolean (0 : Int32)))) else (some ((vp_nar .boolean (1 : Int32))))) else none
theorem f_X0_isInRack_run {X : List Int32} {a0r : Nat} {a1 : Int32} {M : xM} {p : Int32} {r : xR} (h : f_X0_isInRack a0r a1 M = some p) (hr : ∀ q, p = q → ((some (.inl q), M) : xR) = r) : xq X xe 4 0 [(0, .inr (.inr (2, a0r, 18))), (1, .inl a1)] [] M r := by
  unfold f_X0_isInRack at h
  refine xq_blk 3 (pc' := 5) (ls' := [(0, .inr (.inr (2, a0r, 18))), (1, .inl a1)]) (st' := [.inl a1, .inr (.inr (3, a0r, 19))]) (M' := M) rfl ?_
  refine xq_guard h (fun g1 h => ?_)
  refine xq_prim (st' := [.inl (M.1 a0r 19 a1.toNatClampNeg)]) (M' := M) rfl rfl rfl (xg_ald0 rfl g1) ?_
  refine xq_blk 1 (pc' := 8) (ls' := [(0, .inr (.inr (2, a0r, 18))), (1, .inl a1)]) (st' := [.inl (-6 : Int32), .inl (M.1 a0r 19 a1.toNatClampNeg)]) (M' := M) rfl ?_
  refine xq_ite h (fun c2 h => ?_) (fun c2 h => ?_)
  · refine xq_core (pc' := 15) (ls' := [(0, .inr (.inr (2, a0r, 18))), (1, .inl a1)]) (st' := []) rfl (if_pos c2) ?_
    refine xq_blk 1 (pc' := 16) (ls' := [(0, .inr (.inr (2, a0r, 18))), (1, .inl a1)]) (st' := [.inl (0 : Int32)]) (M' := M) rfl ?_
    exact (hr _ (Option.some.inj h).symm) ▸ xq_ret rfl
  · refine xq_core (pc' := 11) (ls' := [(0, .inr (.inr (2, a0r, 18))), (1, .inl a1)]) (st' := []) rfl (if_neg c2) ?_
    refine xq_blk 2 (pc' := 16) (ls' := [(0, .inr (.inr (2, a0r, 18))), (1, .inl a1)]) (st' := [.inl (1 : Int32)]) (M' := M) rfl ?_
    exact (hr _ (Option.some.inj h).symm) ▸ xq_ret rfl
theorem f_X0_isInRack_ok {X : List Int32} {a0r : Nat} {a1 : Int32} {M : xM} {p : Int32} (h : f_X0_isInRack a0r a1 M = some p) : xq X xe 4 0 [(0, .inr (.inr (2, a0r, 18))), (1, .inl a1)] [] M ((some (.inl p), M) : xR) := f_X0_isInRack_run h (fun q e => by rw [e])
def f_X0_isInPound (a0r : Nat) (a1 : Int32) (M : xM) : Option (Int32) := if xp_in a1 20 = true then (if (M.1 a0r 23 a1.toNatClampNeg) = (-6 : Int32) then (some ((vp_nar .boolean (0 : Int32)))) else (some ((vp_nar .boolean (1 : Int32))))) else none
theorem f_X0_isInPound_run {X : List Int32} {a0r : Nat} {a1 : Int32} {M : xM} {p : Int32} {r : xR} (h : f_X0_isInPound a0r a1 M = some p) (hr : ∀ q, p = q → ((some (.inl q), M) : xR) = r) : xq X xe 6 0 [(0, .inr (.inr (2, a0r, 18))), (1, .inl a1)] [] M r := by
  unfold f_X0_isInPound at h
  refine xq_blk 3 (pc' := 5) (ls' := [(0, .inr (.inr (2, a0r, 18))), (1, .inl a1)]) (st' := [.inl a1, .inr (.inr (3, a0r, 23))]) (M' := M) rfl ?_
  refine xq_guard h (fun g1 h => ?_)
  refine xq_prim (st' := [.inl (M.1 a0r 23 a1.toNatClampNeg)]) (M' := M) rfl rfl rfl (xg_ald0 rfl g1) ?_
  refine xq_blk 1 (pc' := 8) (ls' := [(0, .inr (.inr (2, a0r, 18))), (1, .inl a1)]) (st' := [.inl (-6 : Int32), .inl (M.1 a0r 23 a1.toNatClampNeg)]) (M' := M) rfl ?_
  refine xq_ite h (fun c2 h => ?_) (fun c2 h => ?_)
  · refine xq_core (pc' := 15) (ls' := [(0, .inr (.inr (2, a0r, 18))), (1, .inl a1)]) (st' := []) rfl (if_pos c2) ?_
    refine xq_blk 1 (pc' := 16) (ls' := [(0, .inr (.inr (2, a0r, 18))), (1, .inl a1)]) (st' := [.inl (0 : Int32)]) (M' := M) rfl ?_
    exact (hr _ (Option.some.inj h).symm) ▸ xq_ret rfl
  · refine xq_core (pc' := 11) (ls' := [(0, .inr (.inr (2, a0r, 18))), (1, .inl a1)]) (st' := []) rfl (if_neg c2) ?_
    refine xq_blk 2 (pc' := 16) (ls' := [(0, .inr (.inr (2, a0r, 18))), (1, .inl a1)]) (st' := [.inl (1 : Int32)]) (M' := M) rfl ?_
    exact (hr _ (Option.some.inj h).symm) ▸ xq_ret rfl
theorem f_X0_isInPound_ok {X : List Int32} {a0r : Nat} {a1 : Int32} {M : xM} {p : Int32} (h : f_X0_isInPound a0r a1 M = some p) : xq X xe 6 0 [(0, .inr (.inr (2, a0r, 18))), (1, .inl a1)] [] M ((some (.inl p), M) : xR) := f_X0_isInPound_run h (fun q e => by rw [e])
def f_X0_racksTaken_l4 (k4v0r : Nat) (k4v1 : Int32) (M : xM) (s4 : Int32 × Int32) : Option ((Int32 × Int32) ⊕ (Int32)) := if s4.2 < (20 : Int32) then (if xp_in s4.2 20 = true then (if (M.1 k4v0r 19 s4.2.toNatClampNeg) = k4v1 then (if xp_in s4.2 20 = true then (some (.inl (s4.1 ||| ((1 : Int32) <<< ((M.1 k4v0r 20 s4.2.toNatClampNeg) &&& (31 : Int32))), s4.2 + (1 : Int32)))) else none) else (some (.inl (s4.1, s4.2 + (1 : Int32))))) else none) else (Option.map Sum.inr (some (s4.1)))
theorem f_X0_racksTaken_l4_ok {X : List Int32} {k4v0r : Nat} {k4v1 : Int32} {M : xM} {s4 : Int32 × Int32} {p : (Int32 × Int32) ⊕ (Int32)} {r : xR} (h : f_X0_racksTaken_l4 k4v0r k4v1 M s4 = some p) (h0 : ∀ s', p = .inl s' → xq X xe 13 4 [(0, .inr (.inr (2, k4v0r, 18))), (1, .inl k4v1), (2, .inl s'.1), (3, .inl s'.2)] [] M r) (hr : ∀ q, p = .inr (q) → ((some (.inl q), M) : xR) = r) : xq X xe 13 4 [(0, .inr (.inr (2, k4v0r, 18))), (1, .inl k4v1), (2, .inl s4.1), (3, .inl s4.2)] [] M r := by
  unfold f_X0_racksTaken_l4 at h
  refine xq_blk 2 (pc' := 7) (ls' := [(0, .inr (.inr (2, k4v0r, 18))), (1, .inl k4v1), (2, .inl s4.1), (3, .inl s4.2)]) (st' := [.inl (20 : Int32), .inl s4.2]) (M' := M) rfl ?_
  refine xq_ite h (fun c4 h => ?_) (fun c4 h => ?_)
  · refine xq_core (pc' := 10) (ls' := [(0, .inr (.inr (2, k4v0r, 18))), (1, .inl k4v1), (2, .inl s4.1), (3, .inl s4.2)]) (st' := []) rfl (if_pos c4) ?_
    refine xq_blk 3 (pc' := 15) (ls' := [(0, .inr (.inr (2, k4v0r, 18))), (1, .inl k4v1), (2, .inl s4.1), (3, .inl s4.2)]) (st' := [.inl s4.2, .inr (.inr (3, k4v0r, 19))]) (M' := M) rfl ?_
    refine xq_guard h (fun g1 h => ?_)
    refine xq_prim (st' := [.inl (M.1 k4v0r 19 s4.2.toNatClampNeg)]) (M' := M) rfl rfl rfl (xg_ald0 rfl g1) ?_
    refine xq_blk 1 (pc' := 17) (ls' := [(0, .inr (.inr (2, k4v0r, 18))), (1, .inl k4v1), (2, .inl s4.1), (3, .inl s4.2)]) (st' := [.inl k4v1, .inl (M.1 k4v0r 19 s4.2.toNatClampNeg)]) (M' := M) rfl ?_
    refine xq_ite h (fun c3 h => ?_) (fun c3 h => ?_)
    · refine xq_core (pc' := 20) (ls' := [(0, .inr (.inr (2, k4v0r, 18))), (1, .inl k4v1), (2, .inl s4.1), (3, .inl s4.2)]) (st' := []) rfl (if_pos c3) ?_
      refine xq_blk 5 (pc' := 27) (ls' := [(0, .inr (.inr (2, k4v0r, 18))), (1, .inl k4v1), (2, .inl s4.1), (3, .inl s4.2)]) (st' := [.inl s4.2, .inr (.inr (3, k4v0r, 20)), .inl (1 : Int32), .inl s4.1]) (M' := M) rfl ?_
      refine xq_guard h (fun g2 h => ?_)
      refine xq_prim (st' := [.inl (M.1 k4v0r 20 s4.2.toNatClampNeg), .inl (1 : Int32), .inl s4.1]) (M' := M) rfl rfl rfl (xg_ald0 rfl g2) ?_
      refine xq_blk 5 (pc' := 4) (ls' := [(3, .inl (s4.2 + (1 : Int32))), (2, .inl (s4.1 ||| ((1 : Int32) <<< ((M.1 k4v0r 20 s4.2.toNatClampNeg) &&& (31 : Int32))))), (0, .inr (.inr (2, k4v0r, 18))), (1, .inl k4v1)]) (st' := []) (M' := M) rfl ?_
      exact xq_sub (a := [(0, .inr (.inr (2, k4v0r, 18))), (1, .inl k4v1), (2, .inl ((s4.1 ||| ((1 : Int32) <<< ((M.1 k4v0r 20 s4.2.toNatClampNeg) &&& (31 : Int32))), s4.2 + (1 : Int32)).1)), (3, .inl ((s4.1 ||| ((1 : Int32) <<< ((M.1 k4v0r 20 s4.2.toNatClampNeg) &&& (31 : Int32))), s4.2 + (1 : Int32)).2))]) ⟨rfl, rfl, rfl, rfl, trivial⟩ rfl (h0 (s4.1 ||| ((1 : Int32) <<< ((M.1 k4v0r 20 s4.2.toNatClampNeg) &&& (31 : Int32))), s4.2 + (1 : Int32)) (Option.some.inj h).symm)
    · refine xq_core (pc' := 31) (ls' := [(0, .inr (.inr (2, k4v0r, 18))), (1, .inl k4v1), (2, .inl s4.1), (3, .inl s4.2)]) (st' := []) rfl (if_neg c3) ?_
      refine xq_blk 2 (pc' := 4) (ls' := [(3, .inl (s4.2 + (1 : Int32))), (0, .inr (.inr (2, k4v0r, 18))), (1, .inl k4v1), (2, .inl s4.1)]) (st' := []) (M' := M) rfl ?_
      exact xq_sub (a := [(0, .inr (.inr (2, k4v0r, 18))), (1, .inl k4v1), (2, .inl ((s4.1, s4.2 + (1 : Int32)).1)), (3, .inl ((s4.1, s4.2 + (1 : Int32)).2))]) ⟨rfl, rfl, rfl, rfl, trivial⟩ rfl (h0 (s4.1, s4.2 + (1 : Int32)) (Option.some.inj h).symm)
  · refine xq_core (pc' := 37) (ls' := [(0, .inr (.inr (2, k4v0r, 18))), (1, .inl k4v1), (2, .inl s4.1), (3, .inl s4.2)]) (st' := []) rfl (if_neg c4) ?_
    refine xq_map h (fun p h e => ?_)
    replace hr := fun q e' => hr q (e.symm.trans (congrArg Sum.inr e'))
    clear e
    refine xq_blk 1 (pc' := 38) (ls' := [(0, .inr (.inr (2, k4v0r, 18))), (1, .inl k4v1), (2, .inl s4.1), (3, .inl s4.2)]) (st' := [.inl s4.1]) (M' := M) rfl ?_
    exact (hr _ (Option.some.inj h).symm) ▸ xq_ret rfl
def f_X0_racksTaken (a0r : Nat) (a1 : Int32) (M : xM) : Option (Int32) := xlp (f_X0_racksTaken_l4 a0r a1 M) 4000 ((0 : Int32), (0 : Int32))
theorem f_X0_racksTaken_run {X : List Int32} {a0r : Nat} {a1 : Int32} {M : xM} {p : Int32} {r : xR} (h : f_X0_racksTaken a0r a1 M = some p) (hr : ∀ q, p = q → ((some (.inl q), M) : xR) = r) : xq X xe 13 0 [(0, .inr (.inr (2, a0r, 18))), (1, .inl a1)] [] M r := by
  unfold f_X0_racksTaken at h
  refine xq_blk 4 (pc' := 4) (ls' := [(3, .inl (0 : Int32)), (2, .inl (0 : Int32)), (0, .inr (.inr (2, a0r, 18))), (1, .inl a1)]) (st' := []) (M' := M) rfl ?_
  refine xq_sub (a := [(0, .inr (.inr (2, a0r, 18))), (1, .inl a1), (2, .inl (0 : Int32)), (3, .inl (0 : Int32))]) ⟨rfl, rfl, rfl, rfl, trivial⟩ rfl ?_
  exact xlp_ok (P := fun s4 => xq X xe 13 4 [(0, .inr (.inr (2, a0r, 18))), (1, .inl a1), (2, .inl s4.1), (3, .inl s4.2)] [] M r) (fun s p' hb g0 g1 => f_X0_racksTaken_l4_ok hb g0 (fun q e => hr q (g1 _ e).symm)) 4000 _ h
theorem f_X0_racksTaken_ok {X : List Int32} {a0r : Nat} {a1 : Int32} {M : xM} {p : Int32} (h : f_X0_racksTaken a0r a1 M = some p) : xq X xe 13 0 [(0, .inr (.inr (2, a0r, 18))), (1, .inl a1)] [] M ((some (.inl p), M) : xR) := f_X0_racksTaken_run h (fun q e => by rw [e])
def f_X5_lowestFreeRack_l20 (k20v2 : Int32) (M : xM) (s20 : Int32) : Option ((Int32) ⊕ (Int32)) := if s20 < (8 : Int32) then (if ((k20v2 >>> (s20 &&& (31 : Int32))) &&& (1 : Int32)) = (1 : Int32) then (Option.map Sum.inr (some (s20))) else (some (.inl (s20 + (1 : Int32))))) else (Option.map Sum.inr (some ((-6 : Int32))))
theorem f_X5_lowestFreeRack_l20_ok {X : List Int32} {k20v2 : Int32} {M : xM} {s20 : Int32} {p : (Int32) ⊕ (Int32)} {r : xR} (h : f_X5_lowestFreeRack_l20 k20v2 M s20 = some p) (h0 : ∀ s', p = .inl s' → xq X xe 56 20 [(2, .inl k20v2), (3, .inl s')] [] M r) (hr : ∀ q, p = .inr (q) → ((some (.inl q), M) : xR) = r) : xq X xe 56 20 [(2, .inl k20v2), (3, .inl s20)] [] M r := by
  unfold f_X5_lowestFreeRack_l20 at h
  refine xq_blk 2 (pc' := 23) (ls' := [(2, .inl k20v2), (3, .inl s20)]) (st' := [.inl (8 : Int32), .inl s20]) (M' := M) rfl ?_
  refine xq_ite h (fun c5 h => ?_) (fun c5 h => ?_)
  · refine xq_core (pc' := 26) (ls' := [(2, .inl k20v2), (3, .inl s20)]) (st' := []) rfl (if_pos c5) ?_
    refine xq_blk 6 (pc' := 32) (ls' := [(2, .inl k20v2), (3, .inl s20)]) (st' := [.inl (1 : Int32), .inl ((k20v2 >>> (s20 &&& (31 : Int32))) &&& (1 : Int32))]) (M' := M) rfl ?_
    refine xq_ite h (fun c4 h => ?_) (fun c4 h => ?_)
    · refine xq_core (pc' := 35) (ls' := [(2, .inl k20v2), (3, .inl s20)]) (st' := []) rfl (if_pos c4) ?_
      refine xq_map h (fun p h e => ?_)
      replace hr := fun q e' => hr q (e.symm.trans (congrArg Sum.inr e'))
      clear e
      refine xq_blk 1 (pc' := 36) (ls' := [(2, .inl k20v2), (3, .inl s20)]) (st' := [.inl s20]) (M' := M) rfl ?_
      exact (hr _ (Option.some.inj h).symm) ▸ xq_ret rfl
    · refine xq_core (pc' := 37) (ls' := [(2, .inl k20v2), (3, .inl s20)]) (st' := []) rfl (if_neg c4) ?_
      refine xq_blk 2 (pc' := 20) (ls' := [(3, .inl (s20 + (1 : Int32))), (2, .inl k20v2)]) (st' := []) (M' := M) rfl ?_
      exact xq_sub (a := [(2, .inl k20v2), (3, .inl (s20 + (1 : Int32)))]) ⟨rfl, rfl, trivial⟩ rfl (h0 (s20 + (1 : Int32)) (Option.some.inj h).symm)
  · refine xq_core (pc' := 43) (ls' := [(2, .inl k20v2), (3, .inl s20)]) (st' := []) rfl (if_neg c5) ?_
    refine xq_map h (fun p h e => ?_)
    replace hr := fun q e' => hr q (e.symm.trans (congrArg Sum.inr e'))
    clear e
    refine xq_blk 1 (pc' := 45) (ls' := [(2, .inl k20v2), (3, .inl s20)]) (st' := [.inl (-6 : Int32)]) (M' := M) rfl ?_
    exact (hr _ (Option.some.inj h).symm) ▸ xq_ret rfl
def f_X5_lowestFreeRack (a0r : Nat) (a1 : Int32) (M : xM) : Option (Int32) := if xp_in a1 3 = true then ((f_X0_racksTaken a0r a1 M).bind (fun q2 => xlp (f_X5_lowestFreeRack_l20 ((M.1 a0r 2 a1.toNatClampNeg) &&& (q2 ^^^ (-1 : Int32))) M) 4000 (0 : Int32))) else none
theorem f_X5_lowestFreeRack_run {X : List Int32} {a0r : Nat} {a1 : Int32} {M : xM} {p : Int32} {r : xR} (h : f_X5_lowestFreeRack a0r a1 M = some p) (hr : ∀ q, p = q → ((some (.inl q), M) : xR) = r) : xq X xe 56 0 [(0, .inr (.inr (0, a0r, 0))), (1, .inl a1)] [] M r := by
  unfold f_X5_lowestFreeRack at h
  refine xq_blk 3 (pc' := 5) (ls' := [(0, .inr (.inr (0, a0r, 0))), (1, .inl a1)]) (st' := [.inl a1, .inr (.inr (5, a0r, 2))]) (M' := M) rfl ?_
  refine xq_guard h (fun g1 h => ?_)
  refine xq_prim (st' := [.inl (M.1 a0r 2 a1.toNatClampNeg)]) (M' := M) rfl rfl rfl (xg_ald0 rfl g1) ?_
  refine xq_blk 3 (pc' := 11) (ls' := [(0, .inr (.inr (0, a0r, 0))), (1, .inl a1)]) (st' := [.inl a1, .inr (.inr (2, a0r, 18)), .inl (M.1 a0r 2 a1.toNatClampNeg)]) (M' := M) rfl ?_
  refine xq_bind h (fun q2 e3 h => ?_)
  refine xq_call (j := 13) (as := [.inr (.inr (2, a0r, 18)), .inl a1]) (pc' := 14) (ls' := [(0, .inr (.inr (0, a0r, 0))), (1, .inl a1)]) (st' := [.inl (M.1 a0r 2 a1.toNatClampNeg)]) rfl rfl (f_X0_racksTaken_ok e3) ?_
  refine xq_blk 6 (pc' := 20) (ls' := [(3, .inl (0 : Int32)), (2, .inl ((M.1 a0r 2 a1.toNatClampNeg) &&& (q2 ^^^ (-1 : Int32)))), (0, .inr (.inr (0, a0r, 0))), (1, .inl a1)]) (st' := []) (M' := M) rfl ?_
  refine xq_sub (a := [(2, .inl ((M.1 a0r 2 a1.toNatClampNeg) &&& (q2 ^^^ (-1 : Int32)))), (3, .inl (0 : Int32))]) ⟨rfl, rfl, trivial⟩ rfl ?_
  exact xlp_ok (P := fun s20 => xq X xe 56 20 [(2, .inl ((M.1 a0r 2 a1.toNatClampNeg) &&& (q2 ^^^ (-1 : Int32)))), (3, .inl s20)] [] M r) (fun s p' hb g0 g1 => f_X5_lowestFreeRack_l20_ok hb g0 (fun q e => hr q (g1 _ e).symm)) 4000 _ h
theorem f_X5_lowestFreeRack_ok {X : List Int32} {a0r : Nat} {a1 : Int32} {M : xM} {p : Int32} (h : f_X5_lowestFreeRack a0r a1 M = some p) : xq X xe 56 0 [(0, .inr (.inr (0, a0r, 0))), (1, .inl a1)] [] M ((some (.inl p), M) : xR) := f_X5_lowestFreeRack_run h (fun q e => by rw [e])
def f_X0_placeInRack (a0r : Nat) (a1 : Int32) (a2 : Int32) (a3 : Int32) (a4 : Int32) (M : xM) : Option (xM) := if xp_in a1 20 = true then (if xp_in a1 20 = true then (if xp_in a1 20 = true then (some (xd_up (xd_up (xd_up M a0r 19 a1.toNatClampNeg a2) a0r 20 a1.toNatClampNeg a3) a0r 21 a1.toNatClampNeg a4)) else none) else none) else none
theorem f_X0_placeInRack_run {X : List Int32} {a0r : Nat} {a1 : Int32} {a2 : Int32} {a3 : Int32} {a4 : Int32} {M : xM} {p : xM} {r : xR} (h : f_X0_placeInRack a0r a1 a2 a3 a4 M = some p) (hr : ∀ q, p = q → ((none, q) : xR) = r) : xq X xe 7 0 [(0, .inr (.inr (2, a0r, 18))), (1, .inl a1), (2, .inl a2), (3, .inl a3), (4, .inl a4)] [] M r := by
  unfold f_X0_placeInRack at h
  refine xq_blk 4 (pc' := 6) (ls' := [(0, .inr (.inr (2, a0r, 18))), (1, .inl a1), (2, .inl a2), (3, .inl a3), (4, .inl a4)]) (st' := [.inl a2, .inl a1, .inr (.inr (3, a0r, 19))]) (M' := M) rfl ?_
  refine xq_guard h (fun g1 h => ?_)
  refine xq_prim (st' := []) (M' := xd_up M a0r 19 a1.toNatClampNeg a2) rfl rfl rfl (xg_ast0 rfl g1) ?_
  refine xq_blk 4 (pc' := 13) (ls' := [(0, .inr (.inr (2, a0r, 18))), (1, .inl a1), (2, .inl a2), (3, .inl a3), (4, .inl a4)]) (st' := [.inl a3, .inl a1, .inr (.inr (3, a0r, 20))]) (M' := xd_up M a0r 19 a1.toNatClampNeg a2) rfl ?_
  refine xq_guard h (fun g2 h => ?_)
  refine xq_prim (st' := []) (M' := xd_up (xd_up M a0r 19 a1.toNatClampNeg a2) a0r 20 a1.toNatClampNeg a3) rfl rfl rfl (xg_ast0 rfl g2) ?_
  refine xq_blk 4 (pc' := 21) (ls' := [(0, .inr (.inr (2, a0r, 18))), (1, .inl a1), (2, .inl a2), (3, .inl a3), (4, .inl a4)]) (st' := [.inl a4, .inl a1, .inr (.inr (3, a0r, 21))]) (M' := xd_up (xd_up M a0r 19 a1.toNatClampNeg a2) a0r 20 a1.toNatClampNeg a3) rfl ?_
  refine xq_guard h (fun g3 h => ?_)
  refine xq_prim (st' := []) (M' := xd_up (xd_up (xd_up M a0r 19 a1.toNatClampNeg a2) a0r 20 a1.toNatClampNeg a3) a0r 21 a1.toNatClampNeg a4) rfl rfl rfl (xg_ast0 rfl g3) ?_
  exact (hr _ (Option.some.inj h).symm) ▸ xq_ret rfl
theorem f_X0_placeInRack_ok {X : List Int32} {a0r : Nat} {a1 : Int32} {a2 : Int32} {a3 : Int32} {a4 : Int32} {M : xM} {p : xM} (h : f_X0_placeInRack a0r a1 a2 a3 a4 M = some p) : xq X xe 7 0 [(0, .inr (.inr (2, a0r, 18))), (1, .inl a1), (2, .inl a2), (3, .inl a3), (4, .inl a4)] [] M ((none, p) : xR) := f_X0_placeInRack_run h (fun q e => by rw [e])
def f_X5_parkBicycle (a0r : Nat) (a1 : Int32) (M : xM) : Option (Int32 × xM) := (f_X6_isPerson a1 M).bind (fun q1 => if q1 = (0 : Int32) then (some (((-1 : Int32), M))) else ((f_X4_hasPermit a0r a1 M).bind (fun q3 => if q3 = (0 : Int32) then (some (((-5 : Int32), M))) else ((f_X0_isInRack a0r a1 M).bind (fun q5 => if q5 = (0 : Int32) then ((f_X0_isInPound a0r a1 M).bind (fun q7 => if q7 = (0 : Int32) then (if xp_in a1 20 = true then ((f_X5_lowestFreeRack a0r (M.1 a0r 4 a1.toNatClampNeg) M).bind (fun q10 => if q10 = (-6 : Int32) then (some (((-4 : Int32), M))) else ((f_X0_placeInRack a0r a1 (M.1 a0r 4 a1.toNatClampNeg) q10 (M.1 a0r 0 4) M).bind (fun q12 => some ((q10, q12)))))) else none) else (some (((-5 : Int32), M))))) else (some (((-5 : Int32), M))))))))
theorem f_X5_parkBicycle_run {X : List Int32} {a0r : Nat} {a1 : Int32} {M : xM} {p : Int32 × xM} {r : xR} (h : f_X5_parkBicycle a0r a1 M = some p) (hr : ∀ q, p = q → ((some (.inl q.1), q.2) : xR) = r) : xq X xe 57 0 [(0, .inr (.inr (0, a0r, 0))), (1, .inl a1)] [] M r := by
  unfold f_X5_parkBicycle at h
  refine xq_blk 1 (pc' := 1) (ls' := [(0, .inr (.inr (0, a0r, 0))), (1, .inl a1)]) (st' := [.inl a1]) (M' := M) rfl ?_
  refine xq_bind h (fun q1 e2 h => ?_)
  refine xq_call (j := 46) (as := [.inl a1]) (pc' := 4) (ls' := [(0, .inr (.inr (0, a0r, 0))), (1, .inl a1)]) (st' := []) rfl rfl (f_X6_isPerson_ok e2) ?_
  refine xq_ite h (fun c18 h => ?_) (fun c18 h => ?_)
  · refine xq_core (pc' := 7) (ls' := [(0, .inr (.inr (0, a0r, 0))), (1, .inl a1)]) (st' := []) rfl (if_pos c18) ?_
    refine xq_blk 1 (pc' := 8) (ls' := [(0, .inr (.inr (0, a0r, 0))), (1, .inl a1)]) (st' := [.inl (-1 : Int32)]) (M' := M) rfl ?_
    exact (hr _ (Option.some.inj h).symm) ▸ xq_ret rfl
  · refine xq_core (pc' := 9) (ls' := [(0, .inr (.inr (0, a0r, 0))), (1, .inl a1)]) (st' := []) rfl (if_neg c18) ?_
    refine xq_blk 3 (pc' := 14) (ls' := [(0, .inr (.inr (0, a0r, 0))), (1, .inl a1)]) (st' := [.inl a1, .inr (.inr (1, a0r, 3))]) (M' := M) rfl ?_
    refine xq_bind h (fun q3 e4 h => ?_)
    refine xq_call (j := 32) (as := [.inr (.inr (1, a0r, 3)), .inl a1]) (pc' := 17) (ls' := [(0, .inr (.inr (0, a0r, 0))), (1, .inl a1)]) (st' := []) rfl rfl (f_X4_hasPermit_ok e4) ?_
    refine xq_ite h (fun c17 h => ?_) (fun c17 h => ?_)
    · refine xq_core (pc' := 42) (ls' := [(0, .inr (.inr (0, a0r, 0))), (1, .inl a1)]) (st' := []) rfl (if_pos c17) ?_
      refine xq_blk 1 (pc' := 44) (ls' := [(0, .inr (.inr (0, a0r, 0))), (1, .inl a1)]) (st' := [.inl (-5 : Int32)]) (M' := M) rfl ?_
      exact (hr _ (Option.some.inj h).symm) ▸ xq_ret rfl
    · refine xq_core (pc' := 20) (ls' := [(0, .inr (.inr (0, a0r, 0))), (1, .inl a1)]) (st' := []) rfl (if_neg c17) ?_
      refine xq_blk 3 (pc' := 25) (ls' := [(0, .inr (.inr (0, a0r, 0))), (1, .inl a1)]) (st' := [.inl a1, .inr (.inr (2, a0r, 18))]) (M' := M) rfl ?_
      refine xq_bind h (fun q5 e6 h => ?_)
      refine xq_call (j := 4) (as := [.inr (.inr (2, a0r, 18)), .inl a1]) (pc' := 28) (ls' := [(0, .inr (.inr (0, a0r, 0))), (1, .inl a1)]) (st' := []) rfl rfl (f_X0_isInRack_ok e6) ?_
      refine xq_ite h (fun c16 h => ?_) (fun c16 h => ?_)
      · refine xq_core (pc' := 31) (ls' := [(0, .inr (.inr (0, a0r, 0))), (1, .inl a1)]) (st' := []) rfl (if_pos c16) ?_
        refine xq_blk 3 (pc' := 36) (ls' := [(0, .inr (.inr (0, a0r, 0))), (1, .inl a1)]) (st' := [.inl a1, .inr (.inr (2, a0r, 18))]) (M' := M) rfl ?_
        refine xq_bind h (fun q7 e8 h => ?_)
        refine xq_call (j := 6) (as := [.inr (.inr (2, a0r, 18)), .inl a1]) (pc' := 39) (ls' := [(0, .inr (.inr (0, a0r, 0))), (1, .inl a1)]) (st' := []) rfl rfl (f_X0_isInPound_ok e8) ?_
        refine xq_ite h (fun c15 h => ?_) (fun c15 h => ?_)
        · refine xq_core (pc' := 45) (ls' := [(0, .inr (.inr (0, a0r, 0))), (1, .inl a1)]) (st' := []) rfl (if_pos c15) ?_
          refine xq_blk 4 (pc' := 53) (ls' := [(0, .inr (.inr (0, a0r, 0))), (1, .inl a1)]) (st' := [.inl a1, .inr (.inr (3, a0r, 4))]) (M' := M) rfl ?_
          refine xq_guard h (fun g9 h => ?_)
          refine xq_prim (st' := [.inl (M.1 a0r 4 a1.toNatClampNeg)]) (M' := M) rfl rfl rfl (xg_ald0 rfl g9) ?_
          refine xq_blk 3 (pc' := 57) (ls' := [(2, .inl (M.1 a0r 4 a1.toNatClampNeg)), (0, .inr (.inr (0, a0r, 0))), (1, .inl a1)]) (st' := [.inl (M.1 a0r 4 a1.toNatClampNeg), .inr (.inr (0, a0r, 0))]) (M' := M) rfl ?_
          refine xq_bind h (fun q10 e11 h => ?_)
          refine xq_call (j := 56) (as := [.inr (.inr (0, a0r, 0)), .inl (M.1 a0r 4 a1.toNatClampNeg)]) (pc' := 60) (ls' := [(2, .inl (M.1 a0r 4 a1.toNatClampNeg)), (0, .inr (.inr (0, a0r, 0))), (1, .inl a1)]) (st' := []) rfl rfl (f_X5_lowestFreeRack_ok e11) ?_
          refine xq_blk 3 (pc' := 64) (ls' := [(3, .inl q10), (2, .inl (M.1 a0r 4 a1.toNatClampNeg)), (0, .inr (.inr (0, a0r, 0))), (1, .inl a1)]) (st' := [.inl (-6 : Int32), .inl q10]) (M' := M) rfl ?_
          refine xq_ite h (fun c14 h => ?_) (fun c14 h => ?_)
          · refine xq_core (pc' := 67) (ls' := [(3, .inl q10), (2, .inl (M.1 a0r 4 a1.toNatClampNeg)), (0, .inr (.inr (0, a0r, 0))), (1, .inl a1)]) (st' := []) rfl (if_pos c14) ?_
            refine xq_blk 1 (pc' := 69) (ls' := [(3, .inl q10), (2, .inl (M.1 a0r 4 a1.toNatClampNeg)), (0, .inr (.inr (0, a0r, 0))), (1, .inl a1)]) (st' := [.inl (-4 : Int32)]) (M' := M) rfl ?_
            exact (hr _ (Option.some.inj h).symm) ▸ xq_ret rfl
          · refine xq_core (pc' := 70) (ls' := [(3, .inl q10), (2, .inl (M.1 a0r 4 a1.toNatClampNeg)), (0, .inr (.inr (0, a0r, 0))), (1, .inl a1)]) (st' := []) rfl (if_neg c14) ?_
            refine xq_blk 7 (pc' := 81) (ls' := [(3, .inl q10), (2, .inl (M.1 a0r 4 a1.toNatClampNeg)), (0, .inr (.inr (0, a0r, 0))), (1, .inl a1)]) (st' := [.inl (M.1 a0r 0 4), .inl q10, .inl (M.1 a0r 4 a1.toNatClampNeg), .inl a1, .inr (.inr (2, a0r, 18))]) (M' := M) rfl ?_
            refine xq_bind h (fun q12 e13 h => ?_)
            refine xq_call (j := 7) (as := [.inr (.inr (2, a0r, 18)), .inl a1, .inl (M.1 a0r 4 a1.toNatClampNeg), .inl q10, .inl (M.1 a0r 0 4)]) (pc' := 84) (ls' := [(3, .inl q10), (2, .inl (M.1 a0r 4 a1.toNatClampNeg)), (0, .inr (.inr (0, a0r, 0))), (1, .inl a1)]) (st' := []) rfl rfl (f_X0_placeInRack_ok e13) ?_
            refine xq_blk 1 (pc' := 85) (ls' := [(3, .inl q10), (2, .inl (M.1 a0r 4 a1.toNatClampNeg)), (0, .inr (.inr (0, a0r, 0))), (1, .inl a1)]) (st' := [.inl q10]) (M' := q12) rfl ?_
            exact (hr _ (Option.some.inj h).symm) ▸ xq_ret rfl
        · refine xq_core (pc' := 42) (ls' := [(0, .inr (.inr (0, a0r, 0))), (1, .inl a1)]) (st' := []) rfl (if_neg c15) ?_
          refine xq_blk 1 (pc' := 44) (ls' := [(0, .inr (.inr (0, a0r, 0))), (1, .inl a1)]) (st' := [.inl (-5 : Int32)]) (M' := M) rfl ?_
          exact (hr _ (Option.some.inj h).symm) ▸ xq_ret rfl
      · refine xq_core (pc' := 42) (ls' := [(0, .inr (.inr (0, a0r, 0))), (1, .inl a1)]) (st' := []) rfl (if_neg c16) ?_
        refine xq_blk 1 (pc' := 44) (ls' := [(0, .inr (.inr (0, a0r, 0))), (1, .inl a1)]) (st' := [.inl (-5 : Int32)]) (M' := M) rfl ?_
        exact (hr _ (Option.some.inj h).symm) ▸ xq_ret rfl
theorem f_X5_parkBicycle_ok {X : List Int32} {a0r : Nat} {a1 : Int32} {M : xM} {p : Int32 × xM} (h : f_X5_parkBicycle a0r a1 M = some p) : xq X xe 57 0 [(0, .inr (.inr (0, a0r, 0))), (1, .inl a1)] [] M ((some (.inl p.1), p.2) : xR) := f_X5_parkBicycle_run h (fun q e => by rw [e])
def f_X6_park (a1 : Int32) (M : xM) : Option (Int32 × xM) := (f_X5_parkBicycle 2 a1 (xe_cp 3 2 M)).bind (fun q1 => (f_X6_recorded q1.1 q1.2).bind (fun q3 => some ((q3.1, q3.2))))
theorem f_X6_park_run {X : List Int32} {a1 : Int32} {M : xM} {p : Int32 × xM} {r : xR} (h : f_X6_park a1 M = some p) (hr : ∀ q, p = q → ((some (.inl q.1), q.2) : xR) = r) : xq X xe 80 0 [(0, .inr (.inr (7, 5, 0))), (1, .inl a1)] [] M r := by
  unfold f_X6_park at h
  refine xq_blk 4 (pc' := 8) (ls' := [(0, .inr (.inr (7, 5, 0))), (1, .inl a1)]) (st' := [.inr (.inr (0, 2, 0)), .inr (.inr (0, 3, 0))]) (M' := M) rfl ?_
  refine xq_ext (j := 27) (as := [.inr (.inr (0, 3, 0)), .inr (.inr (0, 2, 0))]) (pc' := 11) (ls' := [(0, .inr (.inr (7, 5, 0))), (1, .inl a1)]) (st' := []) (q := (none, xe_cp 3 2 M)) rfl rfl rfl ?_
  refine xq_blk 4 (pc' := 17) (ls' := [(0, .inr (.inr (7, 5, 0))), (1, .inl a1)]) (st' := [.inl a1, .inr (.inr (0, 2, 0)), .inr (.inr (7, 5, 0))]) (M' := xe_cp 3 2 M) rfl ?_
  refine xq_bind h (fun q1 e2 h => ?_)
  refine xq_call (j := 57) (as := [.inr (.inr (0, 2, 0)), .inl a1]) (pc' := 20) (ls' := [(0, .inr (.inr (7, 5, 0))), (1, .inl a1)]) (st' := [.inr (.inr (7, 5, 0))]) rfl rfl (f_X5_parkBicycle_ok e2) ?_
  refine xq_bind h (fun q3 e4 h => ?_)
  refine xq_call (j := 75) (as := [.inr (.inr (7, 5, 0)), .inl q1.1]) (pc' := 23) (ls' := [(0, .inr (.inr (7, 5, 0))), (1, .inl a1)]) (st' := []) rfl rfl (f_X6_recorded_ok e4) ?_
  exact (hr _ (Option.some.inj h).symm) ▸ xq_ret rfl
theorem f_X6_park_ok {X : List Int32} {a1 : Int32} {M : xM} {p : Int32 × xM} (h : f_X6_park a1 M = some p) : xq X xe 80 0 [(0, .inr (.inr (7, 5, 0))), (1, .inl a1)] [] M ((some (.inl p.1), p.2) : xR) := f_X6_park_run h (fun q e => by rw [e])
def f_X0_leaveRack (a0r : Nat) (a1 : Int32) (M : xM) : Option (xM) := if xp_in a1 20 = true then (if xp_in a1 20 = true then (if xp_in a1 20 = true then (if xp_in a1 20 = true then (some (xd_up (xd_up (xd_up (xd_up M a0r 19 a1.toNatClampNeg (-6 : Int32)) a0r 20 a1.toNatClampNeg (-6 : Int32)) a0r 21 a1.toNatClampNeg (-6 : Int32)) a0r 22 a1.toNatClampNeg (-6 : Int32))) else none) else none) else none) else none
theorem f_X0_leaveRack_run {X : List Int32} {a0r : Nat} {a1 : Int32} {M : xM} {p : xM} {r : xR} (h : f_X0_leaveRack a0r a1 M = some p) (hr : ∀ q, p = q → ((none, q) : xR) = r) : xq X xe 8 0 [(0, .inr (.inr (2, a0r, 18))), (1, .inl a1)] [] M r := by
  unfold f_X0_leaveRack at h
  refine xq_blk 4 (pc' := 7) (ls' := [(0, .inr (.inr (2, a0r, 18))), (1, .inl a1)]) (st' := [.inl (-6 : Int32), .inl a1, .inr (.inr (3, a0r, 19))]) (M' := M) rfl ?_
  refine xq_guard h (fun g1 h => ?_)
  refine xq_prim (st' := []) (M' := xd_up M a0r 19 a1.toNatClampNeg (-6 : Int32)) rfl rfl rfl (xg_ast0 rfl g1) ?_
  refine xq_blk 4 (pc' := 15) (ls' := [(0, .inr (.inr (2, a0r, 18))), (1, .inl a1)]) (st' := [.inl (-6 : Int32), .inl a1, .inr (.inr (3, a0r, 20))]) (M' := xd_up M a0r 19 a1.toNatClampNeg (-6 : Int32)) rfl ?_
  refine xq_guard h (fun g2 h => ?_)
  refine xq_prim (st' := []) (M' := xd_up (xd_up M a0r 19 a1.toNatClampNeg (-6 : Int32)) a0r 20 a1.toNatClampNeg (-6 : Int32)) rfl rfl rfl (xg_ast0 rfl g2) ?_
  refine xq_blk 4 (pc' := 23) (ls' := [(0, .inr (.inr (2, a0r, 18))), (1, .inl a1)]) (st' := [.inl (-6 : Int32), .inl a1, .inr (.inr (3, a0r, 21))]) (M' := xd_up (xd_up M a0r 19 a1.toNatClampNeg (-6 : Int32)) a0r 20 a1.toNatClampNeg (-6 : Int32)) rfl ?_
  refine xq_guard h (fun g3 h => ?_)
  refine xq_prim (st' := []) (M' := xd_up (xd_up (xd_up M a0r 19 a1.toNatClampNeg (-6 : Int32)) a0r 20 a1.toNatClampNeg (-6 : Int32)) a0r 21 a1.toNatClampNeg (-6 : Int32)) rfl rfl rfl (xg_ast0 rfl g3) ?_
  refine xq_blk 4 (pc' := 31) (ls' := [(0, .inr (.inr (2, a0r, 18))), (1, .inl a1)]) (st' := [.inl (-6 : Int32), .inl a1, .inr (.inr (3, a0r, 22))]) (M' := xd_up (xd_up (xd_up M a0r 19 a1.toNatClampNeg (-6 : Int32)) a0r 20 a1.toNatClampNeg (-6 : Int32)) a0r 21 a1.toNatClampNeg (-6 : Int32)) rfl ?_
  refine xq_guard h (fun g4 h => ?_)
  refine xq_prim (st' := []) (M' := xd_up (xd_up (xd_up (xd_up M a0r 19 a1.toNatClampNeg (-6 : Int32)) a0r 20 a1.toNatClampNeg (-6 : Int32)) a0r 21 a1.toNatClampNeg (-6 : Int32)) a0r 22 a1.toNatClampNeg (-6 : Int32)) rfl rfl rfl (xg_ast0 rfl g4) ?_
  exact (hr _ (Option.some.inj h).symm) ▸ xq_ret rfl
theorem f_X0_leaveRack_ok {X : List Int32} {a0r : Nat} {a1 : Int32} {M : xM} {p : xM} (h : f_X0_leaveRack a0r a1 M = some p) : xq X xe 8 0 [(0, .inr (.inr (2, a0r, 18))), (1, .inl a1)] [] M ((none, p) : xR) := f_X0_leaveRack_run h (fun q e => by rw [e])
def f_X5_rideAway (a0r : Nat) (a1 : Int32) (M : xM) : Option (Int32 × xM) := (f_X6_isPerson a1 M).bind (fun q1 => if q1 = (0 : Int32) then (some (((-1 : Int32), M))) else ((f_X0_isInRack a0r a1 M).bind (fun q3 => if q3 = (0 : Int32) then (some (((-5 : Int32), M))) else (if xp_in a1 20 = true then ((f_X0_leaveRack a0r a1 M).bind (fun q6 => some (((M.1 a0r 0 4) - (M.1 a0r 21 a1.toNatClampNeg), q6)))) else none))))
theorem f_X5_rideAway_run {X : List Int32} {a0r : Nat} {a1 : Int32} {M : xM} {p : Int32 × xM} {r : xR} (h : f_X5_rideAway a0r a1 M = some p) (hr : ∀ q, p = q → ((some (.inl q.1), q.2) : xR) = r) : xq X xe 58 0 [(0, .inr (.inr (0, a0r, 0))), (1, .inl a1)] [] M r := by
  unfold f_X5_rideAway at h
  refine xq_blk 1 (pc' := 1) (ls' := [(0, .inr (.inr (0, a0r, 0))), (1, .inl a1)]) (st' := [.inl a1]) (M' := M) rfl ?_
  refine xq_bind h (fun q1 e2 h => ?_)
  refine xq_call (j := 46) (as := [.inl a1]) (pc' := 4) (ls' := [(0, .inr (.inr (0, a0r, 0))), (1, .inl a1)]) (st' := []) rfl rfl (f_X6_isPerson_ok e2) ?_
  refine xq_ite h (fun c9 h => ?_) (fun c9 h => ?_)
  · refine xq_core (pc' := 7) (ls' := [(0, .inr (.inr (0, a0r, 0))), (1, .inl a1)]) (st' := []) rfl (if_pos c9) ?_
    refine xq_blk 1 (pc' := 8) (ls' := [(0, .inr (.inr (0, a0r, 0))), (1, .inl a1)]) (st' := [.inl (-1 : Int32)]) (M' := M) rfl ?_
    exact (hr _ (Option.some.inj h).symm) ▸ xq_ret rfl
  · refine xq_core (pc' := 9) (ls' := [(0, .inr (.inr (0, a0r, 0))), (1, .inl a1)]) (st' := []) rfl (if_neg c9) ?_
    refine xq_blk 3 (pc' := 14) (ls' := [(0, .inr (.inr (0, a0r, 0))), (1, .inl a1)]) (st' := [.inl a1, .inr (.inr (2, a0r, 18))]) (M' := M) rfl ?_
    refine xq_bind h (fun q3 e4 h => ?_)
    refine xq_call (j := 4) (as := [.inr (.inr (2, a0r, 18)), .inl a1]) (pc' := 17) (ls' := [(0, .inr (.inr (0, a0r, 0))), (1, .inl a1)]) (st' := []) rfl rfl (f_X0_isInRack_ok e4) ?_
    refine xq_ite h (fun c8 h => ?_) (fun c8 h => ?_)
    · refine xq_core (pc' := 20) (ls' := [(0, .inr (.inr (0, a0r, 0))), (1, .inl a1)]) (st' := []) rfl (if_pos c8) ?_
      refine xq_blk 1 (pc' := 22) (ls' := [(0, .inr (.inr (0, a0r, 0))), (1, .inl a1)]) (st' := [.inl (-5 : Int32)]) (M' := M) rfl ?_
      exact (hr _ (Option.some.inj h).symm) ▸ xq_ret rfl
    · refine xq_core (pc' := 23) (ls' := [(0, .inr (.inr (0, a0r, 0))), (1, .inl a1)]) (st' := []) rfl (if_neg c8) ?_
      refine xq_blk 6 (pc' := 35) (ls' := [(0, .inr (.inr (0, a0r, 0))), (1, .inl a1)]) (st' := [.inl a1, .inr (.inr (3, a0r, 21)), .inl (M.1 a0r 0 4)]) (M' := M) rfl ?_
      refine xq_guard h (fun g5 h => ?_)
      refine xq_prim (st' := [.inl (M.1 a0r 21 a1.toNatClampNeg), .inl (M.1 a0r 0 4)]) (M' := M) rfl rfl rfl (xg_ald0 rfl g5) ?_
      refine xq_blk 5 (pc' := 43) (ls' := [(2, .inl ((M.1 a0r 0 4) - (M.1 a0r 21 a1.toNatClampNeg))), (0, .inr (.inr (0, a0r, 0))), (1, .inl a1)]) (st' := [.inl a1, .inr (.inr (2, a0r, 18))]) (M' := M) rfl ?_
      refine xq_bind h (fun q6 e7 h => ?_)
      refine xq_call (j := 8) (as := [.inr (.inr (2, a0r, 18)), .inl a1]) (pc' := 46) (ls' := [(2, .inl ((M.1 a0r 0 4) - (M.1 a0r 21 a1.toNatClampNeg))), (0, .inr (.inr (0, a0r, 0))), (1, .inl a1)]) (st' := []) rfl rfl (f_X0_leaveRack_ok e7) ?_
      refine xq_blk 1 (pc' := 47) (ls' := [(2, .inl ((M.1 a0r 0 4) - (M.1 a0r 21 a1.toNatClampNeg))), (0, .inr (.inr (0, a0r, 0))), (1, .inl a1)]) (st' := [.inl ((M.1 a0r 0 4) - (M.1 a0r 21 a1.toNatClampNeg))]) (M' := q6) rfl ?_
      exact (hr _ (Option.some.inj h).symm) ▸ xq_ret rfl
theorem f_X5_rideAway_ok {X : List Int32} {a0r : Nat} {a1 : Int32} {M : xM} {p : Int32 × xM} (h : f_X5_rideAway a0r a1 M = some p) : xq X xe 58 0 [(0, .inr (.inr (0, a0r, 0))), (1, .inl a1)] [] M ((some (.inl p.1), p.2) : xR) := f_X5_rideAway_run h (fun q e => by rw [e])
def f_X6_ride (a1 : Int32) (M : xM) : Option (Int32 × xM) := (f_X5_rideAway 2 a1 (xe_cp 3 2 M)).bind (fun q1 => (f_X6_recorded q1.1 q1.2).bind (fun q3 => some ((q3.1, q3.2))))
theorem f_X6_ride_run {X : List Int32} {a1 : Int32} {M : xM} {p : Int32 × xM} {r : xR} (h : f_X6_ride a1 M = some p) (hr : ∀ q, p = q → ((some (.inl q.1), q.2) : xR) = r) : xq X xe 81 0 [(0, .inr (.inr (7, 5, 0))), (1, .inl a1)] [] M r := by
  unfold f_X6_ride at h
  refine xq_blk 4 (pc' := 8) (ls' := [(0, .inr (.inr (7, 5, 0))), (1, .inl a1)]) (st' := [.inr (.inr (0, 2, 0)), .inr (.inr (0, 3, 0))]) (M' := M) rfl ?_
  refine xq_ext (j := 27) (as := [.inr (.inr (0, 3, 0)), .inr (.inr (0, 2, 0))]) (pc' := 11) (ls' := [(0, .inr (.inr (7, 5, 0))), (1, .inl a1)]) (st' := []) (q := (none, xe_cp 3 2 M)) rfl rfl rfl ?_
  refine xq_blk 4 (pc' := 17) (ls' := [(0, .inr (.inr (7, 5, 0))), (1, .inl a1)]) (st' := [.inl a1, .inr (.inr (0, 2, 0)), .inr (.inr (7, 5, 0))]) (M' := xe_cp 3 2 M) rfl ?_
  refine xq_bind h (fun q1 e2 h => ?_)
  refine xq_call (j := 58) (as := [.inr (.inr (0, 2, 0)), .inl a1]) (pc' := 20) (ls' := [(0, .inr (.inr (7, 5, 0))), (1, .inl a1)]) (st' := [.inr (.inr (7, 5, 0))]) rfl rfl (f_X5_rideAway_ok e2) ?_
  refine xq_bind h (fun q3 e4 h => ?_)
  refine xq_call (j := 75) (as := [.inr (.inr (7, 5, 0)), .inl q1.1]) (pc' := 23) (ls' := [(0, .inr (.inr (7, 5, 0))), (1, .inl a1)]) (st' := []) rfl rfl (f_X6_recorded_ok e4) ?_
  exact (hr _ (Option.some.inj h).symm) ▸ xq_ret rfl
theorem f_X6_ride_ok {X : List Int32} {a1 : Int32} {M : xM} {p : Int32 × xM} (h : f_X6_ride a1 M = some p) : xq X xe 81 0 [(0, .inr (.inr (7, 5, 0))), (1, .inl a1)] [] M ((some (.inl p.1), p.2) : xR) := f_X6_ride_run h (fun q e => by rw [e])
def f_X0_isTagged (a0r : Nat) (a1 : Int32) (M : xM) : Option (Int32) := if xp_in a1 20 = true then (if (M.1 a0r 22 a1.toNatClampNeg) = (-6 : Int32) then (some ((vp_nar .boolean (0 : Int32)))) else (some ((vp_nar .boolean (1 : Int32))))) else none
theorem f_X0_isTagged_run {X : List Int32} {a0r : Nat} {a1 : Int32} {M : xM} {p : Int32} {r : xR} (h : f_X0_isTagged a0r a1 M = some p) (hr : ∀ q, p = q → ((some (.inl q), M) : xR) = r) : xq X xe 5 0 [(0, .inr (.inr (2, a0r, 18))), (1, .inl a1)] [] M r := by
  unfold f_X0_isTagged at h
  refine xq_blk 3 (pc' := 5) (ls' := [(0, .inr (.inr (2, a0r, 18))), (1, .inl a1)]) (st' := [.inl a1, .inr (.inr (3, a0r, 22))]) (M' := M) rfl ?_
  refine xq_guard h (fun g1 h => ?_)
  refine xq_prim (st' := [.inl (M.1 a0r 22 a1.toNatClampNeg)]) (M' := M) rfl rfl rfl (xg_ald0 rfl g1) ?_
  refine xq_blk 1 (pc' := 8) (ls' := [(0, .inr (.inr (2, a0r, 18))), (1, .inl a1)]) (st' := [.inl (-6 : Int32), .inl (M.1 a0r 22 a1.toNatClampNeg)]) (M' := M) rfl ?_
  refine xq_ite h (fun c2 h => ?_) (fun c2 h => ?_)
  · refine xq_core (pc' := 15) (ls' := [(0, .inr (.inr (2, a0r, 18))), (1, .inl a1)]) (st' := []) rfl (if_pos c2) ?_
    refine xq_blk 1 (pc' := 16) (ls' := [(0, .inr (.inr (2, a0r, 18))), (1, .inl a1)]) (st' := [.inl (0 : Int32)]) (M' := M) rfl ?_
    exact (hr _ (Option.some.inj h).symm) ▸ xq_ret rfl
  · refine xq_core (pc' := 11) (ls' := [(0, .inr (.inr (2, a0r, 18))), (1, .inl a1)]) (st' := []) rfl (if_neg c2) ?_
    refine xq_blk 2 (pc' := 16) (ls' := [(0, .inr (.inr (2, a0r, 18))), (1, .inl a1)]) (st' := [.inl (1 : Int32)]) (M' := M) rfl ?_
    exact (hr _ (Option.some.inj h).symm) ▸ xq_ret rfl
theorem f_X0_isTagged_ok {X : List Int32} {a0r : Nat} {a1 : Int32} {M : xM} {p : Int32} (h : f_X0_isTagged a0r a1 M = some p) : xq X xe 5 0 [(0, .inr (.inr (2, a0r, 18))), (1, .inl a1)] [] M ((some (.inl p), M) : xR) := f_X0_isTagged_run h (fun q e => by rw [e])
def f_X5_answerFor_j39 (v0r : Nat) (v1 : Int32) (t0 : Int32) (M : xM) : Option (Int32 × xM) := if xp_in v1 20 = true then (if xp_in v1 20 = true then (some ((t0, xd_up (xd_up M v0r 21 v1.toNatClampNeg (M.1 v0r 0 4)) v0r 22 v1.toNatClampNeg (-6 : Int32)))) else none) else none
theorem f_X5_answerFor_j39_ok {X : List Int32} {v0r : Nat} {v1 : Int32} {t0 : Int32} {M : xM} {p : Int32 × xM} {r : xR} (h : f_X5_answerFor_j39 v0r v1 t0 M = some p) (hr : ∀ q, p = q → ((some (.inl q.1), q.2) : xR) = r) : xq X xe 59 39 [(0, .inr (.inr (0, v0r, 0))), (1, .inl v1)] [.inl t0] M r := by
  unfold f_X5_answerFor_j39 at h
  refine xq_blk 7 (pc' := 52) (ls' := [(2, .inl t0), (0, .inr (.inr (0, v0r, 0))), (1, .inl v1)]) (st' := [.inl (M.1 v0r 0 4), .inl v1, .inr (.inr (3, v0r, 21))]) (M' := M) rfl ?_
  refine xq_guard h (fun g7 h => ?_)
  refine xq_prim (st' := []) (M' := xd_up M v0r 21 v1.toNatClampNeg (M.1 v0r 0 4)) rfl rfl rfl (xg_ast0 rfl g7) ?_
  refine xq_blk 5 (pc' := 63) (ls' := [(2, .inl t0), (0, .inr (.inr (0, v0r, 0))), (1, .inl v1)]) (st' := [.inl (-6 : Int32), .inl v1, .inr (.inr (3, v0r, 22))]) (M' := xd_up M v0r 21 v1.toNatClampNeg (M.1 v0r 0 4)) rfl ?_
  refine xq_guard h (fun g8 h => ?_)
  refine xq_prim (st' := []) (M' := xd_up (xd_up M v0r 21 v1.toNatClampNeg (M.1 v0r 0 4)) v0r 22 v1.toNatClampNeg (-6 : Int32)) rfl rfl rfl (xg_ast0 rfl g8) ?_
  refine xq_blk 1 (pc' := 65) (ls' := [(2, .inl t0), (0, .inr (.inr (0, v0r, 0))), (1, .inl v1)]) (st' := [.inl t0]) (M' := xd_up (xd_up M v0r 21 v1.toNatClampNeg (M.1 v0r 0 4)) v0r 22 v1.toNatClampNeg (-6 : Int32)) rfl ?_
  exact (hr _ (Option.some.inj h).symm) ▸ xq_ret rfl
def f_X5_answerFor (a0r : Nat) (a1 : Int32) (M : xM) : Option (Int32 × xM) := (f_X6_isPerson a1 M).bind (fun q1 => if q1 = (0 : Int32) then (some (((-1 : Int32), M))) else ((f_X0_isInRack a0r a1 M).bind (fun q3 => if q3 = (0 : Int32) then (some (((-5 : Int32), M))) else ((f_X0_isTagged a0r a1 M).bind (fun q5 => if q5 = (0 : Int32) then (f_X5_answerFor_j39 a0r a1 (0 : Int32) M) else (f_X5_answerFor_j39 a0r a1 (1 : Int32) M))))))
theorem f_X5_answerFor_run {X : List Int32} {a0r : Nat} {a1 : Int32} {M : xM} {p : Int32 × xM} {r : xR} (h : f_X5_answerFor a0r a1 M = some p) (hr : ∀ q, p = q → ((some (.inl q.1), q.2) : xR) = r) : xq X xe 59 0 [(0, .inr (.inr (0, a0r, 0))), (1, .inl a1)] [] M r := by
  unfold f_X5_answerFor at h
  refine xq_blk 1 (pc' := 1) (ls' := [(0, .inr (.inr (0, a0r, 0))), (1, .inl a1)]) (st' := [.inl a1]) (M' := M) rfl ?_
  refine xq_bind h (fun q1 e2 h => ?_)
  refine xq_call (j := 46) (as := [.inl a1]) (pc' := 4) (ls' := [(0, .inr (.inr (0, a0r, 0))), (1, .inl a1)]) (st' := []) rfl rfl (f_X6_isPerson_ok e2) ?_
  refine xq_ite h (fun c11 h => ?_) (fun c11 h => ?_)
  · refine xq_core (pc' := 7) (ls' := [(0, .inr (.inr (0, a0r, 0))), (1, .inl a1)]) (st' := []) rfl (if_pos c11) ?_
    refine xq_blk 1 (pc' := 8) (ls' := [(0, .inr (.inr (0, a0r, 0))), (1, .inl a1)]) (st' := [.inl (-1 : Int32)]) (M' := M) rfl ?_
    exact (hr _ (Option.some.inj h).symm) ▸ xq_ret rfl
  · refine xq_core (pc' := 9) (ls' := [(0, .inr (.inr (0, a0r, 0))), (1, .inl a1)]) (st' := []) rfl (if_neg c11) ?_
    refine xq_blk 3 (pc' := 14) (ls' := [(0, .inr (.inr (0, a0r, 0))), (1, .inl a1)]) (st' := [.inl a1, .inr (.inr (2, a0r, 18))]) (M' := M) rfl ?_
    refine xq_bind h (fun q3 e4 h => ?_)
    refine xq_call (j := 4) (as := [.inr (.inr (2, a0r, 18)), .inl a1]) (pc' := 17) (ls' := [(0, .inr (.inr (0, a0r, 0))), (1, .inl a1)]) (st' := []) rfl rfl (f_X0_isInRack_ok e4) ?_
    refine xq_ite h (fun c10 h => ?_) (fun c10 h => ?_)
    · refine xq_core (pc' := 20) (ls' := [(0, .inr (.inr (0, a0r, 0))), (1, .inl a1)]) (st' := []) rfl (if_pos c10) ?_
      refine xq_blk 1 (pc' := 22) (ls' := [(0, .inr (.inr (0, a0r, 0))), (1, .inl a1)]) (st' := [.inl (-5 : Int32)]) (M' := M) rfl ?_
      exact (hr _ (Option.some.inj h).symm) ▸ xq_ret rfl
    · refine xq_core (pc' := 23) (ls' := [(0, .inr (.inr (0, a0r, 0))), (1, .inl a1)]) (st' := []) rfl (if_neg c10) ?_
      refine xq_blk 3 (pc' := 28) (ls' := [(0, .inr (.inr (0, a0r, 0))), (1, .inl a1)]) (st' := [.inl a1, .inr (.inr (2, a0r, 18))]) (M' := M) rfl ?_
      refine xq_bind h (fun q5 e6 h => ?_)
      refine xq_call (j := 5) (as := [.inr (.inr (2, a0r, 18)), .inl a1]) (pc' := 31) (ls' := [(0, .inr (.inr (0, a0r, 0))), (1, .inl a1)]) (st' := []) rfl rfl (f_X0_isTagged_ok e6) ?_
      refine xq_ite h (fun c9 h => ?_) (fun c9 h => ?_)
      · refine xq_core (pc' := 38) (ls' := [(0, .inr (.inr (0, a0r, 0))), (1, .inl a1)]) (st' := []) rfl (if_pos c9) ?_
        refine xq_blk 1 (pc' := 39) (ls' := [(0, .inr (.inr (0, a0r, 0))), (1, .inl a1)]) (st' := [.inl (0 : Int32)]) (M' := M) rfl ?_
        exact xq_sub (a := [(0, .inr (.inr (0, a0r, 0))), (1, .inl a1)]) ⟨rfl, rfl, trivial⟩ rfl (f_X5_answerFor_j39_ok h hr)
      · refine xq_core (pc' := 34) (ls' := [(0, .inr (.inr (0, a0r, 0))), (1, .inl a1)]) (st' := []) rfl (if_neg c9) ?_
        refine xq_blk 2 (pc' := 39) (ls' := [(0, .inr (.inr (0, a0r, 0))), (1, .inl a1)]) (st' := [.inl (1 : Int32)]) (M' := M) rfl ?_
        exact xq_sub (a := [(0, .inr (.inr (0, a0r, 0))), (1, .inl a1)]) ⟨rfl, rfl, trivial⟩ rfl (f_X5_answerFor_j39_ok h hr)
theorem f_X5_answerFor_ok {X : List Int32} {a0r : Nat} {a1 : Int32} {M : xM} {p : Int32 × xM} (h : f_X5_answerFor a0r a1 M = some p) : xq X xe 59 0 [(0, .inr (.inr (0, a0r, 0))), (1, .inl a1)] [] M ((some (.inl p.1), p.2) : xR) := f_X5_answerFor_run h (fun q e => by rw [e])
def f_X6_answer (a1 : Int32) (M : xM) : Option (Int32 × xM) := (f_X5_answerFor 2 a1 (xe_cp 3 2 M)).bind (fun q1 => (f_X6_recorded q1.1 q1.2).bind (fun q3 => some ((q3.1, q3.2))))
theorem f_X6_answer_run {X : List Int32} {a1 : Int32} {M : xM} {p : Int32 × xM} {r : xR} (h : f_X6_answer a1 M = some p) (hr : ∀ q, p = q → ((some (.inl q.1), q.2) : xR) = r) : xq X xe 82 0 [(0, .inr (.inr (7, 5, 0))), (1, .inl a1)] [] M r := by
  unfold f_X6_answer at h
  refine xq_blk 4 (pc' := 8) (ls' := [(0, .inr (.inr (7, 5, 0))), (1, .inl a1)]) (st' := [.inr (.inr (0, 2, 0)), .inr (.inr (0, 3, 0))]) (M' := M) rfl ?_
  refine xq_ext (j := 27) (as := [.inr (.inr (0, 3, 0)), .inr (.inr (0, 2, 0))]) (pc' := 11) (ls' := [(0, .inr (.inr (7, 5, 0))), (1, .inl a1)]) (st' := []) (q := (none, xe_cp 3 2 M)) rfl rfl rfl ?_
  refine xq_blk 4 (pc' := 17) (ls' := [(0, .inr (.inr (7, 5, 0))), (1, .inl a1)]) (st' := [.inl a1, .inr (.inr (0, 2, 0)), .inr (.inr (7, 5, 0))]) (M' := xe_cp 3 2 M) rfl ?_
  refine xq_bind h (fun q1 e2 h => ?_)
  refine xq_call (j := 59) (as := [.inr (.inr (0, 2, 0)), .inl a1]) (pc' := 20) (ls' := [(0, .inr (.inr (7, 5, 0))), (1, .inl a1)]) (st' := [.inr (.inr (7, 5, 0))]) rfl rfl (f_X5_answerFor_ok e2) ?_
  refine xq_bind h (fun q3 e4 h => ?_)
  refine xq_call (j := 75) (as := [.inr (.inr (7, 5, 0)), .inl q1.1]) (pc' := 23) (ls' := [(0, .inr (.inr (7, 5, 0))), (1, .inl a1)]) (st' := []) rfl rfl (f_X6_recorded_ok e4) ?_
  exact (hr _ (Option.some.inj h).symm) ▸ xq_ret rfl
theorem f_X6_answer_ok {X : List Int32} {a1 : Int32} {M : xM} {p : Int32 × xM} (h : f_X6_answer a1 M = some p) : xq X xe 82 0 [(0, .inr (.inr (7, 5, 0))), (1, .inl a1)] [] M ((some (.inl p.1), p.2) : xR) := f_X6_answer_run h (fun q e => by rw [e])
def f_X5_fetchFromPound (a0r : Nat) (a1 : Int32) (M : xM) : Option (Int32 × xM) := (f_X6_isPerson a1 M).bind (fun q1 => if q1 = (0 : Int32) then (some (((-1 : Int32), M))) else ((f_X0_isInPound a0r a1 M).bind (fun q3 => if q3 = (0 : Int32) then (some (((-5 : Int32), M))) else (if xp_in a1 20 = true then (if xp_in a1 20 = true then (some (((M.1 a0r 0 4) - (M.1 a0r 23 a1.toNatClampNeg), xd_up M a0r 23 a1.toNatClampNeg (-6 : Int32)))) else none) else none))))
theorem f_X5_fetchFromPound_run {X : List Int32} {a0r : Nat} {a1 : Int32} {M : xM} {p : Int32 × xM} {r : xR} (h : f_X5_fetchFromPound a0r a1 M = some p) (hr : ∀ q, p = q → ((some (.inl q.1), q.2) : xR) = r) : xq X xe 60 0 [(0, .inr (.inr (0, a0r, 0))), (1, .inl a1)] [] M r := by
  unfold f_X5_fetchFromPound at h
  refine xq_blk 1 (pc' := 1) (ls' := [(0, .inr (.inr (0, a0r, 0))), (1, .inl a1)]) (st' := [.inl a1]) (M' := M) rfl ?_
  refine xq_bind h (fun q1 e2 h => ?_)
  refine xq_call (j := 46) (as := [.inl a1]) (pc' := 4) (ls' := [(0, .inr (.inr (0, a0r, 0))), (1, .inl a1)]) (st' := []) rfl rfl (f_X6_isPerson_ok e2) ?_
  refine xq_ite h (fun c8 h => ?_) (fun c8 h => ?_)
  · refine xq_core (pc' := 7) (ls' := [(0, .inr (.inr (0, a0r, 0))), (1, .inl a1)]) (st' := []) rfl (if_pos c8) ?_
    refine xq_blk 1 (pc' := 8) (ls' := [(0, .inr (.inr (0, a0r, 0))), (1, .inl a1)]) (st' := [.inl (-1 : Int32)]) (M' := M) rfl ?_
    exact (hr _ (Option.some.inj h).symm) ▸ xq_ret rfl
  · refine xq_core (pc' := 9) (ls' := [(0, .inr (.inr (0, a0r, 0))), (1, .inl a1)]) (st' := []) rfl (if_neg c8) ?_
    refine xq_blk 3 (pc' := 14) (ls' := [(0, .inr (.inr (0, a0r, 0))), (1, .inl a1)]) (st' := [.inl a1, .inr (.inr (2, a0r, 18))]) (M' := M) rfl ?_
    refine xq_bind h (fun q3 e4 h => ?_)
    refine xq_call (j := 6) (as := [.inr (.inr (2, a0r, 18)), .inl a1]) (pc' := 17) (ls' := [(0, .inr (.inr (0, a0r, 0))), (1, .inl a1)]) (st' := []) rfl rfl (f_X0_isInPound_ok e4) ?_
    refine xq_ite h (fun c7 h => ?_) (fun c7 h => ?_)
    · refine xq_core (pc' := 20) (ls' := [(0, .inr (.inr (0, a0r, 0))), (1, .inl a1)]) (st' := []) rfl (if_pos c7) ?_
      refine xq_blk 1 (pc' := 22) (ls' := [(0, .inr (.inr (0, a0r, 0))), (1, .inl a1)]) (st' := [.inl (-5 : Int32)]) (M' := M) rfl ?_
      exact (hr _ (Option.some.inj h).symm) ▸ xq_ret rfl
    · refine xq_core (pc' := 23) (ls' := [(0, .inr (.inr (0, a0r, 0))), (1, .inl a1)]) (st' := []) rfl (if_neg c7) ?_
      refine xq_blk 6 (pc' := 35) (ls' := [(0, .inr (.inr (0, a0r, 0))), (1, .inl a1)]) (st' := [.inl a1, .inr (.inr (3, a0r, 23)), .inl (M.1 a0r 0 4)]) (M' := M) rfl ?_
      refine xq_guard h (fun g5 h => ?_)
      refine xq_prim (st' := [.inl (M.1 a0r 23 a1.toNatClampNeg), .inl (M.1 a0r 0 4)]) (M' := M) rfl rfl rfl (xg_ald0 rfl g5) ?_
      refine xq_blk 7 (pc' := 48) (ls' := [(2, .inl ((M.1 a0r 0 4) - (M.1 a0r 23 a1.toNatClampNeg))), (0, .inr (.inr (0, a0r, 0))), (1, .inl a1)]) (st' := [.inl (-6 : Int32), .inl a1, .inr (.inr (3, a0r, 23))]) (M' := M) rfl ?_
      refine xq_guard h (fun g6 h => ?_)
      refine xq_prim (st' := []) (M' := xd_up M a0r 23 a1.toNatClampNeg (-6 : Int32)) rfl rfl rfl (xg_ast0 rfl g6) ?_
      refine xq_blk 1 (pc' := 50) (ls' := [(2, .inl ((M.1 a0r 0 4) - (M.1 a0r 23 a1.toNatClampNeg))), (0, .inr (.inr (0, a0r, 0))), (1, .inl a1)]) (st' := [.inl ((M.1 a0r 0 4) - (M.1 a0r 23 a1.toNatClampNeg))]) (M' := xd_up M a0r 23 a1.toNatClampNeg (-6 : Int32)) rfl ?_
      exact (hr _ (Option.some.inj h).symm) ▸ xq_ret rfl
theorem f_X5_fetchFromPound_ok {X : List Int32} {a0r : Nat} {a1 : Int32} {M : xM} {p : Int32 × xM} (h : f_X5_fetchFromPound a0r a1 M = some p) : xq X xe 60 0 [(0, .inr (.inr (0, a0r, 0))), (1, .inl a1)] [] M ((some (.inl p.1), p.2) : xR) := f_X5_fetchFromPound_run h (fun q e => by rw [e])
def f_X6_fetch (a1 : Int32) (M : xM) : Option (Int32 × xM) := (f_X5_fetchFromPound 2 a1 (xe_cp 3 2 M)).bind (fun q1 => (f_X6_recorded q1.1 q1.2).bind (fun q3 => some ((q3.1, q3.2))))
theorem f_X6_fetch_run {X : List Int32} {a1 : Int32} {M : xM} {p : Int32 × xM} {r : xR} (h : f_X6_fetch a1 M = some p) (hr : ∀ q, p = q → ((some (.inl q.1), q.2) : xR) = r) : xq X xe 83 0 [(0, .inr (.inr (7, 5, 0))), (1, .inl a1)] [] M r := by
  unfold f_X6_fetch at h
  refine xq_blk 4 (pc' := 8) (ls' := [(0, .inr (.inr (7, 5, 0))), (1, .inl a1)]) (st' := [.inr (.inr (0, 2, 0)), .inr (.inr (0, 3, 0))]) (M' := M) rfl ?_
  refine xq_ext (j := 27) (as := [.inr (.inr (0, 3, 0)), .inr (.inr (0, 2, 0))]) (pc' := 11) (ls' := [(0, .inr (.inr (7, 5, 0))), (1, .inl a1)]) (st' := []) (q := (none, xe_cp 3 2 M)) rfl rfl rfl ?_
  refine xq_blk 4 (pc' := 17) (ls' := [(0, .inr (.inr (7, 5, 0))), (1, .inl a1)]) (st' := [.inl a1, .inr (.inr (0, 2, 0)), .inr (.inr (7, 5, 0))]) (M' := xe_cp 3 2 M) rfl ?_
  refine xq_bind h (fun q1 e2 h => ?_)
  refine xq_call (j := 60) (as := [.inr (.inr (0, 2, 0)), .inl a1]) (pc' := 20) (ls' := [(0, .inr (.inr (7, 5, 0))), (1, .inl a1)]) (st' := [.inr (.inr (7, 5, 0))]) rfl rfl (f_X5_fetchFromPound_ok e2) ?_
  refine xq_bind h (fun q3 e4 h => ?_)
  refine xq_call (j := 75) (as := [.inr (.inr (7, 5, 0)), .inl q1.1]) (pc' := 23) (ls' := [(0, .inr (.inr (7, 5, 0))), (1, .inl a1)]) (st' := []) rfl rfl (f_X6_recorded_ok e4) ?_
  exact (hr _ (Option.some.inj h).symm) ▸ xq_ret rfl
theorem f_X6_fetch_ok {X : List Int32} {a1 : Int32} {M : xM} {p : Int32 × xM} (h : f_X6_fetch a1 M = some p) : xq X xe 83 0 [(0, .inr (.inr (7, 5, 0))), (1, .inl a1)] [] M ((some (.inl p.1), p.2) : xR) := f_X6_fetch_run h (fun q e => by rw [e])
def f_X5_isWithoutPermit (a0r : Nat) (a1 : Int32) (M : xM) : Option (Int32) := if xp_in a1 20 = true then (if xp_in a1 20 = true then (if (M.1 a0r 4 a1.toNatClampNeg) = (M.1 a0r 19 a1.toNatClampNeg) then (some ((vp_nar .boolean (0 : Int32)))) else (some ((vp_nar .boolean (1 : Int32))))) else none) else none
theorem f_X5_isWithoutPermit_run {X : List Int32} {a0r : Nat} {a1 : Int32} {M : xM} {p : Int32} {r : xR} (h : f_X5_isWithoutPermit a0r a1 M = some p) (hr : ∀ q, p = q → ((some (.inl q), M) : xR) = r) : xq X xe 61 0 [(0, .inr (.inr (0, a0r, 0))), (1, .inl a1)] [] M r := by
  unfold f_X5_isWithoutPermit at h
  refine xq_blk 4 (pc' := 8) (ls' := [(0, .inr (.inr (0, a0r, 0))), (1, .inl a1)]) (st' := [.inl a1, .inr (.inr (3, a0r, 4))]) (M' := M) rfl ?_
  refine xq_guard h (fun g1 h => ?_)
  refine xq_prim (st' := [.inl (M.1 a0r 4 a1.toNatClampNeg)]) (M' := M) rfl rfl rfl (xg_ald0 rfl g1) ?_
  refine xq_blk 4 (pc' := 17) (ls' := [(0, .inr (.inr (0, a0r, 0))), (1, .inl a1)]) (st' := [.inl a1, .inr (.inr (3, a0r, 19)), .inl (M.1 a0r 4 a1.toNatClampNeg)]) (M' := M) rfl ?_
  refine xq_guard h (fun g2 h => ?_)
  refine xq_prim (st' := [.inl (M.1 a0r 19 a1.toNatClampNeg), .inl (M.1 a0r 4 a1.toNatClampNeg)]) (M' := M) rfl rfl rfl (xg_ald0 rfl g2) ?_
  refine xq_ite h (fun c3 h => ?_) (fun c3 h => ?_)
  · refine xq_core (pc' := 25) (ls' := [(0, .inr (.inr (0, a0r, 0))), (1, .inl a1)]) (st' := []) rfl (if_pos c3) ?_
    refine xq_blk 1 (pc' := 26) (ls' := [(0, .inr (.inr (0, a0r, 0))), (1, .inl a1)]) (st' := [.inl (0 : Int32)]) (M' := M) rfl ?_
    exact (hr _ (Option.some.inj h).symm) ▸ xq_ret rfl
  · refine xq_core (pc' := 21) (ls' := [(0, .inr (.inr (0, a0r, 0))), (1, .inl a1)]) (st' := []) rfl (if_neg c3) ?_
    refine xq_blk 2 (pc' := 26) (ls' := [(0, .inr (.inr (0, a0r, 0))), (1, .inl a1)]) (st' := [.inl (1 : Int32)]) (M' := M) rfl ?_
    exact (hr _ (Option.some.inj h).symm) ▸ xq_ret rfl
theorem f_X5_isWithoutPermit_ok {X : List Int32} {a0r : Nat} {a1 : Int32} {M : xM} {p : Int32} (h : f_X5_isWithoutPermit a0r a1 M = some p) : xq X xe 61 0 [(0, .inr (.inr (0, a0r, 0))), (1, .inl a1)] [] M ((some (.inl p), M) : xR) := f_X5_isWithoutPermit_run h (fun q e => by rw [e])
