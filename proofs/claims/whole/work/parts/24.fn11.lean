def f_X7_sweeps_j139_5 (k5v1 : Int32) (k5v2 : Int32) (v3 : Int32) (v4 : Int32) (v5 : Int32) (t0 : Int32) (t1 : Int32) (M : xM) : Option ((Int32 × Int32 × xM) ⊕ (Int32 × xM)) := if xp_in t1 3540 = true then (if xp_in (v5 + (5 : Int32)) 3540 = true then (if ((xd_up M 6 1 t1.toNatClampNeg t0).1 6 1 (v5 + (5 : Int32)).toNatClampNeg) = (-6 : Int32) then (some (.inl (v3, v4 + (1 : Int32), xd_up M 6 1 t1.toNatClampNeg t0))) else (if xp_in (k5v1 + (4 : Int32)) 3540 = true then (if xp_in (v5 + (5 : Int32)) 3540 = true then (if xp_in (k5v1 + (2 : Int32)) 3540 = true then (if (((xd_up M 6 1 t1.toNatClampNeg t0).1 6 1 (k5v1 + (4 : Int32)).toNatClampNeg) - ((xd_up M 6 1 t1.toNatClampNeg t0).1 6 1 (v5 + (5 : Int32)).toNatClampNeg)) < ((xd_up M 6 1 t1.toNatClampNeg t0).1 6 1 (k5v1 + (2 : Int32)).toNatClampNeg) then (some (.inl (v3, v4 + (1 : Int32), xd_up M 6 1 t1.toNatClampNeg t0))) else ((f_X7_leavesRack k5v1 v4 (xd_up M 6 1 t1.toNatClampNeg t0)).bind (fun q15 => if xp_in (k5v1 + (4 : Int32)) 3540 = true then (if xp_in (v5 + (6 : Int32)) 3540 = true then (if xp_in (k5v1 + (6 : Int32)) 3540 = true then (if xp_in (k5v1 + (6 : Int32)) 3540 = true then (some (.inl (v3 + (1 : Int32), v4 + (1 : Int32), xd_up (xd_up q15 6 1 (v5 + (6 : Int32)).toNatClampNeg (q15.1 6 1 (k5v1 + (4 : Int32)).toNatClampNeg)) 6 1 (k5v1 + (6 : Int32)).toNatClampNeg (((xd_up q15 6 1 (v5 + (6 : Int32)).toNatClampNeg (q15.1 6 1 (k5v1 + (4 : Int32)).toNatClampNeg)).1 6 1 (k5v1 + (6 : Int32)).toNatClampNeg) + (1 : Int32))))) else none) else none) else none) else none))) else none) else none) else none)) else none) else none
theorem f_X7_sweeps_j139_5_ok {X : List Int32} {k5v1 : Int32} {k5v2 : Int32} {v3 : Int32} {v4 : Int32} {v5 : Int32} {t0 : Int32} {t1 : Int32} {M : xM} {p : (Int32 × Int32 × xM) ⊕ (Int32 × xM)} {r : xR} (h : f_X7_sweeps_j139_5 k5v1 k5v2 v3 v4 v5 t0 t1 M = some p) (h0 : ∀ s', p = .inl s' → xq X xe 139 5 [(0, .inr (.inr (14, 6, 0))), (1, .inl k5v1), (2, .inl k5v2), (3, .inl s'.1), (4, .inl s'.2.1)] [] s'.2.2 r) (hr : ∀ q, p = .inr (q) → ((some (.inl q.1), q.2) : xR) = r) : xq X xe 139 139 [(0, .inr (.inr (14, 6, 0))), (1, .inl k5v1), (2, .inl k5v2), (3, .inl v3), (4, .inl v4), (5, .inl v5)] [.inl t0, .inl t1, .inr (.inr (15, 6, 1))] M r := by
  unfold f_X7_sweeps_j139_5 at h
  refine xq_guard h (fun g10 h => ?_)
  refine xq_prim (st' := []) (M' := xd_up M 6 1 t1.toNatClampNeg t0) rfl rfl rfl (xg_ast0 rfl g10) ?_
  refine xq_blk 5 (pc' := 148) (ls' := [(0, .inr (.inr (14, 6, 0))), (1, .inl k5v1), (2, .inl k5v2), (3, .inl v3), (4, .inl v4), (5, .inl v5)]) (st' := [.inl (v5 + (5 : Int32)), .inr (.inr (15, 6, 1))]) (M' := xd_up M 6 1 t1.toNatClampNeg t0) rfl ?_
  refine xq_guard h (fun g11 h => ?_)
  refine xq_prim (st' := [.inl ((xd_up M 6 1 t1.toNatClampNeg t0).1 6 1 (v5 + (5 : Int32)).toNatClampNeg)]) (M' := xd_up M 6 1 t1.toNatClampNeg t0) rfl rfl rfl (xg_ald0 rfl g11) ?_
  refine xq_blk 1 (pc' := 151) (ls' := [(0, .inr (.inr (14, 6, 0))), (1, .inl k5v1), (2, .inl k5v2), (3, .inl v3), (4, .inl v4), (5, .inl v5)]) (st' := [.inl (-6 : Int32), .inl ((xd_up M 6 1 t1.toNatClampNeg t0).1 6 1 (v5 + (5 : Int32)).toNatClampNeg)]) (M' := xd_up M 6 1 t1.toNatClampNeg t0) rfl ?_
  refine xq_ite h (fun c22 h => ?_) (fun c22 h => ?_)
  · refine xq_core (pc' := 224) (ls' := [(0, .inr (.inr (14, 6, 0))), (1, .inl k5v1), (2, .inl k5v2), (3, .inl v3), (4, .inl v4), (5, .inl v5)]) (st' := []) rfl (if_pos c22) ?_
    refine xq_blk 2 (pc' := 5) (ls' := [(4, .inl (v4 + (1 : Int32))), (0, .inr (.inr (14, 6, 0))), (1, .inl k5v1), (2, .inl k5v2), (3, .inl v3), (5, .inl v5)]) (st' := []) (M' := xd_up M 6 1 t1.toNatClampNeg t0) rfl ?_
    exact xq_sub (a := [(0, .inr (.inr (14, 6, 0))), (1, .inl k5v1), (2, .inl k5v2), (3, .inl ((v3, v4 + (1 : Int32), xd_up M 6 1 t1.toNatClampNeg t0).1)), (4, .inl ((v3, v4 + (1 : Int32), xd_up M 6 1 t1.toNatClampNeg t0).2.1))]) ⟨rfl, rfl, rfl, rfl, rfl, trivial⟩ rfl (h0 (v3, v4 + (1 : Int32), xd_up M 6 1 t1.toNatClampNeg t0) (Option.some.inj h).symm)
  · refine xq_core (pc' := 154) (ls' := [(0, .inr (.inr (14, 6, 0))), (1, .inl k5v1), (2, .inl k5v2), (3, .inl v3), (4, .inl v4), (5, .inl v5)]) (st' := []) rfl (if_neg c22) ?_
    refine xq_blk 5 (pc' := 161) (ls' := [(0, .inr (.inr (14, 6, 0))), (1, .inl k5v1), (2, .inl k5v2), (3, .inl v3), (4, .inl v4), (5, .inl v5)]) (st' := [.inl (k5v1 + (4 : Int32)), .inr (.inr (15, 6, 1))]) (M' := xd_up M 6 1 t1.toNatClampNeg t0) rfl ?_
    refine xq_guard h (fun g12 h => ?_)
    refine xq_prim (st' := [.inl ((xd_up M 6 1 t1.toNatClampNeg t0).1 6 1 (k5v1 + (4 : Int32)).toNatClampNeg)]) (M' := xd_up M 6 1 t1.toNatClampNeg t0) rfl rfl rfl (xg_ald0 rfl g12) ?_
    refine xq_blk 5 (pc' := 170) (ls' := [(0, .inr (.inr (14, 6, 0))), (1, .inl k5v1), (2, .inl k5v2), (3, .inl v3), (4, .inl v4), (5, .inl v5)]) (st' := [.inl (v5 + (5 : Int32)), .inr (.inr (15, 6, 1)), .inl ((xd_up M 6 1 t1.toNatClampNeg t0).1 6 1 (k5v1 + (4 : Int32)).toNatClampNeg)]) (M' := xd_up M 6 1 t1.toNatClampNeg t0) rfl ?_
    refine xq_guard h (fun g13 h => ?_)
    refine xq_prim (st' := [.inl ((xd_up M 6 1 t1.toNatClampNeg t0).1 6 1 (v5 + (5 : Int32)).toNatClampNeg), .inl ((xd_up M 6 1 t1.toNatClampNeg t0).1 6 1 (k5v1 + (4 : Int32)).toNatClampNeg)]) (M' := xd_up M 6 1 t1.toNatClampNeg t0) rfl rfl rfl (xg_ald0 rfl g13) ?_
    refine xq_blk 6 (pc' := 179) (ls' := [(0, .inr (.inr (14, 6, 0))), (1, .inl k5v1), (2, .inl k5v2), (3, .inl v3), (4, .inl v4), (5, .inl v5)]) (st' := [.inl (k5v1 + (2 : Int32)), .inr (.inr (15, 6, 1)), .inl (((xd_up M 6 1 t1.toNatClampNeg t0).1 6 1 (k5v1 + (4 : Int32)).toNatClampNeg) - ((xd_up M 6 1 t1.toNatClampNeg t0).1 6 1 (v5 + (5 : Int32)).toNatClampNeg))]) (M' := xd_up M 6 1 t1.toNatClampNeg t0) rfl ?_
    refine xq_guard h (fun g14 h => ?_)
    refine xq_prim (st' := [.inl ((xd_up M 6 1 t1.toNatClampNeg t0).1 6 1 (k5v1 + (2 : Int32)).toNatClampNeg), .inl (((xd_up M 6 1 t1.toNatClampNeg t0).1 6 1 (k5v1 + (4 : Int32)).toNatClampNeg) - ((xd_up M 6 1 t1.toNatClampNeg t0).1 6 1 (v5 + (5 : Int32)).toNatClampNeg))]) (M' := xd_up M 6 1 t1.toNatClampNeg t0) rfl rfl rfl (xg_ald0 rfl g14) ?_
    refine xq_ite h (fun c21 h => ?_) (fun c21 h => ?_)
    · refine xq_core (pc' := 224) (ls' := [(0, .inr (.inr (14, 6, 0))), (1, .inl k5v1), (2, .inl k5v2), (3, .inl v3), (4, .inl v4), (5, .inl v5)]) (st' := []) rfl (if_pos c21) ?_
      refine xq_blk 2 (pc' := 5) (ls' := [(4, .inl (v4 + (1 : Int32))), (0, .inr (.inr (14, 6, 0))), (1, .inl k5v1), (2, .inl k5v2), (3, .inl v3), (5, .inl v5)]) (st' := []) (M' := xd_up M 6 1 t1.toNatClampNeg t0) rfl ?_
      exact xq_sub (a := [(0, .inr (.inr (14, 6, 0))), (1, .inl k5v1), (2, .inl k5v2), (3, .inl ((v3, v4 + (1 : Int32), xd_up M 6 1 t1.toNatClampNeg t0).1)), (4, .inl ((v3, v4 + (1 : Int32), xd_up M 6 1 t1.toNatClampNeg t0).2.1))]) ⟨rfl, rfl, rfl, rfl, rfl, trivial⟩ rfl (h0 (v3, v4 + (1 : Int32), xd_up M 6 1 t1.toNatClampNeg t0) (Option.some.inj h).symm)
    · refine xq_core (pc' := 183) (ls' := [(0, .inr (.inr (14, 6, 0))), (1, .inl k5v1), (2, .inl k5v2), (3, .inl v3), (4, .inl v4), (5, .inl v5)]) (st' := []) rfl (if_neg c21) ?_
      refine xq_blk 3 (pc' := 187) (ls' := [(0, .inr (.inr (14, 6, 0))), (1, .inl k5v1), (2, .inl k5v2), (3, .inl v3), (4, .inl v4), (5, .inl v5)]) (st' := [.inl v4, .inl k5v1, .inr (.inr (14, 6, 0))]) (M' := xd_up M 6 1 t1.toNatClampNeg t0) rfl ?_
      refine xq_bind h (fun q15 e16 h => ?_)
      refine xq_call (j := 138) (as := [.inr (.inr (14, 6, 0)), .inl k5v1, .inl v4]) (pc' := 190) (ls' := [(0, .inr (.inr (14, 6, 0))), (1, .inl k5v1), (2, .inl k5v2), (3, .inl v3), (4, .inl v4), (5, .inl v5)]) (st' := []) rfl rfl (f_X7_leavesRack_ok e16) ?_
      refine xq_blk 10 (pc' := 206) (ls' := [(0, .inr (.inr (14, 6, 0))), (1, .inl k5v1), (2, .inl k5v2), (3, .inl v3), (4, .inl v4), (5, .inl v5)]) (st' := [.inl (k5v1 + (4 : Int32)), .inr (.inr (15, 6, 1)), .inl (v5 + (6 : Int32)), .inr (.inr (15, 6, 1))]) (M' := q15) rfl ?_
      refine xq_guard h (fun g17 h => ?_)
      refine xq_prim (st' := [.inl (q15.1 6 1 (k5v1 + (4 : Int32)).toNatClampNeg), .inl (v5 + (6 : Int32)), .inr (.inr (15, 6, 1))]) (M' := q15) rfl rfl rfl (xg_ald0 rfl g17) ?_
      refine xq_guard h (fun g18 h => ?_)
      refine xq_prim (st' := []) (M' := xd_up q15 6 1 (v5 + (6 : Int32)).toNatClampNeg (q15.1 6 1 (k5v1 + (4 : Int32)).toNatClampNeg)) rfl rfl rfl (xg_ast0 rfl g18) ?_
      refine xq_blk 6 (pc' := 217) (ls' := [(0, .inr (.inr (14, 6, 0))), (1, .inl k5v1), (2, .inl k5v2), (3, .inl v3), (4, .inl v4), (5, .inl v5)]) (st' := [.inl (k5v1 + (6 : Int32)), .inr (.inr (15, 6, 1)), .inl (k5v1 + (6 : Int32)), .inr (.inr (15, 6, 1))]) (M' := xd_up q15 6 1 (v5 + (6 : Int32)).toNatClampNeg (q15.1 6 1 (k5v1 + (4 : Int32)).toNatClampNeg)) rfl ?_
      refine xq_guard h (fun g19 h => ?_)
      refine xq_prim (st' := [.inl ((xd_up q15 6 1 (v5 + (6 : Int32)).toNatClampNeg (q15.1 6 1 (k5v1 + (4 : Int32)).toNatClampNeg)).1 6 1 (k5v1 + (6 : Int32)).toNatClampNeg), .inl (k5v1 + (6 : Int32)), .inr (.inr (15, 6, 1))]) (M' := xd_up q15 6 1 (v5 + (6 : Int32)).toNatClampNeg (q15.1 6 1 (k5v1 + (4 : Int32)).toNatClampNeg)) rfl rfl rfl (xg_ald0 rfl g19) ?_
      refine xq_blk 2 (pc' := 220) (ls' := [(0, .inr (.inr (14, 6, 0))), (1, .inl k5v1), (2, .inl k5v2), (3, .inl v3), (4, .inl v4), (5, .inl v5)]) (st' := [.inl (((xd_up q15 6 1 (v5 + (6 : Int32)).toNatClampNeg (q15.1 6 1 (k5v1 + (4 : Int32)).toNatClampNeg)).1 6 1 (k5v1 + (6 : Int32)).toNatClampNeg) + (1 : Int32)), .inl (k5v1 + (6 : Int32)), .inr (.inr (15, 6, 1))]) (M' := xd_up q15 6 1 (v5 + (6 : Int32)).toNatClampNeg (q15.1 6 1 (k5v1 + (4 : Int32)).toNatClampNeg)) rfl ?_
      refine xq_guard h (fun g20 h => ?_)
      refine xq_prim (st' := []) (M' := xd_up (xd_up q15 6 1 (v5 + (6 : Int32)).toNatClampNeg (q15.1 6 1 (k5v1 + (4 : Int32)).toNatClampNeg)) 6 1 (k5v1 + (6 : Int32)).toNatClampNeg (((xd_up q15 6 1 (v5 + (6 : Int32)).toNatClampNeg (q15.1 6 1 (k5v1 + (4 : Int32)).toNatClampNeg)).1 6 1 (k5v1 + (6 : Int32)).toNatClampNeg) + (1 : Int32))) rfl rfl rfl (xg_ast0 rfl g20) ?_
      refine xq_blk 3 (pc' := 5) (ls' := [(4, .inl (v4 + (1 : Int32))), (3, .inl (v3 + (1 : Int32))), (0, .inr (.inr (14, 6, 0))), (1, .inl k5v1), (2, .inl k5v2), (5, .inl v5)]) (st' := []) (M' := xd_up (xd_up q15 6 1 (v5 + (6 : Int32)).toNatClampNeg (q15.1 6 1 (k5v1 + (4 : Int32)).toNatClampNeg)) 6 1 (k5v1 + (6 : Int32)).toNatClampNeg (((xd_up q15 6 1 (v5 + (6 : Int32)).toNatClampNeg (q15.1 6 1 (k5v1 + (4 : Int32)).toNatClampNeg)).1 6 1 (k5v1 + (6 : Int32)).toNatClampNeg) + (1 : Int32))) rfl ?_
      exact xq_sub (a := [(0, .inr (.inr (14, 6, 0))), (1, .inl k5v1), (2, .inl k5v2), (3, .inl ((v3 + (1 : Int32), v4 + (1 : Int32), xd_up (xd_up q15 6 1 (v5 + (6 : Int32)).toNatClampNeg (q15.1 6 1 (k5v1 + (4 : Int32)).toNatClampNeg)) 6 1 (k5v1 + (6 : Int32)).toNatClampNeg (((xd_up q15 6 1 (v5 + (6 : Int32)).toNatClampNeg (q15.1 6 1 (k5v1 + (4 : Int32)).toNatClampNeg)).1 6 1 (k5v1 + (6 : Int32)).toNatClampNeg) + (1 : Int32))).1)), (4, .inl ((v3 + (1 : Int32), v4 + (1 : Int32), xd_up (xd_up q15 6 1 (v5 + (6 : Int32)).toNatClampNeg (q15.1 6 1 (k5v1 + (4 : Int32)).toNatClampNeg)) 6 1 (k5v1 + (6 : Int32)).toNatClampNeg (((xd_up q15 6 1 (v5 + (6 : Int32)).toNatClampNeg (q15.1 6 1 (k5v1 + (4 : Int32)).toNatClampNeg)).1 6 1 (k5v1 + (6 : Int32)).toNatClampNeg) + (1 : Int32))).2.1))]) ⟨rfl, rfl, rfl, rfl, rfl, trivial⟩ rfl (h0 (v3 + (1 : Int32), v4 + (1 : Int32), xd_up (xd_up q15 6 1 (v5 + (6 : Int32)).toNatClampNeg (q15.1 6 1 (k5v1 + (4 : Int32)).toNatClampNeg)) 6 1 (k5v1 + (6 : Int32)).toNatClampNeg (((xd_up q15 6 1 (v5 + (6 : Int32)).toNatClampNeg (q15.1 6 1 (k5v1 + (4 : Int32)).toNatClampNeg)).1 6 1 (k5v1 + (6 : Int32)).toNatClampNeg) + (1 : Int32))) (Option.some.inj h).symm)
def f_X7_sweeps_j130_5 (k5v1 : Int32) (k5v2 : Int32) (v3 : Int32) (v4 : Int32) (v5 : Int32) (t0 : Int32) (M : xM) : Option ((Int32 × Int32 × xM) ⊕ (Int32 × xM)) := if xp_in (v5 + (5 : Int32)) 3540 = true then (f_X7_sweeps_j139_5 k5v1 k5v2 v3 v4 v5 (M.1 6 1 (v5 + (5 : Int32)).toNatClampNeg) t0 M) else none
theorem f_X7_sweeps_j130_5_ok {X : List Int32} {k5v1 : Int32} {k5v2 : Int32} {v3 : Int32} {v4 : Int32} {v5 : Int32} {t0 : Int32} {M : xM} {p : (Int32 × Int32 × xM) ⊕ (Int32 × xM)} {r : xR} (h : f_X7_sweeps_j130_5 k5v1 k5v2 v3 v4 v5 t0 M = some p) (h0 : ∀ s', p = .inl s' → xq X xe 139 5 [(0, .inr (.inr (14, 6, 0))), (1, .inl k5v1), (2, .inl k5v2), (3, .inl s'.1), (4, .inl s'.2.1)] [] s'.2.2 r) (hr : ∀ q, p = .inr (q) → ((some (.inl q.1), q.2) : xR) = r) : xq X xe 139 130 [(0, .inr (.inr (14, 6, 0))), (1, .inl k5v1), (2, .inl k5v2), (3, .inl v3), (4, .inl v4), (5, .inl v5)] [.inl t0, .inr (.inr (15, 6, 1))] M r := by
  unfold f_X7_sweeps_j130_5 at h
  refine xq_blk 5 (pc' := 138) (ls' := [(0, .inr (.inr (14, 6, 0))), (1, .inl k5v1), (2, .inl k5v2), (3, .inl v3), (4, .inl v4), (5, .inl v5)]) (st' := [.inl (v5 + (5 : Int32)), .inr (.inr (15, 6, 1)), .inl t0, .inr (.inr (15, 6, 1))]) (M' := M) rfl ?_
  refine xq_guard h (fun g9 h => ?_)
  refine xq_prim (st' := [.inl (M.1 6 1 (v5 + (5 : Int32)).toNatClampNeg), .inl t0, .inr (.inr (15, 6, 1))]) (M' := M) rfl rfl rfl (xg_ald0 rfl g9) ?_
  exact xq_sub (a := [(0, .inr (.inr (14, 6, 0))), (1, .inl k5v1), (2, .inl k5v2), (3, .inl v3), (4, .inl v4), (5, .inl v5)]) ⟨rfl, rfl, rfl, rfl, rfl, rfl, trivial⟩ rfl (f_X7_sweeps_j139_5_ok h h0 hr)
def f_X7_sweeps_j119_5 (k5v1 : Int32) (k5v2 : Int32) (v3 : Int32) (v4 : Int32) (v5 : Int32) (t0 : Int32) (M : xM) : Option ((Int32 × Int32 × xM) ⊕ (Int32 × xM)) := if xp_in (k5v1 + (4 : Int32)) 3540 = true then (f_X7_sweeps_j139_5 k5v1 k5v2 v3 v4 v5 (M.1 6 1 (k5v1 + (4 : Int32)).toNatClampNeg) t0 M) else none
theorem f_X7_sweeps_j119_5_ok {X : List Int32} {k5v1 : Int32} {k5v2 : Int32} {v3 : Int32} {v4 : Int32} {v5 : Int32} {t0 : Int32} {M : xM} {p : (Int32 × Int32 × xM) ⊕ (Int32 × xM)} {r : xR} (h : f_X7_sweeps_j119_5 k5v1 k5v2 v3 v4 v5 t0 M = some p) (h0 : ∀ s', p = .inl s' → xq X xe 139 5 [(0, .inr (.inr (14, 6, 0))), (1, .inl k5v1), (2, .inl k5v2), (3, .inl s'.1), (4, .inl s'.2.1)] [] s'.2.2 r) (hr : ∀ q, p = .inr (q) → ((some (.inl q.1), q.2) : xR) = r) : xq X xe 139 119 [(0, .inr (.inr (14, 6, 0))), (1, .inl k5v1), (2, .inl k5v2), (3, .inl v3), (4, .inl v4), (5, .inl v5)] [.inl t0, .inr (.inr (15, 6, 1))] M r := by
  unfold f_X7_sweeps_j119_5 at h
  refine xq_blk 5 (pc' := 126) (ls' := [(0, .inr (.inr (14, 6, 0))), (1, .inl k5v1), (2, .inl k5v2), (3, .inl v3), (4, .inl v4), (5, .inl v5)]) (st' := [.inl (k5v1 + (4 : Int32)), .inr (.inr (15, 6, 1)), .inl t0, .inr (.inr (15, 6, 1))]) (M' := M) rfl ?_
  refine xq_guard h (fun g23 h => ?_)
  refine xq_prim (st' := [.inl (M.1 6 1 (k5v1 + (4 : Int32)).toNatClampNeg), .inl t0, .inr (.inr (15, 6, 1))]) (M' := M) rfl rfl rfl (xg_ald0 rfl g23) ?_
  refine xq_blk 1 (pc' := 139) (ls' := [(0, .inr (.inr (14, 6, 0))), (1, .inl k5v1), (2, .inl k5v2), (3, .inl v3), (4, .inl v4), (5, .inl v5)]) (st' := [.inl (M.1 6 1 (k5v1 + (4 : Int32)).toNatClampNeg), .inl t0, .inr (.inr (15, 6, 1))]) (M' := M) rfl ?_
  exact xq_sub (a := [(0, .inr (.inr (14, 6, 0))), (1, .inl k5v1), (2, .inl k5v2), (3, .inl v3), (4, .inl v4), (5, .inl v5)]) ⟨rfl, rfl, rfl, rfl, rfl, rfl, trivial⟩ rfl (f_X7_sweeps_j139_5_ok h h0 hr)
def f_X7_sweeps_j88_5 (k5v1 : Int32) (k5v2 : Int32) (v3 : Int32) (v4 : Int32) (v5 : Int32) (v6 : Int32) (t0 : Int32) (M : xM) : Option ((Int32 × Int32 × xM) ⊕ (Int32 × xM)) := if v6 = (0 : Int32) then (if t0 = (0 : Int32) then (if xp_in v5 3540 = true then (if (M.1 6 1 v5.toNatClampNeg) = k5v2 then (f_X7_sweeps_j130_5 k5v1 k5v2 v3 v4 v5 (v5 + (5 : Int32)) M) else (f_X7_sweeps_j119_5 k5v1 k5v2 v3 v4 v5 (v5 + (5 : Int32)) M)) else none) else (f_X7_sweeps_j119_5 k5v1 k5v2 v3 v4 v5 (v5 + (5 : Int32)) M)) else (f_X7_sweeps_j130_5 k5v1 k5v2 v3 v4 v5 (v5 + (5 : Int32)) M)
theorem f_X7_sweeps_j88_5_ok {X : List Int32} {k5v1 : Int32} {k5v2 : Int32} {v3 : Int32} {v4 : Int32} {v5 : Int32} {v6 : Int32} {t0 : Int32} {M : xM} {p : (Int32 × Int32 × xM) ⊕ (Int32 × xM)} {r : xR} (h : f_X7_sweeps_j88_5 k5v1 k5v2 v3 v4 v5 v6 t0 M = some p) (h0 : ∀ s', p = .inl s' → xq X xe 139 5 [(0, .inr (.inr (14, 6, 0))), (1, .inl k5v1), (2, .inl k5v2), (3, .inl s'.1), (4, .inl s'.2.1)] [] s'.2.2 r) (hr : ∀ q, p = .inr (q) → ((some (.inl q.1), q.2) : xR) = r) : xq X xe 139 88 [(0, .inr (.inr (14, 6, 0))), (1, .inl k5v1), (2, .inl k5v2), (3, .inl v3), (4, .inl v4), (5, .inl v5), (6, .inl v6)] [.inl t0] M r := by
  unfold f_X7_sweeps_j88_5 at h
  refine xq_blk 7 (pc' := 100) (ls' := [(7, .inl t0), (0, .inr (.inr (14, 6, 0))), (1, .inl k5v1), (2, .inl k5v2), (3, .inl v3), (4, .inl v4), (5, .inl v5), (6, .inl v6)]) (st' := [.inl v6, .inl (v5 + (5 : Int32)), .inr (.inr (15, 6, 1))]) (M' := M) rfl ?_
  refine xq_ite h (fun c26 h => ?_) (fun c26 h => ?_)
  · refine xq_core (pc' := 103) (ls' := [(7, .inl t0), (0, .inr (.inr (14, 6, 0))), (1, .inl k5v1), (2, .inl k5v2), (3, .inl v3), (4, .inl v4), (5, .inl v5), (6, .inl v6)]) (st' := [.inl (v5 + (5 : Int32)), .inr (.inr (15, 6, 1))]) rfl (if_pos c26) ?_
    refine xq_blk 1 (pc' := 105) (ls' := [(7, .inl t0), (0, .inr (.inr (14, 6, 0))), (1, .inl k5v1), (2, .inl k5v2), (3, .inl v3), (4, .inl v4), (5, .inl v5), (6, .inl v6)]) (st' := [.inl t0, .inl (v5 + (5 : Int32)), .inr (.inr (15, 6, 1))]) (M' := M) rfl ?_
    refine xq_ite h (fun c25 h => ?_) (fun c25 h => ?_)
    · refine xq_core (pc' := 108) (ls' := [(7, .inl t0), (0, .inr (.inr (14, 6, 0))), (1, .inl k5v1), (2, .inl k5v2), (3, .inl v3), (4, .inl v4), (5, .inl v5), (6, .inl v6)]) (st' := [.inl (v5 + (5 : Int32)), .inr (.inr (15, 6, 1))]) rfl (if_pos c25) ?_
      refine xq_blk 3 (pc' := 114) (ls' := [(7, .inl t0), (0, .inr (.inr (14, 6, 0))), (1, .inl k5v1), (2, .inl k5v2), (3, .inl v3), (4, .inl v4), (5, .inl v5), (6, .inl v6)]) (st' := [.inl v5, .inr (.inr (15, 6, 1)), .inl (v5 + (5 : Int32)), .inr (.inr (15, 6, 1))]) (M' := M) rfl ?_
      refine xq_guard h (fun g8 h => ?_)
      refine xq_prim (st' := [.inl (M.1 6 1 v5.toNatClampNeg), .inl (v5 + (5 : Int32)), .inr (.inr (15, 6, 1))]) (M' := M) rfl rfl rfl (xg_ald0 rfl g8) ?_
      refine xq_blk 1 (pc' := 116) (ls' := [(7, .inl t0), (0, .inr (.inr (14, 6, 0))), (1, .inl k5v1), (2, .inl k5v2), (3, .inl v3), (4, .inl v4), (5, .inl v5), (6, .inl v6)]) (st' := [.inl k5v2, .inl (M.1 6 1 v5.toNatClampNeg), .inl (v5 + (5 : Int32)), .inr (.inr (15, 6, 1))]) (M' := M) rfl ?_
      refine xq_ite h (fun c24 h => ?_) (fun c24 h => ?_)
      · refine xq_core (pc' := 130) (ls' := [(7, .inl t0), (0, .inr (.inr (14, 6, 0))), (1, .inl k5v1), (2, .inl k5v2), (3, .inl v3), (4, .inl v4), (5, .inl v5), (6, .inl v6)]) (st' := [.inl (v5 + (5 : Int32)), .inr (.inr (15, 6, 1))]) rfl (if_pos c24) ?_
        exact xq_sub (a := [(0, .inr (.inr (14, 6, 0))), (1, .inl k5v1), (2, .inl k5v2), (3, .inl v3), (4, .inl v4), (5, .inl v5)]) ⟨rfl, rfl, rfl, rfl, rfl, rfl, trivial⟩ rfl (f_X7_sweeps_j130_5_ok h h0 hr)
      · refine xq_core (pc' := 119) (ls' := [(7, .inl t0), (0, .inr (.inr (14, 6, 0))), (1, .inl k5v1), (2, .inl k5v2), (3, .inl v3), (4, .inl v4), (5, .inl v5), (6, .inl v6)]) (st' := [.inl (v5 + (5 : Int32)), .inr (.inr (15, 6, 1))]) rfl (if_neg c24) ?_
        exact xq_sub (a := [(0, .inr (.inr (14, 6, 0))), (1, .inl k5v1), (2, .inl k5v2), (3, .inl v3), (4, .inl v4), (5, .inl v5)]) ⟨rfl, rfl, rfl, rfl, rfl, rfl, trivial⟩ rfl (f_X7_sweeps_j119_5_ok h h0 hr)
    · refine xq_core (pc' := 119) (ls' := [(7, .inl t0), (0, .inr (.inr (14, 6, 0))), (1, .inl k5v1), (2, .inl k5v2), (3, .inl v3), (4, .inl v4), (5, .inl v5), (6, .inl v6)]) (st' := [.inl (v5 + (5 : Int32)), .inr (.inr (15, 6, 1))]) rfl (if_neg c25) ?_
      exact xq_sub (a := [(0, .inr (.inr (14, 6, 0))), (1, .inl k5v1), (2, .inl k5v2), (3, .inl v3), (4, .inl v4), (5, .inl v5)]) ⟨rfl, rfl, rfl, rfl, rfl, rfl, trivial⟩ rfl (f_X7_sweeps_j119_5_ok h h0 hr)
  · refine xq_core (pc' := 130) (ls' := [(7, .inl t0), (0, .inr (.inr (14, 6, 0))), (1, .inl k5v1), (2, .inl k5v2), (3, .inl v3), (4, .inl v4), (5, .inl v5), (6, .inl v6)]) (st' := [.inl (v5 + (5 : Int32)), .inr (.inr (15, 6, 1))]) rfl (if_neg c26) ?_
    exact xq_sub (a := [(0, .inr (.inr (14, 6, 0))), (1, .inl k5v1), (2, .inl k5v2), (3, .inl v3), (4, .inl v4), (5, .inl v5)]) ⟨rfl, rfl, rfl, rfl, rfl, rfl, trivial⟩ rfl (f_X7_sweeps_j130_5_ok h h0 hr)
def f_X7_sweeps_j52_5 (k5v1 : Int32) (k5v2 : Int32) (v3 : Int32) (v4 : Int32) (v5 : Int32) (t0 : Int32) (M : xM) : Option ((Int32 × Int32 × xM) ⊕ (Int32 × xM)) := if xp_in (k5v1 + (4 : Int32)) 3540 = true then (if xp_in (v5 + (4 : Int32)) 3540 = true then (if xp_in (k5v1 + (1 : Int32)) 3540 = true then (if ((M.1 6 1 (k5v1 + (4 : Int32)).toNatClampNeg) - (M.1 6 1 (v5 + (4 : Int32)).toNatClampNeg)) < (M.1 6 1 (k5v1 + (1 : Int32)).toNatClampNeg) then (f_X7_sweeps_j88_5 k5v1 k5v2 v3 v4 v5 t0 (0 : Int32) M) else (f_X7_sweeps_j88_5 k5v1 k5v2 v3 v4 v5 t0 (1 : Int32) M)) else none) else none) else none
theorem f_X7_sweeps_j52_5_ok {X : List Int32} {k5v1 : Int32} {k5v2 : Int32} {v3 : Int32} {v4 : Int32} {v5 : Int32} {t0 : Int32} {M : xM} {p : (Int32 × Int32 × xM) ⊕ (Int32 × xM)} {r : xR} (h : f_X7_sweeps_j52_5 k5v1 k5v2 v3 v4 v5 t0 M = some p) (h0 : ∀ s', p = .inl s' → xq X xe 139 5 [(0, .inr (.inr (14, 6, 0))), (1, .inl k5v1), (2, .inl k5v2), (3, .inl s'.1), (4, .inl s'.2.1)] [] s'.2.2 r) (hr : ∀ q, p = .inr (q) → ((some (.inl q.1), q.2) : xR) = r) : xq X xe 139 52 [(0, .inr (.inr (14, 6, 0))), (1, .inl k5v1), (2, .inl k5v2), (3, .inl v3), (4, .inl v4), (5, .inl v5)] [.inl t0] M r := by
  unfold f_X7_sweeps_j52_5 at h
  refine xq_blk 6 (pc' := 61) (ls' := [(6, .inl t0), (0, .inr (.inr (14, 6, 0))), (1, .inl k5v1), (2, .inl k5v2), (3, .inl v3), (4, .inl v4), (5, .inl v5)]) (st' := [.inl (k5v1 + (4 : Int32)), .inr (.inr (15, 6, 1))]) (M' := M) rfl ?_
  refine xq_guard h (fun g5 h => ?_)
  refine xq_prim (st' := [.inl (M.1 6 1 (k5v1 + (4 : Int32)).toNatClampNeg)]) (M' := M) rfl rfl rfl (xg_ald0 rfl g5) ?_
  refine xq_blk 5 (pc' := 70) (ls' := [(6, .inl t0), (0, .inr (.inr (14, 6, 0))), (1, .inl k5v1), (2, .inl k5v2), (3, .inl v3), (4, .inl v4), (5, .inl v5)]) (st' := [.inl (v5 + (4 : Int32)), .inr (.inr (15, 6, 1)), .inl (M.1 6 1 (k5v1 + (4 : Int32)).toNatClampNeg)]) (M' := M) rfl ?_
  refine xq_guard h (fun g6 h => ?_)
  refine xq_prim (st' := [.inl (M.1 6 1 (v5 + (4 : Int32)).toNatClampNeg), .inl (M.1 6 1 (k5v1 + (4 : Int32)).toNatClampNeg)]) (M' := M) rfl rfl rfl (xg_ald0 rfl g6) ?_
  refine xq_blk 6 (pc' := 79) (ls' := [(6, .inl t0), (0, .inr (.inr (14, 6, 0))), (1, .inl k5v1), (2, .inl k5v2), (3, .inl v3), (4, .inl v4), (5, .inl v5)]) (st' := [.inl (k5v1 + (1 : Int32)), .inr (.inr (15, 6, 1)), .inl ((M.1 6 1 (k5v1 + (4 : Int32)).toNatClampNeg) - (M.1 6 1 (v5 + (4 : Int32)).toNatClampNeg))]) (M' := M) rfl ?_
  refine xq_guard h (fun g7 h => ?_)
  refine xq_prim (st' := [.inl (M.1 6 1 (k5v1 + (1 : Int32)).toNatClampNeg), .inl ((M.1 6 1 (k5v1 + (4 : Int32)).toNatClampNeg) - (M.1 6 1 (v5 + (4 : Int32)).toNatClampNeg))]) (M' := M) rfl rfl rfl (xg_ald0 rfl g7) ?_
  refine xq_ite h (fun c27 h => ?_) (fun c27 h => ?_)
  · refine xq_core (pc' := 87) (ls' := [(6, .inl t0), (0, .inr (.inr (14, 6, 0))), (1, .inl k5v1), (2, .inl k5v2), (3, .inl v3), (4, .inl v4), (5, .inl v5)]) (st' := []) rfl (if_pos c27) ?_
    refine xq_blk 1 (pc' := 88) (ls' := [(6, .inl t0), (0, .inr (.inr (14, 6, 0))), (1, .inl k5v1), (2, .inl k5v2), (3, .inl v3), (4, .inl v4), (5, .inl v5)]) (st' := [.inl (0 : Int32)]) (M' := M) rfl ?_
    exact xq_sub (a := [(0, .inr (.inr (14, 6, 0))), (1, .inl k5v1), (2, .inl k5v2), (3, .inl v3), (4, .inl v4), (5, .inl v5), (6, .inl t0)]) ⟨rfl, rfl, rfl, rfl, rfl, rfl, rfl, trivial⟩ rfl (f_X7_sweeps_j88_5_ok h h0 hr)
  · refine xq_core (pc' := 83) (ls' := [(6, .inl t0), (0, .inr (.inr (14, 6, 0))), (1, .inl k5v1), (2, .inl k5v2), (3, .inl v3), (4, .inl v4), (5, .inl v5)]) (st' := []) rfl (if_neg c27) ?_
    refine xq_blk 2 (pc' := 88) (ls' := [(6, .inl t0), (0, .inr (.inr (14, 6, 0))), (1, .inl k5v1), (2, .inl k5v2), (3, .inl v3), (4, .inl v4), (5, .inl v5)]) (st' := [.inl (1 : Int32)]) (M' := M) rfl ?_
    exact xq_sub (a := [(0, .inr (.inr (14, 6, 0))), (1, .inl k5v1), (2, .inl k5v2), (3, .inl v3), (4, .inl v4), (5, .inl v5), (6, .inl t0)]) ⟨rfl, rfl, rfl, rfl, rfl, rfl, rfl, trivial⟩ rfl (f_X7_sweeps_j88_5_ok h h0 hr)
def f_X7_sweeps_l5 (k5v1 : Int32) (k5v2 : Int32) (s5 : Int32 × Int32 × xM) : Option ((Int32 × Int32 × xM) ⊕ (Int32 × xM)) := if s5.2.1 < (20 : Int32) then ((f_X7_personAt k5v1 s5.2.1 s5.2.2).bind (fun q1 => if xp_in (q1 + (2 : Int32)) 3540 = true then (if (s5.2.2.1 6 1 (q1 + (2 : Int32)).toNatClampNeg) = k5v2 then (if xp_in (q1 + (5 : Int32)) 3540 = true then (if (s5.2.2.1 6 1 (q1 + (5 : Int32)).toNatClampNeg) = (-6 : Int32) then (f_X7_sweeps_j52_5 k5v1 k5v2 s5.1 s5.2.1 q1 (0 : Int32) s5.2.2) else (f_X7_sweeps_j52_5 k5v1 k5v2 s5.1 s5.2.1 q1 (1 : Int32) s5.2.2)) else none) else (some (.inl (s5.1, s5.2.1 + (1 : Int32), s5.2.2)))) else none)) else (Option.map Sum.inr (some ((s5.1, s5.2.2))))
theorem f_X7_sweeps_l5_ok {X : List Int32} {k5v1 : Int32} {k5v2 : Int32} {s5 : Int32 × Int32 × xM} {p : (Int32 × Int32 × xM) ⊕ (Int32 × xM)} {r : xR} (h : f_X7_sweeps_l5 k5v1 k5v2 s5 = some p) (h0 : ∀ s', p = .inl s' → xq X xe 139 5 [(0, .inr (.inr (14, 6, 0))), (1, .inl k5v1), (2, .inl k5v2), (3, .inl s'.1), (4, .inl s'.2.1)] [] s'.2.2 r) (hr : ∀ q, p = .inr (q) → ((some (.inl q.1), q.2) : xR) = r) : xq X xe 139 5 [(0, .inr (.inr (14, 6, 0))), (1, .inl k5v1), (2, .inl k5v2), (3, .inl s5.1), (4, .inl s5.2.1)] [] s5.2.2 r := by
  unfold f_X7_sweeps_l5 at h
  refine xq_blk 2 (pc' := 9) (ls' := [(0, .inr (.inr (14, 6, 0))), (1, .inl k5v1), (2, .inl k5v2), (3, .inl s5.1), (4, .inl s5.2.1)]) (st' := [.inl (20 : Int32), .inl s5.2.1]) (M' := s5.2.2) rfl ?_
  refine xq_ite h (fun c30 h => ?_) (fun c30 h => ?_)
  · refine xq_core (pc' := 12) (ls' := [(0, .inr (.inr (14, 6, 0))), (1, .inl k5v1), (2, .inl k5v2), (3, .inl s5.1), (4, .inl s5.2.1)]) (st' := []) rfl (if_pos c30) ?_
    refine xq_blk 2 (pc' := 15) (ls' := [(0, .inr (.inr (14, 6, 0))), (1, .inl k5v1), (2, .inl k5v2), (3, .inl s5.1), (4, .inl s5.2.1)]) (st' := [.inl s5.2.1, .inl k5v1]) (M' := s5.2.2) rfl ?_
    refine xq_bind h (fun q1 e2 h => ?_)
    refine xq_call (j := 117) (as := [.inl k5v1, .inl s5.2.1]) (pc' := 18) (ls' := [(0, .inr (.inr (14, 6, 0))), (1, .inl k5v1), (2, .inl k5v2), (3, .inl s5.1), (4, .inl s5.2.1)]) (st' := []) rfl rfl (f_X7_personAt_ok e2) ?_
    refine xq_blk 6 (pc' := 28) (ls' := [(5, .inl q1), (0, .inr (.inr (14, 6, 0))), (1, .inl k5v1), (2, .inl k5v2), (3, .inl s5.1), (4, .inl s5.2.1)]) (st' := [.inl (q1 + (2 : Int32)), .inr (.inr (15, 6, 1))]) (M' := s5.2.2) rfl ?_
    refine xq_guard h (fun g3 h => ?_)
    refine xq_prim (st' := [.inl (s5.2.2.1 6 1 (q1 + (2 : Int32)).toNatClampNeg)]) (M' := s5.2.2) rfl rfl rfl (xg_ald0 rfl g3) ?_
    refine xq_blk 1 (pc' := 30) (ls' := [(5, .inl q1), (0, .inr (.inr (14, 6, 0))), (1, .inl k5v1), (2, .inl k5v2), (3, .inl s5.1), (4, .inl s5.2.1)]) (st' := [.inl k5v2, .inl (s5.2.2.1 6 1 (q1 + (2 : Int32)).toNatClampNeg)]) (M' := s5.2.2) rfl ?_
    refine xq_ite h (fun c29 h => ?_) (fun c29 h => ?_)
    · refine xq_core (pc' := 33) (ls' := [(5, .inl q1), (0, .inr (.inr (14, 6, 0))), (1, .inl k5v1), (2, .inl k5v2), (3, .inl s5.1), (4, .inl s5.2.1)]) (st' := []) rfl (if_pos c29) ?_
      refine xq_blk 5 (pc' := 41) (ls' := [(5, .inl q1), (0, .inr (.inr (14, 6, 0))), (1, .inl k5v1), (2, .inl k5v2), (3, .inl s5.1), (4, .inl s5.2.1)]) (st' := [.inl (q1 + (5 : Int32)), .inr (.inr (15, 6, 1))]) (M' := s5.2.2) rfl ?_
      refine xq_guard h (fun g4 h => ?_)
      refine xq_prim (st' := [.inl (s5.2.2.1 6 1 (q1 + (5 : Int32)).toNatClampNeg)]) (M' := s5.2.2) rfl rfl rfl (xg_ald0 rfl g4) ?_
      refine xq_blk 1 (pc' := 44) (ls' := [(5, .inl q1), (0, .inr (.inr (14, 6, 0))), (1, .inl k5v1), (2, .inl k5v2), (3, .inl s5.1), (4, .inl s5.2.1)]) (st' := [.inl (-6 : Int32), .inl (s5.2.2.1 6 1 (q1 + (5 : Int32)).toNatClampNeg)]) (M' := s5.2.2) rfl ?_
      refine xq_ite h (fun c28 h => ?_) (fun c28 h => ?_)
      · refine xq_core (pc' := 51) (ls' := [(5, .inl q1), (0, .inr (.inr (14, 6, 0))), (1, .inl k5v1), (2, .inl k5v2), (3, .inl s5.1), (4, .inl s5.2.1)]) (st' := []) rfl (if_pos c28) ?_
        refine xq_blk 1 (pc' := 52) (ls' := [(5, .inl q1), (0, .inr (.inr (14, 6, 0))), (1, .inl k5v1), (2, .inl k5v2), (3, .inl s5.1), (4, .inl s5.2.1)]) (st' := [.inl (0 : Int32)]) (M' := s5.2.2) rfl ?_
        exact xq_sub (a := [(0, .inr (.inr (14, 6, 0))), (1, .inl k5v1), (2, .inl k5v2), (3, .inl s5.1), (4, .inl s5.2.1), (5, .inl q1)]) ⟨rfl, rfl, rfl, rfl, rfl, rfl, trivial⟩ rfl (f_X7_sweeps_j52_5_ok h h0 hr)
      · refine xq_core (pc' := 47) (ls' := [(5, .inl q1), (0, .inr (.inr (14, 6, 0))), (1, .inl k5v1), (2, .inl k5v2), (3, .inl s5.1), (4, .inl s5.2.1)]) (st' := []) rfl (if_neg c28) ?_
        refine xq_blk 2 (pc' := 52) (ls' := [(5, .inl q1), (0, .inr (.inr (14, 6, 0))), (1, .inl k5v1), (2, .inl k5v2), (3, .inl s5.1), (4, .inl s5.2.1)]) (st' := [.inl (1 : Int32)]) (M' := s5.2.2) rfl ?_
        exact xq_sub (a := [(0, .inr (.inr (14, 6, 0))), (1, .inl k5v1), (2, .inl k5v2), (3, .inl s5.1), (4, .inl s5.2.1), (5, .inl q1)]) ⟨rfl, rfl, rfl, rfl, rfl, rfl, trivial⟩ rfl (f_X7_sweeps_j52_5_ok h h0 hr)
    · refine xq_core (pc' := 224) (ls' := [(5, .inl q1), (0, .inr (.inr (14, 6, 0))), (1, .inl k5v1), (2, .inl k5v2), (3, .inl s5.1), (4, .inl s5.2.1)]) (st' := []) rfl (if_neg c29) ?_
      refine xq_blk 2 (pc' := 5) (ls' := [(4, .inl (s5.2.1 + (1 : Int32))), (5, .inl q1), (0, .inr (.inr (14, 6, 0))), (1, .inl k5v1), (2, .inl k5v2), (3, .inl s5.1)]) (st' := []) (M' := s5.2.2) rfl ?_
      exact xq_sub (a := [(0, .inr (.inr (14, 6, 0))), (1, .inl k5v1), (2, .inl k5v2), (3, .inl ((s5.1, s5.2.1 + (1 : Int32), s5.2.2).1)), (4, .inl ((s5.1, s5.2.1 + (1 : Int32), s5.2.2).2.1))]) ⟨rfl, rfl, rfl, rfl, rfl, trivial⟩ rfl (h0 (s5.1, s5.2.1 + (1 : Int32), s5.2.2) (Option.some.inj h).symm)
  · refine xq_core (pc' := 230) (ls' := [(0, .inr (.inr (14, 6, 0))), (1, .inl k5v1), (2, .inl k5v2), (3, .inl s5.1), (4, .inl s5.2.1)]) (st' := []) rfl (if_neg c30) ?_
    refine xq_map h (fun p h e => ?_)
    replace hr := fun q e' => hr q (e.symm.trans (congrArg Sum.inr e'))
    clear e
    refine xq_blk 1 (pc' := 231) (ls' := [(0, .inr (.inr (14, 6, 0))), (1, .inl k5v1), (2, .inl k5v2), (3, .inl s5.1), (4, .inl s5.2.1)]) (st' := [.inl s5.1]) (M' := s5.2.2) rfl ?_
    exact (hr _ (Option.some.inj h).symm) ▸ xq_ret rfl
def f_X7_sweeps (a1 : Int32) (a2 : Int32) (M : xM) : Option (Int32 × xM) := xlp (f_X7_sweeps_l5 a1 a2) 4000 ((0 : Int32), (0 : Int32), M)
theorem f_X7_sweeps_run {X : List Int32} {a1 : Int32} {a2 : Int32} {M : xM} {p : Int32 × xM} {r : xR} (h : f_X7_sweeps a1 a2 M = some p) (hr : ∀ q, p = q → ((some (.inl q.1), q.2) : xR) = r) : xq X xe 139 0 [(0, .inr (.inr (14, 6, 0))), (1, .inl a1), (2, .inl a2)] [] M r := by
  unfold f_X7_sweeps at h
  refine xq_blk 4 (pc' := 5) (ls' := [(4, .inl (0 : Int32)), (3, .inl (0 : Int32)), (0, .inr (.inr (14, 6, 0))), (1, .inl a1), (2, .inl a2)]) (st' := []) (M' := M) rfl ?_
  refine xq_sub (a := [(0, .inr (.inr (14, 6, 0))), (1, .inl a1), (2, .inl a2), (3, .inl (0 : Int32)), (4, .inl (0 : Int32))]) ⟨rfl, rfl, rfl, rfl, rfl, trivial⟩ rfl ?_
  exact xlp_ok (P := fun s5 => xq X xe 139 5 [(0, .inr (.inr (14, 6, 0))), (1, .inl a1), (2, .inl a2), (3, .inl s5.1), (4, .inl s5.2.1)] [] s5.2.2 r) (fun s p' hb g0 g1 => f_X7_sweeps_l5_ok hb g0 (fun q e => hr q (g1 _ e).symm)) 4000 _ h
theorem f_X7_sweeps_ok {X : List Int32} {a1 : Int32} {a2 : Int32} {M : xM} {p : Int32 × xM} (h : f_X7_sweeps a1 a2 M = some p) : xq X xe 139 0 [(0, .inr (.inr (14, 6, 0))), (1, .inl a1), (2, .inl a2)] [] M ((some (.inl p.1), p.2) : xR) := f_X7_sweeps_run h (fun q e => by rw [e])
def f_X7_sweep (a1 : Int32) (M : xM) : Option (Int32 × xM) := (f_X7_isShed a1 M).bind (fun q1 => if q1 = (0 : Int32) then (some (((-1 : Int32), M))) else ((f_X7_changes M).bind (fun q3 => (f_X7_sweeps (0 : Int32) a1 q3).bind (fun q5 => some ((q5.1, q5.2))))))
theorem f_X7_sweep_run {X : List Int32} {a1 : Int32} {M : xM} {p : Int32 × xM} {r : xR} (h : f_X7_sweep a1 M = some p) (hr : ∀ q, p = q → ((some (.inl q.1), q.2) : xR) = r) : xq X xe 163 0 [(0, .inr (.inr (14, 6, 0))), (1, .inl a1)] [] M r := by
  unfold f_X7_sweep at h
  refine xq_blk 1 (pc' := 1) (ls' := [(0, .inr (.inr (14, 6, 0))), (1, .inl a1)]) (st' := [.inl a1]) (M' := M) rfl ?_
  refine xq_bind h (fun q1 e2 h => ?_)
  refine xq_call (j := 142) (as := [.inl a1]) (pc' := 4) (ls' := [(0, .inr (.inr (14, 6, 0))), (1, .inl a1)]) (st' := []) rfl rfl (f_X7_isShed_ok e2) ?_
  refine xq_ite h (fun c7 h => ?_) (fun c7 h => ?_)
  · refine xq_core (pc' := 7) (ls' := [(0, .inr (.inr (14, 6, 0))), (1, .inl a1)]) (st' := []) rfl (if_pos c7) ?_
    refine xq_blk 1 (pc' := 8) (ls' := [(0, .inr (.inr (14, 6, 0))), (1, .inl a1)]) (st' := [.inl (-1 : Int32)]) (M' := M) rfl ?_
    exact (hr _ (Option.some.inj h).symm) ▸ xq_ret rfl
  · refine xq_core (pc' := 9) (ls' := [(0, .inr (.inr (14, 6, 0))), (1, .inl a1)]) (st' := []) rfl (if_neg c7) ?_
    refine xq_blk 1 (pc' := 10) (ls' := [(0, .inr (.inr (14, 6, 0))), (1, .inl a1)]) (st' := [.inr (.inr (14, 6, 0))]) (M' := M) rfl ?_
    refine xq_bind h (fun q3 e4 h => ?_)
    refine xq_call (j := 122) (as := [.inr (.inr (14, 6, 0))]) (pc' := 13) (ls' := [(0, .inr (.inr (14, 6, 0))), (1, .inl a1)]) (st' := []) rfl rfl (f_X7_changes_ok e4) ?_
    refine xq_blk 3 (pc' := 16) (ls' := [(0, .inr (.inr (14, 6, 0))), (1, .inl a1)]) (st' := [.inl a1, .inl (0 : Int32), .inr (.inr (14, 6, 0))]) (M' := q3) rfl ?_
    refine xq_bind h (fun q5 e6 h => ?_)
    refine xq_call (j := 139) (as := [.inr (.inr (14, 6, 0)), .inl (0 : Int32), .inl a1]) (pc' := 19) (ls' := [(0, .inr (.inr (14, 6, 0))), (1, .inl a1)]) (st' := []) rfl rfl (f_X7_sweeps_ok e6) ?_
    exact (hr _ (Option.some.inj h).symm) ▸ xq_ret rfl
theorem f_X7_sweep_ok {X : List Int32} {a1 : Int32} {M : xM} {p : Int32 × xM} (h : f_X7_sweep a1 M = some p) : xq X xe 163 0 [(0, .inr (.inr (14, 6, 0))), (1, .inl a1)] [] M ((some (.inl p.1), p.2) : xR) := f_X7_sweep_run h (fun q e => by rw [e])
def f_X7_use_j43 (v1 : Int32) (v2 : Int32) (t0 : Int32) (t1 : Int32) (M : xM) : Option (Int32 × xM) := (f_X7_flag t0 M).bind (fun q6 => if t1 = q6 then (some (((-5 : Int32), M))) else ((f_X7_changes M).bind (fun q8 => if xp_in ((8 : Int32) + v1) 3540 = true then (if xp_in ((8 : Int32) + v1) 3540 = true then ((f_X7_movesUp (0 : Int32) (xd_up q8 6 1 ((8 : Int32) + v1).toNatClampNeg ((q8.1 6 1 ((8 : Int32) + v1).toNatClampNeg) ^^^ ((1 : Int32) <<< (v2 &&& (31 : Int32)))))).bind (fun q12 => (f_X7_racksInUse (0 : Int32) v1 q12.2).bind (fun q14 => some ((q14, q12.2))))) else none) else none)))
theorem f_X7_use_j43_ok {X : List Int32} {v1 : Int32} {v2 : Int32} {t0 : Int32} {t1 : Int32} {M : xM} {p : Int32 × xM} {r : xR} (h : f_X7_use_j43 v1 v2 t0 t1 M = some p) (hr : ∀ q, p = q → ((some (.inl q.1), q.2) : xR) = r) : xq X xe 164 43 [(0, .inr (.inr (14, 6, 0))), (1, .inl v1), (2, .inl v2)] [.inl t0, .inl t1] M r := by
  unfold f_X7_use_j43 at h
  refine xq_bind h (fun q6 e7 h => ?_)
  refine xq_call (j := 120) (as := [.inl t0]) (pc' := 46) (ls' := [(0, .inr (.inr (14, 6, 0))), (1, .inl v1), (2, .inl v2)]) (st' := [.inl t1]) rfl rfl (f_X7_flag_ok e7) ?_
  refine xq_ite h (fun c16 h => ?_) (fun c16 h => ?_)
  · refine xq_core (pc' := 49) (ls' := [(0, .inr (.inr (14, 6, 0))), (1, .inl v1), (2, .inl v2)]) (st' := []) rfl (if_pos c16) ?_
    refine xq_blk 1 (pc' := 51) (ls' := [(0, .inr (.inr (14, 6, 0))), (1, .inl v1), (2, .inl v2)]) (st' := [.inl (-5 : Int32)]) (M' := M) rfl ?_
    exact (hr _ (Option.some.inj h).symm) ▸ xq_ret rfl
  · refine xq_core (pc' := 52) (ls' := [(0, .inr (.inr (14, 6, 0))), (1, .inl v1), (2, .inl v2)]) (st' := []) rfl (if_neg c16) ?_
    refine xq_blk 1 (pc' := 53) (ls' := [(0, .inr (.inr (14, 6, 0))), (1, .inl v1), (2, .inl v2)]) (st' := [.inr (.inr (14, 6, 0))]) (M' := M) rfl ?_
    refine xq_bind h (fun q8 e9 h => ?_)
    refine xq_call (j := 122) (as := [.inr (.inr (14, 6, 0))]) (pc' := 56) (ls' := [(0, .inr (.inr (14, 6, 0))), (1, .inl v1), (2, .inl v2)]) (st' := []) rfl rfl (f_X7_changes_ok e9) ?_
    refine xq_blk 6 (pc' := 65) (ls' := [(0, .inr (.inr (14, 6, 0))), (1, .inl v1), (2, .inl v2)]) (st' := [.inl ((8 : Int32) + v1), .inr (.inr (15, 6, 1)), .inl ((8 : Int32) + v1), .inr (.inr (15, 6, 1))]) (M' := q8) rfl ?_
    refine xq_guard h (fun g10 h => ?_)
    refine xq_prim (st' := [.inl (q8.1 6 1 ((8 : Int32) + v1).toNatClampNeg), .inl ((8 : Int32) + v1), .inr (.inr (15, 6, 1))]) (M' := q8) rfl rfl rfl (xg_ald0 rfl g10) ?_
    refine xq_blk 4 (pc' := 70) (ls' := [(0, .inr (.inr (14, 6, 0))), (1, .inl v1), (2, .inl v2)]) (st' := [.inl ((q8.1 6 1 ((8 : Int32) + v1).toNatClampNeg) ^^^ ((1 : Int32) <<< (v2 &&& (31 : Int32)))), .inl ((8 : Int32) + v1), .inr (.inr (15, 6, 1))]) (M' := q8) rfl ?_
    refine xq_guard h (fun g11 h => ?_)
    refine xq_prim (st' := []) (M' := xd_up q8 6 1 ((8 : Int32) + v1).toNatClampNeg ((q8.1 6 1 ((8 : Int32) + v1).toNatClampNeg) ^^^ ((1 : Int32) <<< (v2 &&& (31 : Int32))))) rfl rfl rfl (xg_ast0 rfl g11) ?_
    refine xq_blk 2 (pc' := 73) (ls' := [(0, .inr (.inr (14, 6, 0))), (1, .inl v1), (2, .inl v2)]) (st' := [.inl (0 : Int32), .inr (.inr (14, 6, 0))]) (M' := xd_up q8 6 1 ((8 : Int32) + v1).toNatClampNeg ((q8.1 6 1 ((8 : Int32) + v1).toNatClampNeg) ^^^ ((1 : Int32) <<< (v2 &&& (31 : Int32))))) rfl ?_
    refine xq_bind h (fun q12 e13 h => ?_)
    refine xq_call (j := 131) (as := [.inr (.inr (14, 6, 0)), .inl (0 : Int32)]) (pc' := 76) (ls' := [(0, .inr (.inr (14, 6, 0))), (1, .inl v1), (2, .inl v2)]) (st' := []) rfl rfl (f_X7_movesUp_ok e13) ?_
    refine xq_blk 4 (pc' := 81) (ls' := [(4, .inl q12.1), (0, .inr (.inr (14, 6, 0))), (1, .inl v1), (2, .inl v2)]) (st' := [.inl v1, .inl (0 : Int32), .inr (.inr (14, 6, 0))]) (M' := q12.2) rfl ?_
    refine xq_bind h (fun q14 e15 h => ?_)
    refine xq_call (j := 124) (as := [.inr (.inr (14, 6, 0)), .inl (0 : Int32), .inl v1]) (pc' := 84) (ls' := [(4, .inl q12.1), (0, .inr (.inr (14, 6, 0))), (1, .inl v1), (2, .inl v2)]) (st' := []) rfl rfl (f_X7_racksInUse_ok e15) ?_
    exact (hr _ (Option.some.inj h).symm) ▸ xq_ret rfl
def f_X7_use (a1 : Int32) (a2 : Int32) (a3 : Int32) (M : xM) : Option (Int32 × xM) := (f_X7_isShed a1 M).bind (fun q1 => if q1 = (0 : Int32) then (some (((-1 : Int32), M))) else ((f_X7_in a2.toInt64 (0 : Int64) (7 : Int64) M).bind (fun q3 => if q3 = (0 : Int32) then (some (((-1 : Int32), M))) else (if xp_in ((8 : Int32) + a1) 3540 = true then (if a3 = (0 : Int32) then (f_X7_use_j43 a1 a2 (1 : Int32) (((M.1 6 1 ((8 : Int32) + a1).toNatClampNeg) >>> (a2 &&& (31 : Int32))) &&& (1 : Int32)) M) else (f_X7_use_j43 a1 a2 (0 : Int32) (((M.1 6 1 ((8 : Int32) + a1).toNatClampNeg) >>> (a2 &&& (31 : Int32))) &&& (1 : Int32)) M)) else none))))
theorem f_X7_use_run {X : List Int32} {a1 : Int32} {a2 : Int32} {a3 : Int32} {M : xM} {p : Int32 × xM} {r : xR} (h : f_X7_use a1 a2 a3 M = some p) (hr : ∀ q, p = q → ((some (.inl q.1), q.2) : xR) = r) : xq X xe 164 0 [(0, .inr (.inr (14, 6, 0))), (1, .inl a1), (2, .inl a2), (3, .inl a3)] [] M r := by
  unfold f_X7_use at h
  refine xq_blk 1 (pc' := 1) (ls' := [(0, .inr (.inr (14, 6, 0))), (1, .inl a1), (2, .inl a2), (3, .inl a3)]) (st' := [.inl a1]) (M' := M) rfl ?_
  refine xq_bind h (fun q1 e2 h => ?_)
  refine xq_call (j := 142) (as := [.inl a1]) (pc' := 4) (ls' := [(0, .inr (.inr (14, 6, 0))), (1, .inl a1), (2, .inl a2), (3, .inl a3)]) (st' := []) rfl rfl (f_X7_isShed_ok e2) ?_
  refine xq_ite h (fun c19 h => ?_) (fun c19 h => ?_)
  · refine xq_core (pc' := 19) (ls' := [(0, .inr (.inr (14, 6, 0))), (1, .inl a1), (2, .inl a2), (3, .inl a3)]) (st' := []) rfl (if_pos c19) ?_
    refine xq_blk 1 (pc' := 20) (ls' := [(0, .inr (.inr (14, 6, 0))), (1, .inl a1), (2, .inl a2), (3, .inl a3)]) (st' := [.inl (-1 : Int32)]) (M' := M) rfl ?_
    exact (hr _ (Option.some.inj h).symm) ▸ xq_ret rfl
  · refine xq_core (pc' := 7) (ls' := [(0, .inr (.inr (14, 6, 0))), (1, .inl a1), (2, .inl a2), (3, .inl a3)]) (st' := []) rfl (if_neg c19) ?_
    refine xq_blk 4 (pc' := 13) (ls' := [(0, .inr (.inr (14, 6, 0))), (1, .inl a1), (2, .inl a2), (3, .inl a3)]) (st' := [.inr (.inl (7 : Int64)), .inr (.inl (0 : Int64)), .inr (.inl a2.toInt64)]) (M' := M) rfl ?_
    refine xq_bind h (fun q3 e4 h => ?_)
    refine xq_call (j := 119) (as := [.inr (.inl a2.toInt64), .inr (.inl (0 : Int64)), .inr (.inl (7 : Int64))]) (pc' := 16) (ls' := [(0, .inr (.inr (14, 6, 0))), (1, .inl a1), (2, .inl a2), (3, .inl a3)]) (st' := []) rfl rfl (f_X7_in_ok e4) ?_
    refine xq_ite h (fun c18 h => ?_) (fun c18 h => ?_)
    · refine xq_core (pc' := 19) (ls' := [(0, .inr (.inr (14, 6, 0))), (1, .inl a1), (2, .inl a2), (3, .inl a3)]) (st' := []) rfl (if_pos c18) ?_
      refine xq_blk 1 (pc' := 20) (ls' := [(0, .inr (.inr (14, 6, 0))), (1, .inl a1), (2, .inl a2), (3, .inl a3)]) (st' := [.inl (-1 : Int32)]) (M' := M) rfl ?_
      exact (hr _ (Option.some.inj h).symm) ▸ xq_ret rfl
    · refine xq_core (pc' := 21) (ls' := [(0, .inr (.inr (14, 6, 0))), (1, .inl a1), (2, .inl a2), (3, .inl a3)]) (st' := []) rfl (if_neg c18) ?_
      refine xq_blk 5 (pc' := 29) (ls' := [(0, .inr (.inr (14, 6, 0))), (1, .inl a1), (2, .inl a2), (3, .inl a3)]) (st' := [.inl ((8 : Int32) + a1), .inr (.inr (15, 6, 1))]) (M' := M) rfl ?_
      refine xq_guard h (fun g5 h => ?_)
      refine xq_prim (st' := [.inl (M.1 6 1 ((8 : Int32) + a1).toNatClampNeg)]) (M' := M) rfl rfl rfl (xg_ald0 rfl g5) ?_
      refine xq_blk 5 (pc' := 35) (ls' := [(0, .inr (.inr (14, 6, 0))), (1, .inl a1), (2, .inl a2), (3, .inl a3)]) (st' := [.inl a3, .inl (((M.1 6 1 ((8 : Int32) + a1).toNatClampNeg) >>> (a2 &&& (31 : Int32))) &&& (1 : Int32))]) (M' := M) rfl ?_
      refine xq_ite h (fun c17 h => ?_) (fun c17 h => ?_)
      · refine xq_core (pc' := 38) (ls' := [(0, .inr (.inr (14, 6, 0))), (1, .inl a1), (2, .inl a2), (3, .inl a3)]) (st' := [.inl (((M.1 6 1 ((8 : Int32) + a1).toNatClampNeg) >>> (a2 &&& (31 : Int32))) &&& (1 : Int32))]) rfl (if_pos c17) ?_
        refine xq_blk 2 (pc' := 43) (ls' := [(0, .inr (.inr (14, 6, 0))), (1, .inl a1), (2, .inl a2), (3, .inl a3)]) (st' := [.inl (1 : Int32), .inl (((M.1 6 1 ((8 : Int32) + a1).toNatClampNeg) >>> (a2 &&& (31 : Int32))) &&& (1 : Int32))]) (M' := M) rfl ?_
        exact xq_sub (a := [(0, .inr (.inr (14, 6, 0))), (1, .inl a1), (2, .inl a2)]) ⟨rfl, rfl, rfl, trivial⟩ rfl (f_X7_use_j43_ok h hr)
      · refine xq_core (pc' := 42) (ls' := [(0, .inr (.inr (14, 6, 0))), (1, .inl a1), (2, .inl a2), (3, .inl a3)]) (st' := [.inl (((M.1 6 1 ((8 : Int32) + a1).toNatClampNeg) >>> (a2 &&& (31 : Int32))) &&& (1 : Int32))]) rfl (if_neg c17) ?_
        refine xq_blk 1 (pc' := 43) (ls' := [(0, .inr (.inr (14, 6, 0))), (1, .inl a1), (2, .inl a2), (3, .inl a3)]) (st' := [.inl (0 : Int32), .inl (((M.1 6 1 ((8 : Int32) + a1).toNatClampNeg) >>> (a2 &&& (31 : Int32))) &&& (1 : Int32))]) (M' := M) rfl ?_
        exact xq_sub (a := [(0, .inr (.inr (14, 6, 0))), (1, .inl a1), (2, .inl a2)]) ⟨rfl, rfl, rfl, trivial⟩ rfl (f_X7_use_j43_ok h hr)
theorem f_X7_use_ok {X : List Int32} {a1 : Int32} {a2 : Int32} {a3 : Int32} {M : xM} {p : Int32 × xM} (h : f_X7_use a1 a2 a3 M = some p) : xq X xe 164 0 [(0, .inr (.inr (14, 6, 0))), (1, .inl a1), (2, .inl a2), (3, .inl a3)] [] M ((some (.inl p.1), p.2) : xR) := f_X7_use_run h (fun q e => by rw [e])
def f_X7_passError (a1 : Int32) (M : xM) : Option (Int32) := (f_X7_areDays a1 M).bind (fun q1 => if q1 = (0 : Int32) then (some ((-2 : Int32))) else (if (9999 : Int32) < ((M.1 6 1 4) + a1) then (some ((-4 : Int32))) else (some ((0 : Int32)))))
theorem f_X7_passError_run {X : List Int32} {a1 : Int32} {M : xM} {p : Int32} {r : xR} (h : f_X7_passError a1 M = some p) (hr : ∀ q, p = q → ((some (.inl q), M) : xR) = r) : xq X xe 149 0 [(0, .inr (.inr (14, 6, 0))), (1, .inl a1)] [] M r := by
  unfold f_X7_passError at h
  refine xq_blk 1 (pc' := 1) (ls' := [(0, .inr (.inr (14, 6, 0))), (1, .inl a1)]) (st' := [.inl a1]) (M' := M) rfl ?_
  refine xq_bind h (fun q1 e2 h => ?_)
  refine xq_call (j := 143) (as := [.inl a1]) (pc' := 4) (ls' := [(0, .inr (.inr (14, 6, 0))), (1, .inl a1)]) (st' := []) rfl rfl (f_X7_areDays_ok e2) ?_
  refine xq_ite h (fun c4 h => ?_) (fun c4 h => ?_)
  · refine xq_core (pc' := 7) (ls' := [(0, .inr (.inr (14, 6, 0))), (1, .inl a1)]) (st' := []) rfl (if_pos c4) ?_
    refine xq_blk 2 (pc' := 32) (ls' := [(0, .inr (.inr (14, 6, 0))), (1, .inl a1)]) (st' := [.inl (-2 : Int32)]) (M' := M) rfl ?_
    exact (hr _ (Option.some.inj h).symm) ▸ xq_ret rfl
  · refine xq_core (pc' := 12) (ls' := [(0, .inr (.inr (14, 6, 0))), (1, .inl a1)]) (st' := []) rfl (if_neg c4) ?_
    refine xq_blk 3 (pc' := 17) (ls' := [(0, .inr (.inr (14, 6, 0))), (1, .inl a1)]) (st' := [.inl (4 : Int32), .inr (.inr (15, 6, 1))]) (M' := M) rfl ?_
    refine xq_prim (st' := [.inl (M.1 6 1 4)]) (M' := M) rfl rfl rfl (xg_ald0 rfl rfl) ?_
    refine xq_blk 3 (pc' := 23) (ls' := [(0, .inr (.inr (14, 6, 0))), (1, .inl a1)]) (st' := [.inl (9999 : Int32), .inl ((M.1 6 1 4) + a1)]) (M' := M) rfl ?_
    refine xq_ite h (fun c3 h => ?_) (fun c3 h => ?_)
    · refine xq_core (pc' := 26) (ls' := [(0, .inr (.inr (14, 6, 0))), (1, .inl a1)]) (st' := []) rfl (if_pos c3) ?_
      refine xq_blk 2 (pc' := 32) (ls' := [(0, .inr (.inr (14, 6, 0))), (1, .inl a1)]) (st' := [.inl (-4 : Int32)]) (M' := M) rfl ?_
      exact (hr _ (Option.some.inj h).symm) ▸ xq_ret rfl
    · refine xq_core (pc' := 31) (ls' := [(0, .inr (.inr (14, 6, 0))), (1, .inl a1)]) (st' := []) rfl (if_neg c3) ?_
      refine xq_blk 1 (pc' := 32) (ls' := [(0, .inr (.inr (14, 6, 0))), (1, .inl a1)]) (st' := [.inl (0 : Int32)]) (M' := M) rfl ?_
      exact (hr _ (Option.some.inj h).symm) ▸ xq_ret rfl
theorem f_X7_passError_ok {X : List Int32} {a1 : Int32} {M : xM} {p : Int32} (h : f_X7_passError a1 M = some p) : xq X xe 149 0 [(0, .inr (.inr (14, 6, 0))), (1, .inl a1)] [] M ((some (.inl p), M) : xR) := f_X7_passError_run h (fun q e => by rw [e])
def f_X7_day_j62_14 (k14v1 : Int32) (v2 : Int32) (v3 : Int32) (M : xM) : Option ((Int32 × xM) ⊕ (Int32 × xM)) := if xp_in (v3 + (6 : Int32)) 3540 = true then (if (M.1 6 1 (v3 + (6 : Int32)).toNatClampNeg) = (-6 : Int32) then (some (.inl (v2 + (1 : Int32), M))) else (if xp_in (k14v1 + (4 : Int32)) 3540 = true then (if xp_in (v3 + (6 : Int32)) 3540 = true then (if xp_in (k14v1 + (3 : Int32)) 3540 = true then (if ((M.1 6 1 (k14v1 + (4 : Int32)).toNatClampNeg) - (M.1 6 1 (v3 + (6 : Int32)).toNatClampNeg)) < (M.1 6 1 (k14v1 + (3 : Int32)).toNatClampNeg) then (some (.inl (v2 + (1 : Int32), M))) else (if xp_in (v3 + (6 : Int32)) 3540 = true then (if xp_in (v3 + (7 : Int32)) 3540 = true then (if xp_in (v3 + (7 : Int32)) 3540 = true then (if xp_in (k14v1 + (5 : Int32)) 3540 = true then (if xp_in (k14v1 + (5 : Int32)) 3540 = true then (some (.inl (v2 + (1 : Int32), xd_up (xd_up (xd_up M 6 1 (v3 + (6 : Int32)).toNatClampNeg (-6 : Int32)) 6 1 (v3 + (7 : Int32)).toNatClampNeg (((xd_up M 6 1 (v3 + (6 : Int32)).toNatClampNeg (-6 : Int32)).1 6 1 (v3 + (7 : Int32)).toNatClampNeg) + (1 : Int32))) 6 1 (k14v1 + (5 : Int32)).toNatClampNeg (((xd_up (xd_up M 6 1 (v3 + (6 : Int32)).toNatClampNeg (-6 : Int32)) 6 1 (v3 + (7 : Int32)).toNatClampNeg (((xd_up M 6 1 (v3 + (6 : Int32)).toNatClampNeg (-6 : Int32)).1 6 1 (v3 + (7 : Int32)).toNatClampNeg) + (1 : Int32))).1 6 1 (k14v1 + (5 : Int32)).toNatClampNeg) + (1 : Int32))))) else none) else none) else none) else none) else none)) else none) else none) else none)) else none
theorem f_X7_day_j62_14_ok {X : List Int32} {k14v1 : Int32} {v2 : Int32} {v3 : Int32} {M : xM} {p : (Int32 × xM) ⊕ (Int32 × xM)} {r : xR} (h : f_X7_day_j62_14 k14v1 v2 v3 M = some p) (h0 : ∀ s', p = .inl s' → xq X xe 134 14 [(0, .inr (.inr (14, 6, 0))), (1, .inl k14v1), (2, .inl s'.1)] [] s'.2 r) (hr : ∀ q, p = .inr (q) → ((some (.inl q.1), q.2) : xR) = r) : xq X xe 134 62 [(0, .inr (.inr (14, 6, 0))), (1, .inl k14v1), (2, .inl v2), (3, .inl v3)] [] M r := by
  unfold f_X7_day_j62_14 at h
  refine xq_blk 5 (pc' := 70) (ls' := [(0, .inr (.inr (14, 6, 0))), (1, .inl k14v1), (2, .inl v2), (3, .inl v3)]) (st' := [.inl (v3 + (6 : Int32)), .inr (.inr (15, 6, 1))]) (M' := M) rfl ?_
  refine xq_guard h (fun g6 h => ?_)
  refine xq_prim (st' := [.inl (M.1 6 1 (v3 + (6 : Int32)).toNatClampNeg)]) (M' := M) rfl rfl rfl (xg_ald0 rfl g6) ?_
  refine xq_blk 1 (pc' := 73) (ls' := [(0, .inr (.inr (14, 6, 0))), (1, .inl k14v1), (2, .inl v2), (3, .inl v3)]) (st' := [.inl (-6 : Int32), .inl (M.1 6 1 (v3 + (6 : Int32)).toNatClampNeg)]) (M' := M) rfl ?_
  refine xq_ite h (fun c16 h => ?_) (fun c16 h => ?_)
  · refine xq_core (pc' := 141) (ls' := [(0, .inr (.inr (14, 6, 0))), (1, .inl k14v1), (2, .inl v2), (3, .inl v3)]) (st' := []) rfl (if_pos c16) ?_
    refine xq_blk 2 (pc' := 14) (ls' := [(2, .inl (v2 + (1 : Int32))), (0, .inr (.inr (14, 6, 0))), (1, .inl k14v1), (3, .inl v3)]) (st' := []) (M' := M) rfl ?_
    exact xq_sub (a := [(0, .inr (.inr (14, 6, 0))), (1, .inl k14v1), (2, .inl ((v2 + (1 : Int32), M).1))]) ⟨rfl, rfl, rfl, trivial⟩ rfl (h0 (v2 + (1 : Int32), M) (Option.some.inj h).symm)
  · refine xq_core (pc' := 76) (ls' := [(0, .inr (.inr (14, 6, 0))), (1, .inl k14v1), (2, .inl v2), (3, .inl v3)]) (st' := []) rfl (if_neg c16) ?_
    refine xq_blk 5 (pc' := 83) (ls' := [(0, .inr (.inr (14, 6, 0))), (1, .inl k14v1), (2, .inl v2), (3, .inl v3)]) (st' := [.inl (k14v1 + (4 : Int32)), .inr (.inr (15, 6, 1))]) (M' := M) rfl ?_
    refine xq_guard h (fun g7 h => ?_)
    refine xq_prim (st' := [.inl (M.1 6 1 (k14v1 + (4 : Int32)).toNatClampNeg)]) (M' := M) rfl rfl rfl (xg_ald0 rfl g7) ?_
    refine xq_blk 5 (pc' := 92) (ls' := [(0, .inr (.inr (14, 6, 0))), (1, .inl k14v1), (2, .inl v2), (3, .inl v3)]) (st' := [.inl (v3 + (6 : Int32)), .inr (.inr (15, 6, 1)), .inl (M.1 6 1 (k14v1 + (4 : Int32)).toNatClampNeg)]) (M' := M) rfl ?_
    refine xq_guard h (fun g8 h => ?_)
    refine xq_prim (st' := [.inl (M.1 6 1 (v3 + (6 : Int32)).toNatClampNeg), .inl (M.1 6 1 (k14v1 + (4 : Int32)).toNatClampNeg)]) (M' := M) rfl rfl rfl (xg_ald0 rfl g8) ?_
    refine xq_blk 6 (pc' := 101) (ls' := [(0, .inr (.inr (14, 6, 0))), (1, .inl k14v1), (2, .inl v2), (3, .inl v3)]) (st' := [.inl (k14v1 + (3 : Int32)), .inr (.inr (15, 6, 1)), .inl ((M.1 6 1 (k14v1 + (4 : Int32)).toNatClampNeg) - (M.1 6 1 (v3 + (6 : Int32)).toNatClampNeg))]) (M' := M) rfl ?_
    refine xq_guard h (fun g9 h => ?_)
    refine xq_prim (st' := [.inl (M.1 6 1 (k14v1 + (3 : Int32)).toNatClampNeg), .inl ((M.1 6 1 (k14v1 + (4 : Int32)).toNatClampNeg) - (M.1 6 1 (v3 + (6 : Int32)).toNatClampNeg))]) (M' := M) rfl rfl rfl (xg_ald0 rfl g9) ?_
    refine xq_ite h (fun c15 h => ?_) (fun c15 h => ?_)
    · refine xq_core (pc' := 141) (ls' := [(0, .inr (.inr (14, 6, 0))), (1, .inl k14v1), (2, .inl v2), (3, .inl v3)]) (st' := []) rfl (if_pos c15) ?_
      refine xq_blk 2 (pc' := 14) (ls' := [(2, .inl (v2 + (1 : Int32))), (0, .inr (.inr (14, 6, 0))), (1, .inl k14v1), (3, .inl v3)]) (st' := []) (M' := M) rfl ?_
      exact xq_sub (a := [(0, .inr (.inr (14, 6, 0))), (1, .inl k14v1), (2, .inl ((v2 + (1 : Int32), M).1))]) ⟨rfl, rfl, rfl, trivial⟩ rfl (h0 (v2 + (1 : Int32), M) (Option.some.inj h).symm)
    · refine xq_core (pc' := 105) (ls' := [(0, .inr (.inr (14, 6, 0))), (1, .inl k14v1), (2, .inl v2), (3, .inl v3)]) (st' := []) rfl (if_neg c15) ?_
      refine xq_blk 6 (pc' := 115) (ls' := [(0, .inr (.inr (14, 6, 0))), (1, .inl k14v1), (2, .inl v2), (3, .inl v3)]) (st' := [.inl (-6 : Int32), .inl (v3 + (6 : Int32)), .inr (.inr (15, 6, 1))]) (M' := M) rfl ?_
      refine xq_guard h (fun g10 h => ?_)
      refine xq_prim (st' := []) (M' := xd_up M 6 1 (v3 + (6 : Int32)).toNatClampNeg (-6 : Int32)) rfl rfl rfl (xg_ast0 rfl g10) ?_
      refine xq_blk 6 (pc' := 125) (ls' := [(0, .inr (.inr (14, 6, 0))), (1, .inl k14v1), (2, .inl v2), (3, .inl v3)]) (st' := [.inl (v3 + (7 : Int32)), .inr (.inr (15, 6, 1)), .inl (v3 + (7 : Int32)), .inr (.inr (15, 6, 1))]) (M' := xd_up M 6 1 (v3 + (6 : Int32)).toNatClampNeg (-6 : Int32)) rfl ?_
      refine xq_guard h (fun g11 h => ?_)
      refine xq_prim (st' := [.inl ((xd_up M 6 1 (v3 + (6 : Int32)).toNatClampNeg (-6 : Int32)).1 6 1 (v3 + (7 : Int32)).toNatClampNeg), .inl (v3 + (7 : Int32)), .inr (.inr (15, 6, 1))]) (M' := xd_up M 6 1 (v3 + (6 : Int32)).toNatClampNeg (-6 : Int32)) rfl rfl rfl (xg_ald0 rfl g11) ?_
      refine xq_blk 2 (pc' := 128) (ls' := [(0, .inr (.inr (14, 6, 0))), (1, .inl k14v1), (2, .inl v2), (3, .inl v3)]) (st' := [.inl (((xd_up M 6 1 (v3 + (6 : Int32)).toNatClampNeg (-6 : Int32)).1 6 1 (v3 + (7 : Int32)).toNatClampNeg) + (1 : Int32)), .inl (v3 + (7 : Int32)), .inr (.inr (15, 6, 1))]) (M' := xd_up M 6 1 (v3 + (6 : Int32)).toNatClampNeg (-6 : Int32)) rfl ?_
      refine xq_guard h (fun g12 h => ?_)
      refine xq_prim (st' := []) (M' := xd_up (xd_up M 6 1 (v3 + (6 : Int32)).toNatClampNeg (-6 : Int32)) 6 1 (v3 + (7 : Int32)).toNatClampNeg (((xd_up M 6 1 (v3 + (6 : Int32)).toNatClampNeg (-6 : Int32)).1 6 1 (v3 + (7 : Int32)).toNatClampNeg) + (1 : Int32))) rfl rfl rfl (xg_ast0 rfl g12) ?_
      refine xq_blk 6 (pc' := 137) (ls' := [(0, .inr (.inr (14, 6, 0))), (1, .inl k14v1), (2, .inl v2), (3, .inl v3)]) (st' := [.inl (k14v1 + (5 : Int32)), .inr (.inr (15, 6, 1)), .inl (k14v1 + (5 : Int32)), .inr (.inr (15, 6, 1))]) (M' := xd_up (xd_up M 6 1 (v3 + (6 : Int32)).toNatClampNeg (-6 : Int32)) 6 1 (v3 + (7 : Int32)).toNatClampNeg (((xd_up M 6 1 (v3 + (6 : Int32)).toNatClampNeg (-6 : Int32)).1 6 1 (v3 + (7 : Int32)).toNatClampNeg) + (1 : Int32))) rfl ?_
      refine xq_guard h (fun g13 h => ?_)
      refine xq_prim (st' := [.inl ((xd_up (xd_up M 6 1 (v3 + (6 : Int32)).toNatClampNeg (-6 : Int32)) 6 1 (v3 + (7 : Int32)).toNatClampNeg (((xd_up M 6 1 (v3 + (6 : Int32)).toNatClampNeg (-6 : Int32)).1 6 1 (v3 + (7 : Int32)).toNatClampNeg) + (1 : Int32))).1 6 1 (k14v1 + (5 : Int32)).toNatClampNeg), .inl (k14v1 + (5 : Int32)), .inr (.inr (15, 6, 1))]) (M' := xd_up (xd_up M 6 1 (v3 + (6 : Int32)).toNatClampNeg (-6 : Int32)) 6 1 (v3 + (7 : Int32)).toNatClampNeg (((xd_up M 6 1 (v3 + (6 : Int32)).toNatClampNeg (-6 : Int32)).1 6 1 (v3 + (7 : Int32)).toNatClampNeg) + (1 : Int32))) rfl rfl rfl (xg_ald0 rfl g13) ?_
      refine xq_blk 2 (pc' := 140) (ls' := [(0, .inr (.inr (14, 6, 0))), (1, .inl k14v1), (2, .inl v2), (3, .inl v3)]) (st' := [.inl (((xd_up (xd_up M 6 1 (v3 + (6 : Int32)).toNatClampNeg (-6 : Int32)) 6 1 (v3 + (7 : Int32)).toNatClampNeg (((xd_up M 6 1 (v3 + (6 : Int32)).toNatClampNeg (-6 : Int32)).1 6 1 (v3 + (7 : Int32)).toNatClampNeg) + (1 : Int32))).1 6 1 (k14v1 + (5 : Int32)).toNatClampNeg) + (1 : Int32)), .inl (k14v1 + (5 : Int32)), .inr (.inr (15, 6, 1))]) (M' := xd_up (xd_up M 6 1 (v3 + (6 : Int32)).toNatClampNeg (-6 : Int32)) 6 1 (v3 + (7 : Int32)).toNatClampNeg (((xd_up M 6 1 (v3 + (6 : Int32)).toNatClampNeg (-6 : Int32)).1 6 1 (v3 + (7 : Int32)).toNatClampNeg) + (1 : Int32))) rfl ?_
      refine xq_guard h (fun g14 h => ?_)
      refine xq_prim (st' := []) (M' := xd_up (xd_up (xd_up M 6 1 (v3 + (6 : Int32)).toNatClampNeg (-6 : Int32)) 6 1 (v3 + (7 : Int32)).toNatClampNeg (((xd_up M 6 1 (v3 + (6 : Int32)).toNatClampNeg (-6 : Int32)).1 6 1 (v3 + (7 : Int32)).toNatClampNeg) + (1 : Int32))) 6 1 (k14v1 + (5 : Int32)).toNatClampNeg (((xd_up (xd_up M 6 1 (v3 + (6 : Int32)).toNatClampNeg (-6 : Int32)) 6 1 (v3 + (7 : Int32)).toNatClampNeg (((xd_up M 6 1 (v3 + (6 : Int32)).toNatClampNeg (-6 : Int32)).1 6 1 (v3 + (7 : Int32)).toNatClampNeg) + (1 : Int32))).1 6 1 (k14v1 + (5 : Int32)).toNatClampNeg) + (1 : Int32))) rfl rfl rfl (xg_ast0 rfl g14) ?_
      refine xq_blk 2 (pc' := 14) (ls' := [(2, .inl (v2 + (1 : Int32))), (0, .inr (.inr (14, 6, 0))), (1, .inl k14v1), (3, .inl v3)]) (st' := []) (M' := xd_up (xd_up (xd_up M 6 1 (v3 + (6 : Int32)).toNatClampNeg (-6 : Int32)) 6 1 (v3 + (7 : Int32)).toNatClampNeg (((xd_up M 6 1 (v3 + (6 : Int32)).toNatClampNeg (-6 : Int32)).1 6 1 (v3 + (7 : Int32)).toNatClampNeg) + (1 : Int32))) 6 1 (k14v1 + (5 : Int32)).toNatClampNeg (((xd_up (xd_up M 6 1 (v3 + (6 : Int32)).toNatClampNeg (-6 : Int32)) 6 1 (v3 + (7 : Int32)).toNatClampNeg (((xd_up M 6 1 (v3 + (6 : Int32)).toNatClampNeg (-6 : Int32)).1 6 1 (v3 + (7 : Int32)).toNatClampNeg) + (1 : Int32))).1 6 1 (k14v1 + (5 : Int32)).toNatClampNeg) + (1 : Int32))) rfl ?_
      exact xq_sub (a := [(0, .inr (.inr (14, 6, 0))), (1, .inl k14v1), (2, .inl ((v2 + (1 : Int32), xd_up (xd_up (xd_up M 6 1 (v3 + (6 : Int32)).toNatClampNeg (-6 : Int32)) 6 1 (v3 + (7 : Int32)).toNatClampNeg (((xd_up M 6 1 (v3 + (6 : Int32)).toNatClampNeg (-6 : Int32)).1 6 1 (v3 + (7 : Int32)).toNatClampNeg) + (1 : Int32))) 6 1 (k14v1 + (5 : Int32)).toNatClampNeg (((xd_up (xd_up M 6 1 (v3 + (6 : Int32)).toNatClampNeg (-6 : Int32)) 6 1 (v3 + (7 : Int32)).toNatClampNeg (((xd_up M 6 1 (v3 + (6 : Int32)).toNatClampNeg (-6 : Int32)).1 6 1 (v3 + (7 : Int32)).toNatClampNeg) + (1 : Int32))).1 6 1 (k14v1 + (5 : Int32)).toNatClampNeg) + (1 : Int32))).1))]) ⟨rfl, rfl, rfl, trivial⟩ rfl (h0 (v2 + (1 : Int32), xd_up (xd_up (xd_up M 6 1 (v3 + (6 : Int32)).toNatClampNeg (-6 : Int32)) 6 1 (v3 + (7 : Int32)).toNatClampNeg (((xd_up M 6 1 (v3 + (6 : Int32)).toNatClampNeg (-6 : Int32)).1 6 1 (v3 + (7 : Int32)).toNatClampNeg) + (1 : Int32))) 6 1 (k14v1 + (5 : Int32)).toNatClampNeg (((xd_up (xd_up M 6 1 (v3 + (6 : Int32)).toNatClampNeg (-6 : Int32)) 6 1 (v3 + (7 : Int32)).toNatClampNeg (((xd_up M 6 1 (v3 + (6 : Int32)).toNatClampNeg (-6 : Int32)).1 6 1 (v3 + (7 : Int32)).toNatClampNeg) + (1 : Int32))).1 6 1 (k14v1 + (5 : Int32)).toNatClampNeg) + (1 : Int32))) (Option.some.inj h).symm)
def f_X7_day_l14 (k14v1 : Int32) (s14 : Int32 × xM) : Option ((Int32 × xM) ⊕ (Int32 × xM)) := if s14.1 < (20 : Int32) then ((f_X7_personAt k14v1 s14.1 s14.2).bind (fun q3 => if xp_in q3 3540 = true then (if (s14.2.1 6 1 q3.toNatClampNeg) = (-6 : Int32) then (f_X7_day_j62_14 k14v1 s14.1 q3 s14.2) else (if xp_in (q3 + (1 : Int32)) 3540 = true then (if xp_in (k14v1 + (4 : Int32)) 3540 = true then (if (s14.2.1 6 1 (q3 + (1 : Int32)).toNatClampNeg) < (s14.2.1 6 1 (k14v1 + (4 : Int32)).toNatClampNeg) then ((f_X7_endsPermit k14v1 s14.1 s14.2).bind (fun q19 => f_X7_day_j62_14 k14v1 s14.1 q3 q19)) else (f_X7_day_j62_14 k14v1 s14.1 q3 s14.2)) else none) else none)) else none)) else (Option.map Sum.inr ((f_X7_movesUp k14v1 s14.2).bind (fun q23 => some ((q23.1, q23.2)))))
theorem f_X7_day_l14_ok {X : List Int32} {k14v1 : Int32} {s14 : Int32 × xM} {p : (Int32 × xM) ⊕ (Int32 × xM)} {r : xR} (h : f_X7_day_l14 k14v1 s14 = some p) (h0 : ∀ s', p = .inl s' → xq X xe 134 14 [(0, .inr (.inr (14, 6, 0))), (1, .inl k14v1), (2, .inl s'.1)] [] s'.2 r) (hr : ∀ q, p = .inr (q) → ((some (.inl q.1), q.2) : xR) = r) : xq X xe 134 14 [(0, .inr (.inr (14, 6, 0))), (1, .inl k14v1), (2, .inl s14.1)] [] s14.2 r := by
  unfold f_X7_day_l14 at h
  refine xq_blk 2 (pc' := 17) (ls' := [(0, .inr (.inr (14, 6, 0))), (1, .inl k14v1), (2, .inl s14.1)]) (st' := [.inl (20 : Int32), .inl s14.1]) (M' := s14.2) rfl ?_
  refine xq_ite h (fun c25 h => ?_) (fun c25 h => ?_)
  · refine xq_core (pc' := 20) (ls' := [(0, .inr (.inr (14, 6, 0))), (1, .inl k14v1), (2, .inl s14.1)]) (st' := []) rfl (if_pos c25) ?_
    refine xq_blk 2 (pc' := 22) (ls' := [(0, .inr (.inr (14, 6, 0))), (1, .inl k14v1), (2, .inl s14.1)]) (st' := [.inl s14.1, .inl k14v1]) (M' := s14.2) rfl ?_
    refine xq_bind h (fun q3 e4 h => ?_)
    refine xq_call (j := 117) (as := [.inl k14v1, .inl s14.1]) (pc' := 25) (ls' := [(0, .inr (.inr (14, 6, 0))), (1, .inl k14v1), (2, .inl s14.1)]) (st' := []) rfl rfl (f_X7_personAt_ok e4) ?_
    refine xq_blk 4 (pc' := 31) (ls' := [(3, .inl q3), (0, .inr (.inr (14, 6, 0))), (1, .inl k14v1), (2, .inl s14.1)]) (st' := [.inl q3, .inr (.inr (15, 6, 1))]) (M' := s14.2) rfl ?_
    refine xq_guard h (fun g5 h => ?_)
    refine xq_prim (st' := [.inl (s14.2.1 6 1 q3.toNatClampNeg)]) (M' := s14.2) rfl rfl rfl (xg_ald0 rfl g5) ?_
    refine xq_blk 1 (pc' := 34) (ls' := [(3, .inl q3), (0, .inr (.inr (14, 6, 0))), (1, .inl k14v1), (2, .inl s14.1)]) (st' := [.inl (-6 : Int32), .inl (s14.2.1 6 1 q3.toNatClampNeg)]) (M' := s14.2) rfl ?_
    refine xq_ite h (fun c22 h => ?_) (fun c22 h => ?_)
    · refine xq_core (pc' := 62) (ls' := [(3, .inl q3), (0, .inr (.inr (14, 6, 0))), (1, .inl k14v1), (2, .inl s14.1)]) (st' := []) rfl (if_pos c22) ?_
      exact xq_sub (a := [(0, .inr (.inr (14, 6, 0))), (1, .inl k14v1), (2, .inl s14.1), (3, .inl q3)]) ⟨rfl, rfl, rfl, rfl, trivial⟩ rfl (f_X7_day_j62_14_ok h h0 hr)
    · refine xq_core (pc' := 37) (ls' := [(3, .inl q3), (0, .inr (.inr (14, 6, 0))), (1, .inl k14v1), (2, .inl s14.1)]) (st' := []) rfl (if_neg c22) ?_
      refine xq_blk 5 (pc' := 44) (ls' := [(3, .inl q3), (0, .inr (.inr (14, 6, 0))), (1, .inl k14v1), (2, .inl s14.1)]) (st' := [.inl (q3 + (1 : Int32)), .inr (.inr (15, 6, 1))]) (M' := s14.2) rfl ?_
      refine xq_guard h (fun g17 h => ?_)
      refine xq_prim (st' := [.inl (s14.2.1 6 1 (q3 + (1 : Int32)).toNatClampNeg)]) (M' := s14.2) rfl rfl rfl (xg_ald0 rfl g17) ?_
      refine xq_blk 5 (pc' := 52) (ls' := [(3, .inl q3), (0, .inr (.inr (14, 6, 0))), (1, .inl k14v1), (2, .inl s14.1)]) (st' := [.inl (k14v1 + (4 : Int32)), .inr (.inr (15, 6, 1)), .inl (s14.2.1 6 1 (q3 + (1 : Int32)).toNatClampNeg)]) (M' := s14.2) rfl ?_
      refine xq_guard h (fun g18 h => ?_)
      refine xq_prim (st' := [.inl (s14.2.1 6 1 (k14v1 + (4 : Int32)).toNatClampNeg), .inl (s14.2.1 6 1 (q3 + (1 : Int32)).toNatClampNeg)]) (M' := s14.2) rfl rfl rfl (xg_ald0 rfl g18) ?_
      refine xq_ite h (fun c21 h => ?_) (fun c21 h => ?_)
      · refine xq_core (pc' := 56) (ls' := [(3, .inl q3), (0, .inr (.inr (14, 6, 0))), (1, .inl k14v1), (2, .inl s14.1)]) (st' := []) rfl (if_pos c21) ?_
        refine xq_blk 3 (pc' := 59) (ls' := [(3, .inl q3), (0, .inr (.inr (14, 6, 0))), (1, .inl k14v1), (2, .inl s14.1)]) (st' := [.inl s14.1, .inl k14v1, .inr (.inr (14, 6, 0))]) (M' := s14.2) rfl ?_
        refine xq_bind h (fun q19 e20 h => ?_)
        refine xq_call (j := 133) (as := [.inr (.inr (14, 6, 0)), .inl k14v1, .inl s14.1]) (pc' := 62) (ls' := [(3, .inl q3), (0, .inr (.inr (14, 6, 0))), (1, .inl k14v1), (2, .inl s14.1)]) (st' := []) rfl rfl (f_X7_endsPermit_ok e20) ?_
        exact xq_sub (a := [(0, .inr (.inr (14, 6, 0))), (1, .inl k14v1), (2, .inl s14.1), (3, .inl q3)]) ⟨rfl, rfl, rfl, rfl, trivial⟩ rfl (f_X7_day_j62_14_ok h h0 hr)
      · refine xq_core (pc' := 62) (ls' := [(3, .inl q3), (0, .inr (.inr (14, 6, 0))), (1, .inl k14v1), (2, .inl s14.1)]) (st' := []) rfl (if_neg c21) ?_
        exact xq_sub (a := [(0, .inr (.inr (14, 6, 0))), (1, .inl k14v1), (2, .inl s14.1), (3, .inl q3)]) ⟨rfl, rfl, rfl, rfl, trivial⟩ rfl (f_X7_day_j62_14_ok h h0 hr)
  · refine xq_core (pc' := 147) (ls' := [(0, .inr (.inr (14, 6, 0))), (1, .inl k14v1), (2, .inl s14.1)]) (st' := []) rfl (if_neg c25) ?_
    refine xq_map h (fun p h e => ?_)
    replace hr := fun q e' => hr q (e.symm.trans (congrArg Sum.inr e'))
    clear e
    refine xq_blk 2 (pc' := 149) (ls' := [(0, .inr (.inr (14, 6, 0))), (1, .inl k14v1), (2, .inl s14.1)]) (st' := [.inl k14v1, .inr (.inr (14, 6, 0))]) (M' := s14.2) rfl ?_
    refine xq_bind h (fun q23 e24 h => ?_)
    refine xq_call (j := 131) (as := [.inr (.inr (14, 6, 0)), .inl k14v1]) (pc' := 152) (ls' := [(0, .inr (.inr (14, 6, 0))), (1, .inl k14v1), (2, .inl s14.1)]) (st' := []) rfl rfl (f_X7_movesUp_ok e24) ?_
    exact (hr _ (Option.some.inj h).symm) ▸ xq_ret rfl
def f_X7_day (a1 : Int32) (M : xM) : Option (Int32 × xM) := if xp_in (a1 + (4 : Int32)) 3540 = true then (if xp_in (a1 + (4 : Int32)) 3540 = true then (xlp (f_X7_day_l14 a1) 4000 ((0 : Int32), xd_up M 6 1 (a1 + (4 : Int32)).toNatClampNeg ((M.1 6 1 (a1 + (4 : Int32)).toNatClampNeg) + (1 : Int32)))) else none) else none
theorem f_X7_day_run {X : List Int32} {a1 : Int32} {M : xM} {p : Int32 × xM} {r : xR} (h : f_X7_day a1 M = some p) (hr : ∀ q, p = q → ((some (.inl q.1), q.2) : xR) = r) : xq X xe 134 0 [(0, .inr (.inr (14, 6, 0))), (1, .inl a1)] [] M r := by
  unfold f_X7_day at h
  refine xq_blk 6 (pc' := 8) (ls' := [(0, .inr (.inr (14, 6, 0))), (1, .inl a1)]) (st' := [.inl (a1 + (4 : Int32)), .inr (.inr (15, 6, 1)), .inl (a1 + (4 : Int32)), .inr (.inr (15, 6, 1))]) (M' := M) rfl ?_
  refine xq_guard h (fun g1 h => ?_)
  refine xq_prim (st' := [.inl (M.1 6 1 (a1 + (4 : Int32)).toNatClampNeg), .inl (a1 + (4 : Int32)), .inr (.inr (15, 6, 1))]) (M' := M) rfl rfl rfl (xg_ald0 rfl g1) ?_
  refine xq_blk 2 (pc' := 11) (ls' := [(0, .inr (.inr (14, 6, 0))), (1, .inl a1)]) (st' := [.inl ((M.1 6 1 (a1 + (4 : Int32)).toNatClampNeg) + (1 : Int32)), .inl (a1 + (4 : Int32)), .inr (.inr (15, 6, 1))]) (M' := M) rfl ?_
  refine xq_guard h (fun g2 h => ?_)
  refine xq_prim (st' := []) (M' := xd_up M 6 1 (a1 + (4 : Int32)).toNatClampNeg ((M.1 6 1 (a1 + (4 : Int32)).toNatClampNeg) + (1 : Int32))) rfl rfl rfl (xg_ast0 rfl g2) ?_
  refine xq_blk 2 (pc' := 14) (ls' := [(2, .inl (0 : Int32)), (0, .inr (.inr (14, 6, 0))), (1, .inl a1)]) (st' := []) (M' := xd_up M 6 1 (a1 + (4 : Int32)).toNatClampNeg ((M.1 6 1 (a1 + (4 : Int32)).toNatClampNeg) + (1 : Int32))) rfl ?_
  refine xq_sub (a := [(0, .inr (.inr (14, 6, 0))), (1, .inl a1), (2, .inl (0 : Int32))]) ⟨rfl, rfl, rfl, trivial⟩ rfl ?_
  exact xlp_ok (P := fun s14 => xq X xe 134 14 [(0, .inr (.inr (14, 6, 0))), (1, .inl a1), (2, .inl s14.1)] [] s14.2 r) (fun s p' hb g0 g1 => f_X7_day_l14_ok hb g0 (fun q e => hr q (g1 _ e).symm)) 4000 _ h
theorem f_X7_day_ok {X : List Int32} {a1 : Int32} {M : xM} {p : Int32 × xM} (h : f_X7_day a1 M = some p) : xq X xe 134 0 [(0, .inr (.inr (14, 6, 0))), (1, .inl a1)] [] M ((some (.inl p.1), p.2) : xR) := f_X7_day_run h (fun q e => by rw [e])
