def f_X5_looksAbandoned (a0r : Nat) (a1 : Int32) (M : xM) : Option (Int32) := if xp_in a1 20 = true then (if ((M.1 a0r 0 4) - (M.1 a0r 21 a1.toNatClampNeg)) < (M.1 a0r 1 1) then ((f_X5_isWithoutPermit a0r a1 M).bind (fun q2 => if q2 = (0 : Int32) then (some ((vp_nar .boolean (0 : Int32)))) else (some ((vp_nar .boolean (1 : Int32)))))) else (some ((vp_nar .boolean (1 : Int32))))) else none
theorem f_X5_looksAbandoned_run {X : List Int32} {a0r : Nat} {a1 : Int32} {M : xM} {p : Int32} {r : xR} (h : f_X5_looksAbandoned a0r a1 M = some p) (hr : ∀ q, p = q → ((some (.inl q), M) : xR) = r) : xq X xe 62 0 [(0, .inr (.inr (0, a0r, 0))), (1, .inl a1)] [] M r := by
  unfold f_X5_looksAbandoned at h
  refine xq_blk 6 (pc' := 12) (ls' := [(0, .inr (.inr (0, a0r, 0))), (1, .inl a1)]) (st' := [.inl a1, .inr (.inr (3, a0r, 21)), .inl (M.1 a0r 0 4)]) (M' := M) rfl ?_
  refine xq_guard h (fun g1 h => ?_)
  refine xq_prim (st' := [.inl (M.1 a0r 21 a1.toNatClampNeg), .inl (M.1 a0r 0 4)]) (M' := M) rfl rfl rfl (xg_ald0 rfl g1) ?_
  refine xq_blk 4 (pc' := 19) (ls' := [(0, .inr (.inr (0, a0r, 0))), (1, .inl a1)]) (st' := [.inl (1 : Int32), .inr (.inr (4, a0r, 1)), .inl ((M.1 a0r 0 4) - (M.1 a0r 21 a1.toNatClampNeg))]) (M' := M) rfl ?_
  refine xq_prim (st' := [.inl (M.1 a0r 1 1), .inl ((M.1 a0r 0 4) - (M.1 a0r 21 a1.toNatClampNeg))]) (M' := M) rfl rfl rfl (xg_ald0 rfl rfl) ?_
  refine xq_ite h (fun c5 h => ?_) (fun c5 h => ?_)
  · refine xq_core (pc' := 23) (ls' := [(0, .inr (.inr (0, a0r, 0))), (1, .inl a1)]) (st' := []) rfl (if_pos c5) ?_
    refine xq_blk 2 (pc' := 25) (ls' := [(0, .inr (.inr (0, a0r, 0))), (1, .inl a1)]) (st' := [.inl a1, .inr (.inr (0, a0r, 0))]) (M' := M) rfl ?_
    refine xq_bind h (fun q2 e3 h => ?_)
    refine xq_call (j := 61) (as := [.inr (.inr (0, a0r, 0)), .inl a1]) (pc' := 28) (ls' := [(0, .inr (.inr (0, a0r, 0))), (1, .inl a1)]) (st' := []) rfl rfl (f_X5_isWithoutPermit_ok e3) ?_
    refine xq_ite h (fun c4 h => ?_) (fun c4 h => ?_)
    · refine xq_core (pc' := 35) (ls' := [(0, .inr (.inr (0, a0r, 0))), (1, .inl a1)]) (st' := []) rfl (if_pos c4) ?_
      refine xq_blk 1 (pc' := 36) (ls' := [(0, .inr (.inr (0, a0r, 0))), (1, .inl a1)]) (st' := [.inl (0 : Int32)]) (M' := M) rfl ?_
      exact (hr _ (Option.some.inj h).symm) ▸ xq_ret rfl
    · refine xq_core (pc' := 31) (ls' := [(0, .inr (.inr (0, a0r, 0))), (1, .inl a1)]) (st' := []) rfl (if_neg c4) ?_
      refine xq_blk 2 (pc' := 36) (ls' := [(0, .inr (.inr (0, a0r, 0))), (1, .inl a1)]) (st' := [.inl (1 : Int32)]) (M' := M) rfl ?_
      exact (hr _ (Option.some.inj h).symm) ▸ xq_ret rfl
  · refine xq_core (pc' := 31) (ls' := [(0, .inr (.inr (0, a0r, 0))), (1, .inl a1)]) (st' := []) rfl (if_neg c5) ?_
    refine xq_blk 2 (pc' := 36) (ls' := [(0, .inr (.inr (0, a0r, 0))), (1, .inl a1)]) (st' := [.inl (1 : Int32)]) (M' := M) rfl ?_
    exact (hr _ (Option.some.inj h).symm) ▸ xq_ret rfl
theorem f_X5_looksAbandoned_ok {X : List Int32} {a0r : Nat} {a1 : Int32} {M : xM} {p : Int32} (h : f_X5_looksAbandoned a0r a1 M = some p) : xq X xe 62 0 [(0, .inr (.inr (0, a0r, 0))), (1, .inl a1)] [] M ((some (.inl p), M) : xR) := f_X5_looksAbandoned_run h (fun q e => by rw [e])
def f_X5_latestDueTag (a0r : Nat) (a1 : Int32) (M : xM) : Option (Int32) := some ((((M.1 a0r 0 4) + a1) - (M.1 a0r 1 2)))
theorem f_X5_latestDueTag_run {X : List Int32} {a0r : Nat} {a1 : Int32} {M : xM} {p : Int32} {r : xR} (h : f_X5_latestDueTag a0r a1 M = some p) (hr : ∀ q, p = q → ((some (.inl q), M) : xR) = r) : xq X xe 63 0 [(0, .inr (.inr (0, a0r, 0))), (1, .inl a1)] [] M r := by
  unfold f_X5_latestDueTag at h
  refine xq_blk 7 (pc' := 11) (ls' := [(0, .inr (.inr (0, a0r, 0))), (1, .inl a1)]) (st' := [.inl (2 : Int32), .inr (.inr (4, a0r, 1)), .inl ((M.1 a0r 0 4) + a1)]) (M' := M) rfl ?_
  refine xq_prim (st' := [.inl (M.1 a0r 1 2), .inl ((M.1 a0r 0 4) + a1)]) (M' := M) rfl rfl rfl (xg_ald0 rfl rfl) ?_
  refine xq_blk 1 (pc' := 13) (ls' := [(0, .inr (.inr (0, a0r, 0))), (1, .inl a1)]) (st' := [.inl (((M.1 a0r 0 4) + a1) - (M.1 a0r 1 2))]) (M' := M) rfl ?_
  exact (hr _ (Option.some.inj h).symm) ▸ xq_ret rfl
theorem f_X5_latestDueTag_ok {X : List Int32} {a0r : Nat} {a1 : Int32} {M : xM} {p : Int32} (h : f_X5_latestDueTag a0r a1 M = some p) : xq X xe 63 0 [(0, .inr (.inr (0, a0r, 0))), (1, .inl a1)] [] M ((some (.inl p), M) : xR) := f_X5_latestDueTag_run h (fun q e => by rw [e])
def f_X0_isDue (a0r : Nat) (a1 : Int32) (a2 : Int32) (a3 : Int32) (M : xM) : Option (Int32) := if xp_in a1 20 = true then (if (M.1 a0r 19 a1.toNatClampNeg) = a2 then ((f_X0_isTagged a0r a1 M).bind (fun q2 => if q2 = (0 : Int32) then (some ((vp_nar .boolean (0 : Int32)))) else (if xp_in a1 20 = true then (if a3 < (M.1 a0r 22 a1.toNatClampNeg) then (some ((vp_nar .boolean (0 : Int32)))) else (some ((vp_nar .boolean (1 : Int32))))) else none))) else (some ((vp_nar .boolean (0 : Int32))))) else none
theorem f_X0_isDue_run {X : List Int32} {a0r : Nat} {a1 : Int32} {a2 : Int32} {a3 : Int32} {M : xM} {p : Int32} {r : xR} (h : f_X0_isDue a0r a1 a2 a3 M = some p) (hr : ∀ q, p = q → ((some (.inl q), M) : xR) = r) : xq X xe 9 0 [(0, .inr (.inr (2, a0r, 18))), (1, .inl a1), (2, .inl a2), (3, .inl a3)] [] M r := by
  unfold f_X0_isDue at h
  refine xq_blk 3 (pc' := 5) (ls' := [(0, .inr (.inr (2, a0r, 18))), (1, .inl a1), (2, .inl a2), (3, .inl a3)]) (st' := [.inl a1, .inr (.inr (3, a0r, 19))]) (M' := M) rfl ?_
  refine xq_guard h (fun g1 h => ?_)
  refine xq_prim (st' := [.inl (M.1 a0r 19 a1.toNatClampNeg)]) (M' := M) rfl rfl rfl (xg_ald0 rfl g1) ?_
  refine xq_blk 1 (pc' := 7) (ls' := [(0, .inr (.inr (2, a0r, 18))), (1, .inl a1), (2, .inl a2), (3, .inl a3)]) (st' := [.inl a2, .inl (M.1 a0r 19 a1.toNatClampNeg)]) (M' := M) rfl ?_
  refine xq_ite h (fun c7 h => ?_) (fun c7 h => ?_)
  · refine xq_core (pc' := 10) (ls' := [(0, .inr (.inr (2, a0r, 18))), (1, .inl a1), (2, .inl a2), (3, .inl a3)]) (st' := []) rfl (if_pos c7) ?_
    refine xq_blk 2 (pc' := 12) (ls' := [(0, .inr (.inr (2, a0r, 18))), (1, .inl a1), (2, .inl a2), (3, .inl a3)]) (st' := [.inl a1, .inr (.inr (2, a0r, 18))]) (M' := M) rfl ?_
    refine xq_bind h (fun q2 e3 h => ?_)
    refine xq_call (j := 5) (as := [.inr (.inr (2, a0r, 18)), .inl a1]) (pc' := 15) (ls' := [(0, .inr (.inr (2, a0r, 18))), (1, .inl a1), (2, .inl a2), (3, .inl a3)]) (st' := []) rfl rfl (f_X0_isTagged_ok e3) ?_
    refine xq_ite h (fun c6 h => ?_) (fun c6 h => ?_)
    · refine xq_core (pc' := 32) (ls' := [(0, .inr (.inr (2, a0r, 18))), (1, .inl a1), (2, .inl a2), (3, .inl a3)]) (st' := []) rfl (if_pos c6) ?_
      refine xq_blk 1 (pc' := 33) (ls' := [(0, .inr (.inr (2, a0r, 18))), (1, .inl a1), (2, .inl a2), (3, .inl a3)]) (st' := [.inl (0 : Int32)]) (M' := M) rfl ?_
      exact (hr _ (Option.some.inj h).symm) ▸ xq_ret rfl
    · refine xq_core (pc' := 18) (ls' := [(0, .inr (.inr (2, a0r, 18))), (1, .inl a1), (2, .inl a2), (3, .inl a3)]) (st' := []) rfl (if_neg c6) ?_
      refine xq_blk 3 (pc' := 23) (ls' := [(0, .inr (.inr (2, a0r, 18))), (1, .inl a1), (2, .inl a2), (3, .inl a3)]) (st' := [.inl a1, .inr (.inr (3, a0r, 22))]) (M' := M) rfl ?_
      refine xq_guard h (fun g4 h => ?_)
      refine xq_prim (st' := [.inl (M.1 a0r 22 a1.toNatClampNeg)]) (M' := M) rfl rfl rfl (xg_ald0 rfl g4) ?_
      refine xq_blk 1 (pc' := 25) (ls' := [(0, .inr (.inr (2, a0r, 18))), (1, .inl a1), (2, .inl a2), (3, .inl a3)]) (st' := [.inl a3, .inl (M.1 a0r 22 a1.toNatClampNeg)]) (M' := M) rfl ?_
      refine xq_ite h (fun c5 h => ?_) (fun c5 h => ?_)
      · refine xq_core (pc' := 32) (ls' := [(0, .inr (.inr (2, a0r, 18))), (1, .inl a1), (2, .inl a2), (3, .inl a3)]) (st' := []) rfl (if_pos c5) ?_
        refine xq_blk 1 (pc' := 33) (ls' := [(0, .inr (.inr (2, a0r, 18))), (1, .inl a1), (2, .inl a2), (3, .inl a3)]) (st' := [.inl (0 : Int32)]) (M' := M) rfl ?_
        exact (hr _ (Option.some.inj h).symm) ▸ xq_ret rfl
      · refine xq_core (pc' := 28) (ls' := [(0, .inr (.inr (2, a0r, 18))), (1, .inl a1), (2, .inl a2), (3, .inl a3)]) (st' := []) rfl (if_neg c5) ?_
        refine xq_blk 2 (pc' := 33) (ls' := [(0, .inr (.inr (2, a0r, 18))), (1, .inl a1), (2, .inl a2), (3, .inl a3)]) (st' := [.inl (1 : Int32)]) (M' := M) rfl ?_
        exact (hr _ (Option.some.inj h).symm) ▸ xq_ret rfl
  · refine xq_core (pc' := 32) (ls' := [(0, .inr (.inr (2, a0r, 18))), (1, .inl a1), (2, .inl a2), (3, .inl a3)]) (st' := []) rfl (if_neg c7) ?_
    refine xq_blk 1 (pc' := 33) (ls' := [(0, .inr (.inr (2, a0r, 18))), (1, .inl a1), (2, .inl a2), (3, .inl a3)]) (st' := [.inl (0 : Int32)]) (M' := M) rfl ?_
    exact (hr _ (Option.some.inj h).symm) ▸ xq_ret rfl
theorem f_X0_isDue_ok {X : List Int32} {a0r : Nat} {a1 : Int32} {a2 : Int32} {a3 : Int32} {M : xM} {p : Int32} (h : f_X0_isDue a0r a1 a2 a3 M = some p) : xq X xe 9 0 [(0, .inr (.inr (2, a0r, 18))), (1, .inl a1), (2, .inl a2), (3, .inl a3)] [] M ((some (.inl p), M) : xR) := f_X0_isDue_run h (fun q e => by rw [e])
def f_X0_takeTagged_l6 (k6v0r : Nat) (k6v1 : Int32) (k6v2 : Int32) (k6v3 : Int32) (s6 : Int32 × Int32 × xM) : Option ((Int32 × Int32 × xM) ⊕ (Int32 × xM)) := if s6.2.1 < (20 : Int32) then ((f_X0_isDue k6v0r s6.2.1 k6v1 k6v2 s6.2.2).bind (fun q1 => if q1 = (0 : Int32) then (some (.inl (s6.1, s6.2.1 + (1 : Int32), s6.2.2))) else ((f_X0_leaveRack k6v0r s6.2.1 s6.2.2).bind (fun q3 => if xp_in s6.2.1 20 = true then (some (.inl (s6.1 + (1 : Int32), s6.2.1 + (1 : Int32), xd_up q3 k6v0r 23 s6.2.1.toNatClampNeg k6v3))) else none)))) else (Option.map Sum.inr (some ((s6.1, xd_up s6.2.2 k6v0r 18 6 ((s6.2.2.1 k6v0r 18 6) + s6.1)))))
theorem f_X0_takeTagged_l6_ok {X : List Int32} {k6v0r : Nat} {k6v1 : Int32} {k6v2 : Int32} {k6v3 : Int32} {s6 : Int32 × Int32 × xM} {p : (Int32 × Int32 × xM) ⊕ (Int32 × xM)} {r : xR} (h : f_X0_takeTagged_l6 k6v0r k6v1 k6v2 k6v3 s6 = some p) (h0 : ∀ s', p = .inl s' → xq X xe 11 6 [(0, .inr (.inr (2, k6v0r, 18))), (1, .inl k6v1), (2, .inl k6v2), (3, .inl k6v3), (4, .inl s'.1), (5, .inl s'.2.1)] [] s'.2.2 r) (hr : ∀ q, p = .inr (q) → ((some (.inl q.1), q.2) : xR) = r) : xq X xe 11 6 [(0, .inr (.inr (2, k6v0r, 18))), (1, .inl k6v1), (2, .inl k6v2), (3, .inl k6v3), (4, .inl s6.1), (5, .inl s6.2.1)] [] s6.2.2 r := by
  unfold f_X0_takeTagged_l6 at h
  refine xq_blk 2 (pc' := 10) (ls' := [(0, .inr (.inr (2, k6v0r, 18))), (1, .inl k6v1), (2, .inl k6v2), (3, .inl k6v3), (4, .inl s6.1), (5, .inl s6.2.1)]) (st' := [.inl (20 : Int32), .inl s6.2.1]) (M' := s6.2.2) rfl ?_
  refine xq_ite h (fun c7 h => ?_) (fun c7 h => ?_)
  · refine xq_core (pc' := 13) (ls' := [(0, .inr (.inr (2, k6v0r, 18))), (1, .inl k6v1), (2, .inl k6v2), (3, .inl k6v3), (4, .inl s6.1), (5, .inl s6.2.1)]) (st' := []) rfl (if_pos c7) ?_
    refine xq_blk 4 (pc' := 18) (ls' := [(0, .inr (.inr (2, k6v0r, 18))), (1, .inl k6v1), (2, .inl k6v2), (3, .inl k6v3), (4, .inl s6.1), (5, .inl s6.2.1)]) (st' := [.inl k6v2, .inl k6v1, .inl s6.2.1, .inr (.inr (2, k6v0r, 18))]) (M' := s6.2.2) rfl ?_
    refine xq_bind h (fun q1 e2 h => ?_)
    refine xq_call (j := 9) (as := [.inr (.inr (2, k6v0r, 18)), .inl s6.2.1, .inl k6v1, .inl k6v2]) (pc' := 21) (ls' := [(0, .inr (.inr (2, k6v0r, 18))), (1, .inl k6v1), (2, .inl k6v2), (3, .inl k6v3), (4, .inl s6.1), (5, .inl s6.2.1)]) (st' := []) rfl rfl (f_X0_isDue_ok e2) ?_
    refine xq_ite h (fun c6 h => ?_) (fun c6 h => ?_)
    · refine xq_core (pc' := 41) (ls' := [(0, .inr (.inr (2, k6v0r, 18))), (1, .inl k6v1), (2, .inl k6v2), (3, .inl k6v3), (4, .inl s6.1), (5, .inl s6.2.1)]) (st' := []) rfl (if_pos c6) ?_
      refine xq_blk 2 (pc' := 6) (ls' := [(5, .inl (s6.2.1 + (1 : Int32))), (0, .inr (.inr (2, k6v0r, 18))), (1, .inl k6v1), (2, .inl k6v2), (3, .inl k6v3), (4, .inl s6.1)]) (st' := []) (M' := s6.2.2) rfl ?_
      exact xq_sub (a := [(0, .inr (.inr (2, k6v0r, 18))), (1, .inl k6v1), (2, .inl k6v2), (3, .inl k6v3), (4, .inl ((s6.1, s6.2.1 + (1 : Int32), s6.2.2).1)), (5, .inl ((s6.1, s6.2.1 + (1 : Int32), s6.2.2).2.1))]) ⟨rfl, rfl, rfl, rfl, rfl, rfl, trivial⟩ rfl (h0 (s6.1, s6.2.1 + (1 : Int32), s6.2.2) (Option.some.inj h).symm)
    · refine xq_core (pc' := 24) (ls' := [(0, .inr (.inr (2, k6v0r, 18))), (1, .inl k6v1), (2, .inl k6v2), (3, .inl k6v3), (4, .inl s6.1), (5, .inl s6.2.1)]) (st' := []) rfl (if_neg c6) ?_
      refine xq_blk 2 (pc' := 27) (ls' := [(0, .inr (.inr (2, k6v0r, 18))), (1, .inl k6v1), (2, .inl k6v2), (3, .inl k6v3), (4, .inl s6.1), (5, .inl s6.2.1)]) (st' := [.inl s6.2.1, .inr (.inr (2, k6v0r, 18))]) (M' := s6.2.2) rfl ?_
      refine xq_bind h (fun q3 e4 h => ?_)
      refine xq_call (j := 8) (as := [.inr (.inr (2, k6v0r, 18)), .inl s6.2.1]) (pc' := 30) (ls' := [(0, .inr (.inr (2, k6v0r, 18))), (1, .inl k6v1), (2, .inl k6v2), (3, .inl k6v3), (4, .inl s6.1), (5, .inl s6.2.1)]) (st' := []) rfl rfl (f_X0_leaveRack_ok e4) ?_
      refine xq_blk 4 (pc' := 37) (ls' := [(0, .inr (.inr (2, k6v0r, 18))), (1, .inl k6v1), (2, .inl k6v2), (3, .inl k6v3), (4, .inl s6.1), (5, .inl s6.2.1)]) (st' := [.inl k6v3, .inl s6.2.1, .inr (.inr (3, k6v0r, 23))]) (M' := q3) rfl ?_
      refine xq_guard h (fun g5 h => ?_)
      refine xq_prim (st' := []) (M' := xd_up q3 k6v0r 23 s6.2.1.toNatClampNeg k6v3) rfl rfl rfl (xg_ast0 rfl g5) ?_
      refine xq_blk 3 (pc' := 6) (ls' := [(5, .inl (s6.2.1 + (1 : Int32))), (4, .inl (s6.1 + (1 : Int32))), (0, .inr (.inr (2, k6v0r, 18))), (1, .inl k6v1), (2, .inl k6v2), (3, .inl k6v3)]) (st' := []) (M' := xd_up q3 k6v0r 23 s6.2.1.toNatClampNeg k6v3) rfl ?_
      exact xq_sub (a := [(0, .inr (.inr (2, k6v0r, 18))), (1, .inl k6v1), (2, .inl k6v2), (3, .inl k6v3), (4, .inl ((s6.1 + (1 : Int32), s6.2.1 + (1 : Int32), xd_up q3 k6v0r 23 s6.2.1.toNatClampNeg k6v3).1)), (5, .inl ((s6.1 + (1 : Int32), s6.2.1 + (1 : Int32), xd_up q3 k6v0r 23 s6.2.1.toNatClampNeg k6v3).2.1))]) ⟨rfl, rfl, rfl, rfl, rfl, rfl, trivial⟩ rfl (h0 (s6.1 + (1 : Int32), s6.2.1 + (1 : Int32), xd_up q3 k6v0r 23 s6.2.1.toNatClampNeg k6v3) (Option.some.inj h).symm)
  · refine xq_core (pc' := 47) (ls' := [(0, .inr (.inr (2, k6v0r, 18))), (1, .inl k6v1), (2, .inl k6v2), (3, .inl k6v3), (4, .inl s6.1), (5, .inl s6.2.1)]) (st' := []) rfl (if_neg c7) ?_
    refine xq_map h (fun p h e => ?_)
    replace hr := fun q e' => hr q (e.symm.trans (congrArg Sum.inr e'))
    clear e
    refine xq_blk 7 (pc' := 60) (ls' := [(0, .inr (.inr (2, k6v0r, 18))), (1, .inl k6v1), (2, .inl k6v2), (3, .inl k6v3), (4, .inl s6.1), (5, .inl s6.2.1)]) (st' := [.inl s6.1]) (M' := xd_up s6.2.2 k6v0r 18 6 ((s6.2.2.1 k6v0r 18 6) + s6.1)) rfl ?_
    exact (hr _ (Option.some.inj h).symm) ▸ xq_ret rfl
def f_X0_takeTagged (a0r : Nat) (a1 : Int32) (a2 : Int32) (a3 : Int32) (M : xM) : Option (Int32 × xM) := xlp (f_X0_takeTagged_l6 a0r a1 a2 a3) 4000 ((0 : Int32), (0 : Int32), M)
theorem f_X0_takeTagged_run {X : List Int32} {a0r : Nat} {a1 : Int32} {a2 : Int32} {a3 : Int32} {M : xM} {p : Int32 × xM} {r : xR} (h : f_X0_takeTagged a0r a1 a2 a3 M = some p) (hr : ∀ q, p = q → ((some (.inl q.1), q.2) : xR) = r) : xq X xe 11 0 [(0, .inr (.inr (2, a0r, 18))), (1, .inl a1), (2, .inl a2), (3, .inl a3)] [] M r := by
  unfold f_X0_takeTagged at h
  refine xq_blk 4 (pc' := 6) (ls' := [(5, .inl (0 : Int32)), (4, .inl (0 : Int32)), (0, .inr (.inr (2, a0r, 18))), (1, .inl a1), (2, .inl a2), (3, .inl a3)]) (st' := []) (M' := M) rfl ?_
  refine xq_sub (a := [(0, .inr (.inr (2, a0r, 18))), (1, .inl a1), (2, .inl a2), (3, .inl a3), (4, .inl (0 : Int32)), (5, .inl (0 : Int32))]) ⟨rfl, rfl, rfl, rfl, rfl, rfl, trivial⟩ rfl ?_
  exact xlp_ok (P := fun s6 => xq X xe 11 6 [(0, .inr (.inr (2, a0r, 18))), (1, .inl a1), (2, .inl a2), (3, .inl a3), (4, .inl s6.1), (5, .inl s6.2.1)] [] s6.2.2 r) (fun s p' hb g0 g1 => f_X0_takeTagged_l6_ok hb g0 (fun q e => hr q (g1 _ e).symm)) 4000 _ h
theorem f_X0_takeTagged_ok {X : List Int32} {a0r : Nat} {a1 : Int32} {a2 : Int32} {a3 : Int32} {M : xM} {p : Int32 × xM} (h : f_X0_takeTagged a0r a1 a2 a3 M = some p) : xq X xe 11 0 [(0, .inr (.inr (2, a0r, 18))), (1, .inl a1), (2, .inl a2), (3, .inl a3)] [] M ((some (.inl p.1), p.2) : xR) := f_X0_takeTagged_run h (fun q e => by rw [e])
def f_X5_sweepShed_l11 (k11v0r : Nat) (k11v1 : Int32) (s11 : Int32 × xM) : Option ((Int32 × xM) ⊕ (Int32 × xM)) := if s11.1 < (20 : Int32) then (if xp_in s11.1 20 = true then (if (s11.2.1 k11v0r 19 s11.1.toNatClampNeg) = k11v1 then ((f_X0_isTagged k11v0r s11.1 s11.2).bind (fun q4 => if q4 = (0 : Int32) then ((f_X5_looksAbandoned k11v0r s11.1 s11.2).bind (fun q6 => if q6 = (0 : Int32) then (some (.inl (s11.1 + (1 : Int32), s11.2))) else (if xp_in s11.1 20 = true then (some (.inl (s11.1 + (1 : Int32), xd_up s11.2 k11v0r 22 s11.1.toNatClampNeg (s11.2.1 k11v0r 0 4)))) else none))) else (some (.inl (s11.1 + (1 : Int32), s11.2))))) else (some (.inl (s11.1 + (1 : Int32), s11.2)))) else none) else (Option.map Sum.inr ((f_X5_latestDueTag k11v0r (0 : Int32) s11.2).bind (fun q12 => (f_X0_takeTagged k11v0r k11v1 q12 (s11.2.1 k11v0r 0 4) s11.2).bind (fun q14 => some ((q14.1, q14.2))))))
theorem f_X5_sweepShed_l11_ok {X : List Int32} {k11v0r : Nat} {k11v1 : Int32} {s11 : Int32 × xM} {p : (Int32 × xM) ⊕ (Int32 × xM)} {r : xR} (h : f_X5_sweepShed_l11 k11v0r k11v1 s11 = some p) (h0 : ∀ s', p = .inl s' → xq X xe 64 11 [(0, .inr (.inr (0, k11v0r, 0))), (1, .inl k11v1), (2, .inl s'.1)] [] s'.2 r) (hr : ∀ q, p = .inr (q) → ((some (.inl q.1), q.2) : xR) = r) : xq X xe 64 11 [(0, .inr (.inr (0, k11v0r, 0))), (1, .inl k11v1), (2, .inl s11.1)] [] s11.2 r := by
  unfold f_X5_sweepShed_l11 at h
  refine xq_blk 2 (pc' := 14) (ls' := [(0, .inr (.inr (0, k11v0r, 0))), (1, .inl k11v1), (2, .inl s11.1)]) (st' := [.inl (20 : Int32), .inl s11.1]) (M' := s11.2) rfl ?_
  refine xq_ite h (fun c16 h => ?_) (fun c16 h => ?_)
  · refine xq_core (pc' := 17) (ls' := [(0, .inr (.inr (0, k11v0r, 0))), (1, .inl k11v1), (2, .inl s11.1)]) (st' := []) rfl (if_pos c16) ?_
    refine xq_blk 4 (pc' := 25) (ls' := [(0, .inr (.inr (0, k11v0r, 0))), (1, .inl k11v1), (2, .inl s11.1)]) (st' := [.inl s11.1, .inr (.inr (3, k11v0r, 19))]) (M' := s11.2) rfl ?_
    refine xq_guard h (fun g3 h => ?_)
    refine xq_prim (st' := [.inl (s11.2.1 k11v0r 19 s11.1.toNatClampNeg)]) (M' := s11.2) rfl rfl rfl (xg_ald0 rfl g3) ?_
    refine xq_blk 1 (pc' := 27) (ls' := [(0, .inr (.inr (0, k11v0r, 0))), (1, .inl k11v1), (2, .inl s11.1)]) (st' := [.inl k11v1, .inl (s11.2.1 k11v0r 19 s11.1.toNatClampNeg)]) (M' := s11.2) rfl ?_
    refine xq_ite h (fun c11 h => ?_) (fun c11 h => ?_)
    · refine xq_core (pc' := 30) (ls' := [(0, .inr (.inr (0, k11v0r, 0))), (1, .inl k11v1), (2, .inl s11.1)]) (st' := []) rfl (if_pos c11) ?_
      refine xq_blk 3 (pc' := 35) (ls' := [(0, .inr (.inr (0, k11v0r, 0))), (1, .inl k11v1), (2, .inl s11.1)]) (st' := [.inl s11.1, .inr (.inr (2, k11v0r, 18))]) (M' := s11.2) rfl ?_
      refine xq_bind h (fun q4 e5 h => ?_)
      refine xq_call (j := 5) (as := [.inr (.inr (2, k11v0r, 18)), .inl s11.1]) (pc' := 38) (ls' := [(0, .inr (.inr (0, k11v0r, 0))), (1, .inl k11v1), (2, .inl s11.1)]) (st' := []) rfl rfl (f_X0_isTagged_ok e5) ?_
      refine xq_ite h (fun c10 h => ?_) (fun c10 h => ?_)
      · refine xq_core (pc' := 41) (ls' := [(0, .inr (.inr (0, k11v0r, 0))), (1, .inl k11v1), (2, .inl s11.1)]) (st' := []) rfl (if_pos c10) ?_
        refine xq_blk 2 (pc' := 43) (ls' := [(0, .inr (.inr (0, k11v0r, 0))), (1, .inl k11v1), (2, .inl s11.1)]) (st' := [.inl s11.1, .inr (.inr (0, k11v0r, 0))]) (M' := s11.2) rfl ?_
        refine xq_bind h (fun q6 e7 h => ?_)
        refine xq_call (j := 62) (as := [.inr (.inr (0, k11v0r, 0)), .inl s11.1]) (pc' := 46) (ls' := [(0, .inr (.inr (0, k11v0r, 0))), (1, .inl k11v1), (2, .inl s11.1)]) (st' := []) rfl rfl (f_X5_looksAbandoned_ok e7) ?_
        refine xq_ite h (fun c9 h => ?_) (fun c9 h => ?_)
        · refine xq_core (pc' := 62) (ls' := [(0, .inr (.inr (0, k11v0r, 0))), (1, .inl k11v1), (2, .inl s11.1)]) (st' := []) rfl (if_pos c9) ?_
          refine xq_blk 2 (pc' := 11) (ls' := [(2, .inl (s11.1 + (1 : Int32))), (0, .inr (.inr (0, k11v0r, 0))), (1, .inl k11v1)]) (st' := []) (M' := s11.2) rfl ?_
          exact xq_sub (a := [(0, .inr (.inr (0, k11v0r, 0))), (1, .inl k11v1), (2, .inl ((s11.1 + (1 : Int32), s11.2).1))]) ⟨rfl, rfl, rfl, trivial⟩ rfl (h0 (s11.1 + (1 : Int32), s11.2) (Option.some.inj h).symm)
        · refine xq_core (pc' := 49) (ls' := [(0, .inr (.inr (0, k11v0r, 0))), (1, .inl k11v1), (2, .inl s11.1)]) (st' := []) rfl (if_neg c9) ?_
          refine xq_blk 6 (pc' := 61) (ls' := [(0, .inr (.inr (0, k11v0r, 0))), (1, .inl k11v1), (2, .inl s11.1)]) (st' := [.inl (s11.2.1 k11v0r 0 4), .inl s11.1, .inr (.inr (3, k11v0r, 22))]) (M' := s11.2) rfl ?_
          refine xq_guard h (fun g8 h => ?_)
          refine xq_prim (st' := []) (M' := xd_up s11.2 k11v0r 22 s11.1.toNatClampNeg (s11.2.1 k11v0r 0 4)) rfl rfl rfl (xg_ast0 rfl g8) ?_
          refine xq_blk 2 (pc' := 11) (ls' := [(2, .inl (s11.1 + (1 : Int32))), (0, .inr (.inr (0, k11v0r, 0))), (1, .inl k11v1)]) (st' := []) (M' := xd_up s11.2 k11v0r 22 s11.1.toNatClampNeg (s11.2.1 k11v0r 0 4)) rfl ?_
          exact xq_sub (a := [(0, .inr (.inr (0, k11v0r, 0))), (1, .inl k11v1), (2, .inl ((s11.1 + (1 : Int32), xd_up s11.2 k11v0r 22 s11.1.toNatClampNeg (s11.2.1 k11v0r 0 4)).1))]) ⟨rfl, rfl, rfl, trivial⟩ rfl (h0 (s11.1 + (1 : Int32), xd_up s11.2 k11v0r 22 s11.1.toNatClampNeg (s11.2.1 k11v0r 0 4)) (Option.some.inj h).symm)
      · refine xq_core (pc' := 62) (ls' := [(0, .inr (.inr (0, k11v0r, 0))), (1, .inl k11v1), (2, .inl s11.1)]) (st' := []) rfl (if_neg c10) ?_
        refine xq_blk 2 (pc' := 11) (ls' := [(2, .inl (s11.1 + (1 : Int32))), (0, .inr (.inr (0, k11v0r, 0))), (1, .inl k11v1)]) (st' := []) (M' := s11.2) rfl ?_
        exact xq_sub (a := [(0, .inr (.inr (0, k11v0r, 0))), (1, .inl k11v1), (2, .inl ((s11.1 + (1 : Int32), s11.2).1))]) ⟨rfl, rfl, rfl, trivial⟩ rfl (h0 (s11.1 + (1 : Int32), s11.2) (Option.some.inj h).symm)
    · refine xq_core (pc' := 62) (ls' := [(0, .inr (.inr (0, k11v0r, 0))), (1, .inl k11v1), (2, .inl s11.1)]) (st' := []) rfl (if_neg c11) ?_
      refine xq_blk 2 (pc' := 11) (ls' := [(2, .inl (s11.1 + (1 : Int32))), (0, .inr (.inr (0, k11v0r, 0))), (1, .inl k11v1)]) (st' := []) (M' := s11.2) rfl ?_
      exact xq_sub (a := [(0, .inr (.inr (0, k11v0r, 0))), (1, .inl k11v1), (2, .inl ((s11.1 + (1 : Int32), s11.2).1))]) ⟨rfl, rfl, rfl, trivial⟩ rfl (h0 (s11.1 + (1 : Int32), s11.2) (Option.some.inj h).symm)
  · refine xq_core (pc' := 68) (ls' := [(0, .inr (.inr (0, k11v0r, 0))), (1, .inl k11v1), (2, .inl s11.1)]) (st' := []) rfl (if_neg c16) ?_
    refine xq_map h (fun p h e => ?_)
    replace hr := fun q e' => hr q (e.symm.trans (congrArg Sum.inr e'))
    clear e
    refine xq_blk 5 (pc' := 75) (ls' := [(0, .inr (.inr (0, k11v0r, 0))), (1, .inl k11v1), (2, .inl s11.1)]) (st' := [.inl (0 : Int32), .inr (.inr (0, k11v0r, 0)), .inl k11v1, .inr (.inr (2, k11v0r, 18))]) (M' := s11.2) rfl ?_
    refine xq_bind h (fun q12 e13 h => ?_)
    refine xq_call (j := 63) (as := [.inr (.inr (0, k11v0r, 0)), .inl (0 : Int32)]) (pc' := 78) (ls' := [(0, .inr (.inr (0, k11v0r, 0))), (1, .inl k11v1), (2, .inl s11.1)]) (st' := [.inl k11v1, .inr (.inr (2, k11v0r, 18))]) rfl rfl (f_X5_latestDueTag_ok e13) ?_
    refine xq_blk 2 (pc' := 82) (ls' := [(0, .inr (.inr (0, k11v0r, 0))), (1, .inl k11v1), (2, .inl s11.1)]) (st' := [.inl (s11.2.1 k11v0r 0 4), .inl q12, .inl k11v1, .inr (.inr (2, k11v0r, 18))]) (M' := s11.2) rfl ?_
    refine xq_bind h (fun q14 e15 h => ?_)
    refine xq_call (j := 11) (as := [.inr (.inr (2, k11v0r, 18)), .inl k11v1, .inl q12, .inl (s11.2.1 k11v0r 0 4)]) (pc' := 85) (ls' := [(0, .inr (.inr (0, k11v0r, 0))), (1, .inl k11v1), (2, .inl s11.1)]) (st' := []) rfl rfl (f_X0_takeTagged_ok e15) ?_
    exact (hr _ (Option.some.inj h).symm) ▸ xq_ret rfl
def f_X5_sweepShed (a0r : Nat) (a1 : Int32) (M : xM) : Option (Int32 × xM) := (f_X6_isShed a1 M).bind (fun q1 => if q1 = (0 : Int32) then (some (((-1 : Int32), M))) else (xlp (f_X5_sweepShed_l11 a0r a1) 4000 ((0 : Int32), M)))
theorem f_X5_sweepShed_run {X : List Int32} {a0r : Nat} {a1 : Int32} {M : xM} {p : Int32 × xM} {r : xR} (h : f_X5_sweepShed a0r a1 M = some p) (hr : ∀ q, p = q → ((some (.inl q.1), q.2) : xR) = r) : xq X xe 64 0 [(0, .inr (.inr (0, a0r, 0))), (1, .inl a1)] [] M r := by
  unfold f_X5_sweepShed at h
  refine xq_blk 1 (pc' := 1) (ls' := [(0, .inr (.inr (0, a0r, 0))), (1, .inl a1)]) (st' := [.inl a1]) (M' := M) rfl ?_
  refine xq_bind h (fun q1 e2 h => ?_)
  refine xq_call (j := 31) (as := [.inl a1]) (pc' := 4) (ls' := [(0, .inr (.inr (0, a0r, 0))), (1, .inl a1)]) (st' := []) rfl rfl (f_X6_isShed_ok e2) ?_
  refine xq_ite h (fun c17 h => ?_) (fun c17 h => ?_)
  · refine xq_core (pc' := 7) (ls' := [(0, .inr (.inr (0, a0r, 0))), (1, .inl a1)]) (st' := []) rfl (if_pos c17) ?_
    refine xq_blk 1 (pc' := 8) (ls' := [(0, .inr (.inr (0, a0r, 0))), (1, .inl a1)]) (st' := [.inl (-1 : Int32)]) (M' := M) rfl ?_
    exact (hr _ (Option.some.inj h).symm) ▸ xq_ret rfl
  · refine xq_core (pc' := 9) (ls' := [(0, .inr (.inr (0, a0r, 0))), (1, .inl a1)]) (st' := []) rfl (if_neg c17) ?_
    refine xq_blk 2 (pc' := 11) (ls' := [(2, .inl (0 : Int32)), (0, .inr (.inr (0, a0r, 0))), (1, .inl a1)]) (st' := []) (M' := M) rfl ?_
    refine xq_sub (a := [(0, .inr (.inr (0, a0r, 0))), (1, .inl a1), (2, .inl (0 : Int32))]) ⟨rfl, rfl, rfl, trivial⟩ rfl ?_
    exact xlp_ok (P := fun s11 => xq X xe 64 11 [(0, .inr (.inr (0, a0r, 0))), (1, .inl a1), (2, .inl s11.1)] [] s11.2 r) (fun s p' hb g0 g1 => f_X5_sweepShed_l11_ok hb g0 (fun q e => hr q (g1 _ e).symm)) 4000 _ h
theorem f_X5_sweepShed_ok {X : List Int32} {a0r : Nat} {a1 : Int32} {M : xM} {p : Int32 × xM} (h : f_X5_sweepShed a0r a1 M = some p) : xq X xe 64 0 [(0, .inr (.inr (0, a0r, 0))), (1, .inl a1)] [] M ((some (.inl p.1), p.2) : xR) := f_X5_sweepShed_run h (fun q e => by rw [e])
def f_X6_sweep (a1 : Int32) (M : xM) : Option (Int32 × xM) := (f_X5_sweepShed 2 a1 (xe_cp 3 2 M)).bind (fun q1 => (f_X6_recorded q1.1 q1.2).bind (fun q3 => some ((q3.1, q3.2))))
theorem f_X6_sweep_run {X : List Int32} {a1 : Int32} {M : xM} {p : Int32 × xM} {r : xR} (h : f_X6_sweep a1 M = some p) (hr : ∀ q, p = q → ((some (.inl q.1), q.2) : xR) = r) : xq X xe 84 0 [(0, .inr (.inr (7, 5, 0))), (1, .inl a1)] [] M r := by
  unfold f_X6_sweep at h
  refine xq_blk 4 (pc' := 8) (ls' := [(0, .inr (.inr (7, 5, 0))), (1, .inl a1)]) (st' := [.inr (.inr (0, 2, 0)), .inr (.inr (0, 3, 0))]) (M' := M) rfl ?_
  refine xq_ext (j := 27) (as := [.inr (.inr (0, 3, 0)), .inr (.inr (0, 2, 0))]) (pc' := 11) (ls' := [(0, .inr (.inr (7, 5, 0))), (1, .inl a1)]) (st' := []) (q := (none, xe_cp 3 2 M)) rfl rfl rfl ?_
  refine xq_blk 4 (pc' := 17) (ls' := [(0, .inr (.inr (7, 5, 0))), (1, .inl a1)]) (st' := [.inl a1, .inr (.inr (0, 2, 0)), .inr (.inr (7, 5, 0))]) (M' := xe_cp 3 2 M) rfl ?_
  refine xq_bind h (fun q1 e2 h => ?_)
  refine xq_call (j := 64) (as := [.inr (.inr (0, 2, 0)), .inl a1]) (pc' := 20) (ls' := [(0, .inr (.inr (7, 5, 0))), (1, .inl a1)]) (st' := [.inr (.inr (7, 5, 0))]) rfl rfl (f_X5_sweepShed_ok e2) ?_
  refine xq_bind h (fun q3 e4 h => ?_)
  refine xq_call (j := 75) (as := [.inr (.inr (7, 5, 0)), .inl q1.1]) (pc' := 23) (ls' := [(0, .inr (.inr (7, 5, 0))), (1, .inl a1)]) (st' := []) rfl rfl (f_X6_recorded_ok e4) ?_
  exact (hr _ (Option.some.inj h).symm) ▸ xq_ret rfl
theorem f_X6_sweep_ok {X : List Int32} {a1 : Int32} {M : xM} {p : Int32 × xM} (h : f_X6_sweep a1 M = some p) : xq X xe 84 0 [(0, .inr (.inr (7, 5, 0))), (1, .inl a1)] [] M ((some (.inl p.1), p.2) : xR) := f_X6_sweep_run h (fun q e => by rw [e])
def f_X6_isRack (a0 : Int32) (M : xM) : Option (Int32) := if a0 < (0 : Int32) then (some ((vp_nar .boolean (0 : Int32)))) else (if a0 < (8 : Int32) then (some ((vp_nar .boolean (1 : Int32)))) else (some ((vp_nar .boolean (0 : Int32)))))
theorem f_X6_isRack_run {X : List Int32} {a0 : Int32} {M : xM} {p : Int32} {r : xR} (h : f_X6_isRack a0 M = some p) (hr : ∀ q, p = q → ((some (.inl q), M) : xR) = r) : xq X xe 65 0 [(0, .inl a0)] [] M r := by
  unfold f_X6_isRack at h
  refine xq_blk 2 (pc' := 2) (ls' := [(0, .inl a0)]) (st' := [.inl a0, .inl (0 : Int32)]) (M' := M) rfl ?_
  refine xq_ite h (fun c2 h => ?_) (fun c2 h => ?_)
  · refine xq_core (pc' := 15) (ls' := [(0, .inl a0)]) (st' := []) rfl (if_pos c2) ?_
    refine xq_blk 1 (pc' := 16) (ls' := [(0, .inl a0)]) (st' := [.inl (0 : Int32)]) (M' := M) rfl ?_
    exact (hr _ (Option.some.inj h).symm) ▸ xq_ret rfl
  · refine xq_core (pc' := 5) (ls' := [(0, .inl a0)]) (st' := []) rfl (if_neg c2) ?_
    refine xq_blk 2 (pc' := 8) (ls' := [(0, .inl a0)]) (st' := [.inl (8 : Int32), .inl a0]) (M' := M) rfl ?_
    refine xq_ite h (fun c1 h => ?_) (fun c1 h => ?_)
    · refine xq_core (pc' := 11) (ls' := [(0, .inl a0)]) (st' := []) rfl (if_pos c1) ?_
      refine xq_blk 2 (pc' := 16) (ls' := [(0, .inl a0)]) (st' := [.inl (1 : Int32)]) (M' := M) rfl ?_
      exact (hr _ (Option.some.inj h).symm) ▸ xq_ret rfl
    · refine xq_core (pc' := 15) (ls' := [(0, .inl a0)]) (st' := []) rfl (if_neg c1) ?_
      refine xq_blk 1 (pc' := 16) (ls' := [(0, .inl a0)]) (st' := [.inl (0 : Int32)]) (M' := M) rfl ?_
      exact (hr _ (Option.some.inj h).symm) ▸ xq_ret rfl
theorem f_X6_isRack_ok {X : List Int32} {a0 : Int32} {M : xM} {p : Int32} (h : f_X6_isRack a0 M = some p) : xq X xe 65 0 [(0, .inl a0)] [] M ((some (.inl p), M) : xR) := f_X6_isRack_run h (fun q e => by rw [e])
def f_X5_changeUse_j35 (v0r : Nat) (v1 : Int32) (v2 : Int32) (v3 : Int32) (t0 : Int32) (M : xM) : Option (Int32 × xM) := if t0 = v3 then (some (((-5 : Int32), M))) else (if xp_in v1 3 = true then (if xp_in v1 3 = true then ((f_X5_moveUp v0r (xd_up M v0r 2 v1.toNatClampNeg ((M.1 v0r 2 v1.toNatClampNeg) ^^^ ((1 : Int32) <<< (v2 &&& (31 : Int32)))))).bind (fun q8 => if xp_in v1 3 = true then ((f_J6_bitCount_0f7a4 (q8.1 v0r 2 v1.toNatClampNeg) q8).bind (fun q11 => some ((q11, q8)))) else none)) else none) else none)
theorem f_X5_changeUse_j35_ok {X : List Int32} {v0r : Nat} {v1 : Int32} {v2 : Int32} {v3 : Int32} {t0 : Int32} {M : xM} {p : Int32 × xM} {r : xR} (h : f_X5_changeUse_j35 v0r v1 v2 v3 t0 M = some p) (hr : ∀ q, p = q → ((some (.inl q.1), q.2) : xR) = r) : xq X xe 66 35 [(0, .inr (.inr (0, v0r, 0))), (1, .inl v1), (2, .inl v2), (3, .inl v3)] [.inl t0] M r := by
  unfold f_X5_changeUse_j35 at h
  refine xq_blk 3 (pc' := 40) (ls' := [(4, .inl t0), (0, .inr (.inr (0, v0r, 0))), (1, .inl v1), (2, .inl v2), (3, .inl v3)]) (st' := [.inl v3, .inl t0]) (M' := M) rfl ?_
  refine xq_ite h (fun c13 h => ?_) (fun c13 h => ?_)
  · refine xq_core (pc' := 43) (ls' := [(4, .inl t0), (0, .inr (.inr (0, v0r, 0))), (1, .inl v1), (2, .inl v2), (3, .inl v3)]) (st' := []) rfl (if_pos c13) ?_
    refine xq_blk 1 (pc' := 45) (ls' := [(4, .inl t0), (0, .inr (.inr (0, v0r, 0))), (1, .inl v1), (2, .inl v2), (3, .inl v3)]) (st' := [.inl (-5 : Int32)]) (M' := M) rfl ?_
    exact (hr _ (Option.some.inj h).symm) ▸ xq_ret rfl
  · refine xq_core (pc' := 46) (ls' := [(4, .inl t0), (0, .inr (.inr (0, v0r, 0))), (1, .inl v1), (2, .inl v2), (3, .inl v3)]) (st' := []) rfl (if_neg c13) ?_
    refine xq_blk 4 (pc' := 52) (ls' := [(4, .inl t0), (0, .inr (.inr (0, v0r, 0))), (1, .inl v1), (2, .inl v2), (3, .inl v3)]) (st' := [.inl v1, .inr (.inr (5, v0r, 2)), .inl v1, .inr (.inr (5, v0r, 2))]) (M' := M) rfl ?_
    refine xq_guard h (fun g6 h => ?_)
    refine xq_prim (st' := [.inl (M.1 v0r 2 v1.toNatClampNeg), .inl v1, .inr (.inr (5, v0r, 2))]) (M' := M) rfl rfl rfl (xg_ald0 rfl g6) ?_
    refine xq_blk 4 (pc' := 57) (ls' := [(4, .inl t0), (0, .inr (.inr (0, v0r, 0))), (1, .inl v1), (2, .inl v2), (3, .inl v3)]) (st' := [.inl ((M.1 v0r 2 v1.toNatClampNeg) ^^^ ((1 : Int32) <<< (v2 &&& (31 : Int32)))), .inl v1, .inr (.inr (5, v0r, 2))]) (M' := M) rfl ?_
    refine xq_guard h (fun g7 h => ?_)
    refine xq_prim (st' := []) (M' := xd_up M v0r 2 v1.toNatClampNeg ((M.1 v0r 2 v1.toNatClampNeg) ^^^ ((1 : Int32) <<< (v2 &&& (31 : Int32))))) rfl rfl rfl (xg_ast0 rfl g7) ?_
    refine xq_blk 1 (pc' := 59) (ls' := [(4, .inl t0), (0, .inr (.inr (0, v0r, 0))), (1, .inl v1), (2, .inl v2), (3, .inl v3)]) (st' := [.inr (.inr (0, v0r, 0))]) (M' := xd_up M v0r 2 v1.toNatClampNeg ((M.1 v0r 2 v1.toNatClampNeg) ^^^ ((1 : Int32) <<< (v2 &&& (31 : Int32))))) rfl ?_
    refine xq_bind h (fun q8 e9 h => ?_)
    refine xq_call (j := 51) (as := [.inr (.inr (0, v0r, 0))]) (pc' := 62) (ls' := [(4, .inl t0), (0, .inr (.inr (0, v0r, 0))), (1, .inl v1), (2, .inl v2), (3, .inl v3)]) (st' := []) rfl rfl (f_X5_moveUp_ok e9) ?_
    refine xq_blk 3 (pc' := 67) (ls' := [(4, .inl t0), (0, .inr (.inr (0, v0r, 0))), (1, .inl v1), (2, .inl v2), (3, .inl v3)]) (st' := [.inl v1, .inr (.inr (5, v0r, 2))]) (M' := q8) rfl ?_
    refine xq_guard h (fun g10 h => ?_)
    refine xq_prim (st' := [.inl (q8.1 v0r 2 v1.toNatClampNeg)]) (M' := q8) rfl rfl rfl (xg_ald0 rfl g10) ?_
    refine xq_bind h (fun q11 e12 h => ?_)
    refine xq_call (j := 49) (as := [.inl (q8.1 v0r 2 v1.toNatClampNeg)]) (pc' := 71) (ls' := [(4, .inl t0), (0, .inr (.inr (0, v0r, 0))), (1, .inl v1), (2, .inl v2), (3, .inl v3)]) (st' := []) rfl rfl (f_J6_bitCount_0f7a4_ok e12) ?_
    exact (hr _ (Option.some.inj h).symm) ▸ xq_ret rfl
def f_X5_changeUse (a0r : Nat) (a1 : Int32) (a2 : Int32) (a3 : Int32) (M : xM) : Option (Int32 × xM) := (f_X6_isShed a1 M).bind (fun q1 => if q1 = (0 : Int32) then (some (((-1 : Int32), M))) else ((f_X6_isRack a2 M).bind (fun q3 => if q3 = (0 : Int32) then (some (((-1 : Int32), M))) else (if xp_in a1 3 = true then (if (((M.1 a0r 2 a1.toNatClampNeg) >>> (a2 &&& (31 : Int32))) &&& (1 : Int32)) = (1 : Int32) then (f_X5_changeUse_j35 a0r a1 a2 a3 (1 : Int32) M) else (f_X5_changeUse_j35 a0r a1 a2 a3 (0 : Int32) M)) else none))))
theorem f_X5_changeUse_run {X : List Int32} {a0r : Nat} {a1 : Int32} {a2 : Int32} {a3 : Int32} {M : xM} {p : Int32 × xM} {r : xR} (h : f_X5_changeUse a0r a1 a2 a3 M = some p) (hr : ∀ q, p = q → ((some (.inl q.1), q.2) : xR) = r) : xq X xe 66 0 [(0, .inr (.inr (0, a0r, 0))), (1, .inl a1), (2, .inl a2), (3, .inl a3)] [] M r := by
  unfold f_X5_changeUse at h
  refine xq_blk 1 (pc' := 1) (ls' := [(0, .inr (.inr (0, a0r, 0))), (1, .inl a1), (2, .inl a2), (3, .inl a3)]) (st' := [.inl a1]) (M' := M) rfl ?_
  refine xq_bind h (fun q1 e2 h => ?_)
  refine xq_call (j := 31) (as := [.inl a1]) (pc' := 4) (ls' := [(0, .inr (.inr (0, a0r, 0))), (1, .inl a1), (2, .inl a2), (3, .inl a3)]) (st' := []) rfl rfl (f_X6_isShed_ok e2) ?_
  refine xq_ite h (fun c16 h => ?_) (fun c16 h => ?_)
  · refine xq_core (pc' := 14) (ls' := [(0, .inr (.inr (0, a0r, 0))), (1, .inl a1), (2, .inl a2), (3, .inl a3)]) (st' := []) rfl (if_pos c16) ?_
    refine xq_blk 1 (pc' := 15) (ls' := [(0, .inr (.inr (0, a0r, 0))), (1, .inl a1), (2, .inl a2), (3, .inl a3)]) (st' := [.inl (-1 : Int32)]) (M' := M) rfl ?_
    exact (hr _ (Option.some.inj h).symm) ▸ xq_ret rfl
  · refine xq_core (pc' := 7) (ls' := [(0, .inr (.inr (0, a0r, 0))), (1, .inl a1), (2, .inl a2), (3, .inl a3)]) (st' := []) rfl (if_neg c16) ?_
    refine xq_blk 1 (pc' := 8) (ls' := [(0, .inr (.inr (0, a0r, 0))), (1, .inl a1), (2, .inl a2), (3, .inl a3)]) (st' := [.inl a2]) (M' := M) rfl ?_
    refine xq_bind h (fun q3 e4 h => ?_)
    refine xq_call (j := 65) (as := [.inl a2]) (pc' := 11) (ls' := [(0, .inr (.inr (0, a0r, 0))), (1, .inl a1), (2, .inl a2), (3, .inl a3)]) (st' := []) rfl rfl (f_X6_isRack_ok e4) ?_
    refine xq_ite h (fun c15 h => ?_) (fun c15 h => ?_)
    · refine xq_core (pc' := 14) (ls' := [(0, .inr (.inr (0, a0r, 0))), (1, .inl a1), (2, .inl a2), (3, .inl a3)]) (st' := []) rfl (if_pos c15) ?_
      refine xq_blk 1 (pc' := 15) (ls' := [(0, .inr (.inr (0, a0r, 0))), (1, .inl a1), (2, .inl a2), (3, .inl a3)]) (st' := [.inl (-1 : Int32)]) (M' := M) rfl ?_
      exact (hr _ (Option.some.inj h).symm) ▸ xq_ret rfl
    · refine xq_core (pc' := 16) (ls' := [(0, .inr (.inr (0, a0r, 0))), (1, .inl a1), (2, .inl a2), (3, .inl a3)]) (st' := []) rfl (if_neg c15) ?_
      refine xq_blk 3 (pc' := 21) (ls' := [(0, .inr (.inr (0, a0r, 0))), (1, .inl a1), (2, .inl a2), (3, .inl a3)]) (st' := [.inl a1, .inr (.inr (5, a0r, 2))]) (M' := M) rfl ?_
      refine xq_guard h (fun g5 h => ?_)
      refine xq_prim (st' := [.inl (M.1 a0r 2 a1.toNatClampNeg)]) (M' := M) rfl rfl rfl (xg_ald0 rfl g5) ?_
      refine xq_blk 5 (pc' := 27) (ls' := [(0, .inr (.inr (0, a0r, 0))), (1, .inl a1), (2, .inl a2), (3, .inl a3)]) (st' := [.inl (1 : Int32), .inl (((M.1 a0r 2 a1.toNatClampNeg) >>> (a2 &&& (31 : Int32))) &&& (1 : Int32))]) (M' := M) rfl ?_
      refine xq_ite h (fun c14 h => ?_) (fun c14 h => ?_)
      · refine xq_core (pc' := 30) (ls' := [(0, .inr (.inr (0, a0r, 0))), (1, .inl a1), (2, .inl a2), (3, .inl a3)]) (st' := []) rfl (if_pos c14) ?_
        refine xq_blk 2 (pc' := 35) (ls' := [(0, .inr (.inr (0, a0r, 0))), (1, .inl a1), (2, .inl a2), (3, .inl a3)]) (st' := [.inl (1 : Int32)]) (M' := M) rfl ?_
        exact xq_sub (a := [(0, .inr (.inr (0, a0r, 0))), (1, .inl a1), (2, .inl a2), (3, .inl a3)]) ⟨rfl, rfl, rfl, rfl, trivial⟩ rfl (f_X5_changeUse_j35_ok h hr)
      · refine xq_core (pc' := 34) (ls' := [(0, .inr (.inr (0, a0r, 0))), (1, .inl a1), (2, .inl a2), (3, .inl a3)]) (st' := []) rfl (if_neg c14) ?_
        refine xq_blk 1 (pc' := 35) (ls' := [(0, .inr (.inr (0, a0r, 0))), (1, .inl a1), (2, .inl a2), (3, .inl a3)]) (st' := [.inl (0 : Int32)]) (M' := M) rfl ?_
        exact xq_sub (a := [(0, .inr (.inr (0, a0r, 0))), (1, .inl a1), (2, .inl a2), (3, .inl a3)]) ⟨rfl, rfl, rfl, rfl, trivial⟩ rfl (f_X5_changeUse_j35_ok h hr)
theorem f_X5_changeUse_ok {X : List Int32} {a0r : Nat} {a1 : Int32} {a2 : Int32} {a3 : Int32} {M : xM} {p : Int32 × xM} (h : f_X5_changeUse a0r a1 a2 a3 M = some p) : xq X xe 66 0 [(0, .inr (.inr (0, a0r, 0))), (1, .inl a1), (2, .inl a2), (3, .inl a3)] [] M ((some (.inl p.1), p.2) : xR) := f_X5_changeUse_run h (fun q e => by rw [e])
def f_X6_use (a1 : Int32) (a2 : Int32) (a3 : Int32) (M : xM) : Option (Int32 × xM) := (f_X5_changeUse 2 a1 a2 a3 (xe_cp 3 2 M)).bind (fun q1 => (f_X6_recorded q1.1 q1.2).bind (fun q3 => some ((q3.1, q3.2))))
theorem f_X6_use_run {X : List Int32} {a1 : Int32} {a2 : Int32} {a3 : Int32} {M : xM} {p : Int32 × xM} {r : xR} (h : f_X6_use a1 a2 a3 M = some p) (hr : ∀ q, p = q → ((some (.inl q.1), q.2) : xR) = r) : xq X xe 85 0 [(0, .inr (.inr (7, 5, 0))), (1, .inl a1), (2, .inl a2), (3, .inl a3)] [] M r := by
  unfold f_X6_use at h
  refine xq_blk 4 (pc' := 8) (ls' := [(0, .inr (.inr (7, 5, 0))), (1, .inl a1), (2, .inl a2), (3, .inl a3)]) (st' := [.inr (.inr (0, 2, 0)), .inr (.inr (0, 3, 0))]) (M' := M) rfl ?_
  refine xq_ext (j := 27) (as := [.inr (.inr (0, 3, 0)), .inr (.inr (0, 2, 0))]) (pc' := 11) (ls' := [(0, .inr (.inr (7, 5, 0))), (1, .inl a1), (2, .inl a2), (3, .inl a3)]) (st' := []) (q := (none, xe_cp 3 2 M)) rfl rfl rfl ?_
  refine xq_blk 6 (pc' := 19) (ls' := [(0, .inr (.inr (7, 5, 0))), (1, .inl a1), (2, .inl a2), (3, .inl a3)]) (st' := [.inl a3, .inl a2, .inl a1, .inr (.inr (0, 2, 0)), .inr (.inr (7, 5, 0))]) (M' := xe_cp 3 2 M) rfl ?_
  refine xq_bind h (fun q1 e2 h => ?_)
  refine xq_call (j := 66) (as := [.inr (.inr (0, 2, 0)), .inl a1, .inl a2, .inl a3]) (pc' := 22) (ls' := [(0, .inr (.inr (7, 5, 0))), (1, .inl a1), (2, .inl a2), (3, .inl a3)]) (st' := [.inr (.inr (7, 5, 0))]) rfl rfl (f_X5_changeUse_ok e2) ?_
  refine xq_bind h (fun q3 e4 h => ?_)
  refine xq_call (j := 75) (as := [.inr (.inr (7, 5, 0)), .inl q1.1]) (pc' := 25) (ls' := [(0, .inr (.inr (7, 5, 0))), (1, .inl a1), (2, .inl a2), (3, .inl a3)]) (st' := []) rfl rfl (f_X6_recorded_ok e4) ?_
  exact (hr _ (Option.some.inj h).symm) ▸ xq_ret rfl
theorem f_X6_use_ok {X : List Int32} {a1 : Int32} {a2 : Int32} {a3 : Int32} {M : xM} {p : Int32 × xM} (h : f_X6_use a1 a2 a3 M = some p) : xq X xe 85 0 [(0, .inr (.inr (7, 5, 0))), (1, .inl a1), (2, .inl a2), (3, .inl a3)] [] M ((some (.inl p.1), p.2) : xR) := f_X6_use_run h (fun q e => by rw [e])
def f_X4_endBefore_l2 (k2v0r : Nat) (k2v1 : Int32) (s2 : Int32 × xM) : Option ((Int32 × xM) ⊕ (xM)) := if s2.1 < (20 : Int32) then ((f_X4_hasPermit k2v0r s2.1 s2.2).bind (fun q1 => if q1 = (0 : Int32) then (some (.inl (s2.1 + (1 : Int32), s2.2))) else (if xp_in s2.1 20 = true then (if (s2.2.1 k2v0r 5 s2.1.toNatClampNeg) < k2v1 then ((f_X4_end k2v0r s2.1 s2.2).bind (fun q4 => some (.inl (s2.1 + (1 : Int32), q4)))) else (some (.inl (s2.1 + (1 : Int32), s2.2)))) else none))) else (Option.map Sum.inr (some (s2.2)))
theorem f_X4_endBefore_l2_ok {X : List Int32} {k2v0r : Nat} {k2v1 : Int32} {s2 : Int32 × xM} {p : (Int32 × xM) ⊕ (xM)} {r : xR} (h : f_X4_endBefore_l2 k2v0r k2v1 s2 = some p) (h0 : ∀ s', p = .inl s' → xq X xe 43 2 [(0, .inr (.inr (1, k2v0r, 3))), (1, .inl k2v1), (2, .inl s'.1)] [] s'.2 r) (hr : ∀ q, p = .inr (q) → ((none, q) : xR) = r) : xq X xe 43 2 [(0, .inr (.inr (1, k2v0r, 3))), (1, .inl k2v1), (2, .inl s2.1)] [] s2.2 r := by
  unfold f_X4_endBefore_l2 at h
  refine xq_blk 2 (pc' := 5) (ls' := [(0, .inr (.inr (1, k2v0r, 3))), (1, .inl k2v1), (2, .inl s2.1)]) (st' := [.inl (20 : Int32), .inl s2.1]) (M' := s2.2) rfl ?_
  refine xq_ite h (fun c8 h => ?_) (fun c8 h => ?_)
  · refine xq_core (pc' := 8) (ls' := [(0, .inr (.inr (1, k2v0r, 3))), (1, .inl k2v1), (2, .inl s2.1)]) (st' := []) rfl (if_pos c8) ?_
    refine xq_blk 2 (pc' := 10) (ls' := [(0, .inr (.inr (1, k2v0r, 3))), (1, .inl k2v1), (2, .inl s2.1)]) (st' := [.inl s2.1, .inr (.inr (1, k2v0r, 3))]) (M' := s2.2) rfl ?_
    refine xq_bind h (fun q1 e2 h => ?_)
    refine xq_call (j := 32) (as := [.inr (.inr (1, k2v0r, 3)), .inl s2.1]) (pc' := 13) (ls' := [(0, .inr (.inr (1, k2v0r, 3))), (1, .inl k2v1), (2, .inl s2.1)]) (st' := []) rfl rfl (f_X4_hasPermit_ok e2) ?_
    refine xq_ite h (fun c7 h => ?_) (fun c7 h => ?_)
    · refine xq_core (pc' := 31) (ls' := [(0, .inr (.inr (1, k2v0r, 3))), (1, .inl k2v1), (2, .inl s2.1)]) (st' := []) rfl (if_pos c7) ?_
      refine xq_blk 2 (pc' := 2) (ls' := [(2, .inl (s2.1 + (1 : Int32))), (0, .inr (.inr (1, k2v0r, 3))), (1, .inl k2v1)]) (st' := []) (M' := s2.2) rfl ?_
      exact xq_sub (a := [(0, .inr (.inr (1, k2v0r, 3))), (1, .inl k2v1), (2, .inl ((s2.1 + (1 : Int32), s2.2).1))]) ⟨rfl, rfl, rfl, trivial⟩ rfl (h0 (s2.1 + (1 : Int32), s2.2) (Option.some.inj h).symm)
    · refine xq_core (pc' := 16) (ls' := [(0, .inr (.inr (1, k2v0r, 3))), (1, .inl k2v1), (2, .inl s2.1)]) (st' := []) rfl (if_neg c7) ?_
      refine xq_blk 3 (pc' := 21) (ls' := [(0, .inr (.inr (1, k2v0r, 3))), (1, .inl k2v1), (2, .inl s2.1)]) (st' := [.inl s2.1, .inr (.inr (3, k2v0r, 5))]) (M' := s2.2) rfl ?_
      refine xq_guard h (fun g3 h => ?_)
      refine xq_prim (st' := [.inl (s2.2.1 k2v0r 5 s2.1.toNatClampNeg)]) (M' := s2.2) rfl rfl rfl (xg_ald0 rfl g3) ?_
      refine xq_blk 1 (pc' := 23) (ls' := [(0, .inr (.inr (1, k2v0r, 3))), (1, .inl k2v1), (2, .inl s2.1)]) (st' := [.inl k2v1, .inl (s2.2.1 k2v0r 5 s2.1.toNatClampNeg)]) (M' := s2.2) rfl ?_
      refine xq_ite h (fun c6 h => ?_) (fun c6 h => ?_)
      · refine xq_core (pc' := 26) (ls' := [(0, .inr (.inr (1, k2v0r, 3))), (1, .inl k2v1), (2, .inl s2.1)]) (st' := []) rfl (if_pos c6) ?_
        refine xq_blk 2 (pc' := 28) (ls' := [(0, .inr (.inr (1, k2v0r, 3))), (1, .inl k2v1), (2, .inl s2.1)]) (st' := [.inl s2.1, .inr (.inr (1, k2v0r, 3))]) (M' := s2.2) rfl ?_
        refine xq_bind h (fun q4 e5 h => ?_)
        refine xq_call (j := 42) (as := [.inr (.inr (1, k2v0r, 3)), .inl s2.1]) (pc' := 31) (ls' := [(0, .inr (.inr (1, k2v0r, 3))), (1, .inl k2v1), (2, .inl s2.1)]) (st' := []) rfl rfl (f_X4_end_ok e5) ?_
        refine xq_blk 2 (pc' := 2) (ls' := [(2, .inl (s2.1 + (1 : Int32))), (0, .inr (.inr (1, k2v0r, 3))), (1, .inl k2v1)]) (st' := []) (M' := q4) rfl ?_
        exact xq_sub (a := [(0, .inr (.inr (1, k2v0r, 3))), (1, .inl k2v1), (2, .inl ((s2.1 + (1 : Int32), q4).1))]) ⟨rfl, rfl, rfl, trivial⟩ rfl (h0 (s2.1 + (1 : Int32), q4) (Option.some.inj h).symm)
      · refine xq_core (pc' := 31) (ls' := [(0, .inr (.inr (1, k2v0r, 3))), (1, .inl k2v1), (2, .inl s2.1)]) (st' := []) rfl (if_neg c6) ?_
        refine xq_blk 2 (pc' := 2) (ls' := [(2, .inl (s2.1 + (1 : Int32))), (0, .inr (.inr (1, k2v0r, 3))), (1, .inl k2v1)]) (st' := []) (M' := s2.2) rfl ?_
        exact xq_sub (a := [(0, .inr (.inr (1, k2v0r, 3))), (1, .inl k2v1), (2, .inl ((s2.1 + (1 : Int32), s2.2).1))]) ⟨rfl, rfl, rfl, trivial⟩ rfl (h0 (s2.1 + (1 : Int32), s2.2) (Option.some.inj h).symm)
  · refine xq_core (pc' := 37) (ls' := [(0, .inr (.inr (1, k2v0r, 3))), (1, .inl k2v1), (2, .inl s2.1)]) (st' := []) rfl (if_neg c8) ?_
    refine xq_map h (fun p h e => ?_)
    replace hr := fun q e' => hr q (e.symm.trans (congrArg Sum.inr e'))
    clear e
    exact (hr _ (Option.some.inj h).symm) ▸ xq_ret rfl
def f_X4_endBefore (a0r : Nat) (a1 : Int32) (M : xM) : Option (xM) := xlp (f_X4_endBefore_l2 a0r a1) 4000 ((0 : Int32), M)
theorem f_X4_endBefore_run {X : List Int32} {a0r : Nat} {a1 : Int32} {M : xM} {p : xM} {r : xR} (h : f_X4_endBefore a0r a1 M = some p) (hr : ∀ q, p = q → ((none, q) : xR) = r) : xq X xe 43 0 [(0, .inr (.inr (1, a0r, 3))), (1, .inl a1)] [] M r := by
  unfold f_X4_endBefore at h
  refine xq_blk 2 (pc' := 2) (ls' := [(2, .inl (0 : Int32)), (0, .inr (.inr (1, a0r, 3))), (1, .inl a1)]) (st' := []) (M' := M) rfl ?_
  refine xq_sub (a := [(0, .inr (.inr (1, a0r, 3))), (1, .inl a1), (2, .inl (0 : Int32))]) ⟨rfl, rfl, rfl, trivial⟩ rfl ?_
  exact xlp_ok (P := fun s2 => xq X xe 43 2 [(0, .inr (.inr (1, a0r, 3))), (1, .inl a1), (2, .inl s2.1)] [] s2.2 r) (fun s p' hb g0 g1 => f_X4_endBefore_l2_ok hb g0 (fun q e => hr q (g1 _ e).symm)) 4000 _ h
theorem f_X4_endBefore_ok {X : List Int32} {a0r : Nat} {a1 : Int32} {M : xM} {p : xM} (h : f_X4_endBefore a0r a1 M = some p) : xq X xe 43 0 [(0, .inr (.inr (1, a0r, 3))), (1, .inl a1)] [] M ((none, p) : xR) := f_X4_endBefore_run h (fun q e => by rw [e])
def f_X0_sellFromPound_l2 (k2v0r : Nat) (k2v1 : Int32) (s2 : Int32 × xM) : Option ((Int32 × xM) ⊕ (xM)) := if s2.1 < (20 : Int32) then ((f_X0_isInPound k2v0r s2.1 s2.2).bind (fun q1 => if q1 = (0 : Int32) then (some (.inl (s2.1 + (1 : Int32), s2.2))) else (if xp_in s2.1 20 = true then (if k2v1 < (s2.2.1 k2v0r 23 s2.1.toNatClampNeg) then (some (.inl (s2.1 + (1 : Int32), s2.2))) else (if xp_in s2.1 20 = true then (if xp_in s2.1 20 = true then (if xp_in s2.1 20 = true then (some (.inl (s2.1 + (1 : Int32), xd_up (xd_up s2.2 k2v0r 23 s2.1.toNatClampNeg (-6 : Int32)) k2v0r 24 s2.1.toNatClampNeg (((xd_up s2.2 k2v0r 23 s2.1.toNatClampNeg (-6 : Int32)).1 k2v0r 24 s2.1.toNatClampNeg) + (1 : Int32))))) else none) else none) else none)) else none))) else (Option.map Sum.inr (some (s2.2)))
theorem f_X0_sellFromPound_l2_ok {X : List Int32} {k2v0r : Nat} {k2v1 : Int32} {s2 : Int32 × xM} {p : (Int32 × xM) ⊕ (xM)} {r : xR} (h : f_X0_sellFromPound_l2 k2v0r k2v1 s2 = some p) (h0 : ∀ s', p = .inl s' → xq X xe 12 2 [(0, .inr (.inr (2, k2v0r, 18))), (1, .inl k2v1), (2, .inl s'.1)] [] s'.2 r) (hr : ∀ q, p = .inr (q) → ((none, q) : xR) = r) : xq X xe 12 2 [(0, .inr (.inr (2, k2v0r, 18))), (1, .inl k2v1), (2, .inl s2.1)] [] s2.2 r := by
  unfold f_X0_sellFromPound_l2 at h
  refine xq_blk 2 (pc' := 5) (ls' := [(0, .inr (.inr (2, k2v0r, 18))), (1, .inl k2v1), (2, .inl s2.1)]) (st' := [.inl (20 : Int32), .inl s2.1]) (M' := s2.2) rfl ?_
  refine xq_ite h (fun c9 h => ?_) (fun c9 h => ?_)
  · refine xq_core (pc' := 8) (ls' := [(0, .inr (.inr (2, k2v0r, 18))), (1, .inl k2v1), (2, .inl s2.1)]) (st' := []) rfl (if_pos c9) ?_
    refine xq_blk 2 (pc' := 10) (ls' := [(0, .inr (.inr (2, k2v0r, 18))), (1, .inl k2v1), (2, .inl s2.1)]) (st' := [.inl s2.1, .inr (.inr (2, k2v0r, 18))]) (M' := s2.2) rfl ?_
    refine xq_bind h (fun q1 e2 h => ?_)
    refine xq_call (j := 6) (as := [.inr (.inr (2, k2v0r, 18)), .inl s2.1]) (pc' := 13) (ls' := [(0, .inr (.inr (2, k2v0r, 18))), (1, .inl k2v1), (2, .inl s2.1)]) (st' := []) rfl rfl (f_X0_isInPound_ok e2) ?_
    refine xq_ite h (fun c8 h => ?_) (fun c8 h => ?_)
    · refine xq_core (pc' := 44) (ls' := [(0, .inr (.inr (2, k2v0r, 18))), (1, .inl k2v1), (2, .inl s2.1)]) (st' := []) rfl (if_pos c8) ?_
      refine xq_blk 2 (pc' := 2) (ls' := [(2, .inl (s2.1 + (1 : Int32))), (0, .inr (.inr (2, k2v0r, 18))), (1, .inl k2v1)]) (st' := []) (M' := s2.2) rfl ?_
      exact xq_sub (a := [(0, .inr (.inr (2, k2v0r, 18))), (1, .inl k2v1), (2, .inl ((s2.1 + (1 : Int32), s2.2).1))]) ⟨rfl, rfl, rfl, trivial⟩ rfl (h0 (s2.1 + (1 : Int32), s2.2) (Option.some.inj h).symm)
    · refine xq_core (pc' := 16) (ls' := [(0, .inr (.inr (2, k2v0r, 18))), (1, .inl k2v1), (2, .inl s2.1)]) (st' := []) rfl (if_neg c8) ?_
      refine xq_blk 3 (pc' := 21) (ls' := [(0, .inr (.inr (2, k2v0r, 18))), (1, .inl k2v1), (2, .inl s2.1)]) (st' := [.inl s2.1, .inr (.inr (3, k2v0r, 23))]) (M' := s2.2) rfl ?_
      refine xq_guard h (fun g3 h => ?_)
      refine xq_prim (st' := [.inl (s2.2.1 k2v0r 23 s2.1.toNatClampNeg)]) (M' := s2.2) rfl rfl rfl (xg_ald0 rfl g3) ?_
      refine xq_blk 1 (pc' := 23) (ls' := [(0, .inr (.inr (2, k2v0r, 18))), (1, .inl k2v1), (2, .inl s2.1)]) (st' := [.inl k2v1, .inl (s2.2.1 k2v0r 23 s2.1.toNatClampNeg)]) (M' := s2.2) rfl ?_
      refine xq_ite h (fun c7 h => ?_) (fun c7 h => ?_)
      · refine xq_core (pc' := 44) (ls' := [(0, .inr (.inr (2, k2v0r, 18))), (1, .inl k2v1), (2, .inl s2.1)]) (st' := []) rfl (if_pos c7) ?_
        refine xq_blk 2 (pc' := 2) (ls' := [(2, .inl (s2.1 + (1 : Int32))), (0, .inr (.inr (2, k2v0r, 18))), (1, .inl k2v1)]) (st' := []) (M' := s2.2) rfl ?_
        exact xq_sub (a := [(0, .inr (.inr (2, k2v0r, 18))), (1, .inl k2v1), (2, .inl ((s2.1 + (1 : Int32), s2.2).1))]) ⟨rfl, rfl, rfl, trivial⟩ rfl (h0 (s2.1 + (1 : Int32), s2.2) (Option.some.inj h).symm)
      · refine xq_core (pc' := 26) (ls' := [(0, .inr (.inr (2, k2v0r, 18))), (1, .inl k2v1), (2, .inl s2.1)]) (st' := []) rfl (if_neg c7) ?_
        refine xq_blk 4 (pc' := 33) (ls' := [(0, .inr (.inr (2, k2v0r, 18))), (1, .inl k2v1), (2, .inl s2.1)]) (st' := [.inl (-6 : Int32), .inl s2.1, .inr (.inr (3, k2v0r, 23))]) (M' := s2.2) rfl ?_
        refine xq_guard h (fun g4 h => ?_)
        refine xq_prim (st' := []) (M' := xd_up s2.2 k2v0r 23 s2.1.toNatClampNeg (-6 : Int32)) rfl rfl rfl (xg_ast0 rfl g4) ?_
        refine xq_blk 4 (pc' := 40) (ls' := [(0, .inr (.inr (2, k2v0r, 18))), (1, .inl k2v1), (2, .inl s2.1)]) (st' := [.inl s2.1, .inr (.inr (3, k2v0r, 24)), .inl s2.1, .inr (.inr (3, k2v0r, 24))]) (M' := xd_up s2.2 k2v0r 23 s2.1.toNatClampNeg (-6 : Int32)) rfl ?_
        refine xq_guard h (fun g5 h => ?_)
        refine xq_prim (st' := [.inl ((xd_up s2.2 k2v0r 23 s2.1.toNatClampNeg (-6 : Int32)).1 k2v0r 24 s2.1.toNatClampNeg), .inl s2.1, .inr (.inr (3, k2v0r, 24))]) (M' := xd_up s2.2 k2v0r 23 s2.1.toNatClampNeg (-6 : Int32)) rfl rfl rfl (xg_ald0 rfl g5) ?_
        refine xq_blk 2 (pc' := 43) (ls' := [(0, .inr (.inr (2, k2v0r, 18))), (1, .inl k2v1), (2, .inl s2.1)]) (st' := [.inl (((xd_up s2.2 k2v0r 23 s2.1.toNatClampNeg (-6 : Int32)).1 k2v0r 24 s2.1.toNatClampNeg) + (1 : Int32)), .inl s2.1, .inr (.inr (3, k2v0r, 24))]) (M' := xd_up s2.2 k2v0r 23 s2.1.toNatClampNeg (-6 : Int32)) rfl ?_
        refine xq_guard h (fun g6 h => ?_)
        refine xq_prim (st' := []) (M' := xd_up (xd_up s2.2 k2v0r 23 s2.1.toNatClampNeg (-6 : Int32)) k2v0r 24 s2.1.toNatClampNeg (((xd_up s2.2 k2v0r 23 s2.1.toNatClampNeg (-6 : Int32)).1 k2v0r 24 s2.1.toNatClampNeg) + (1 : Int32))) rfl rfl rfl (xg_ast0 rfl g6) ?_
        refine xq_blk 2 (pc' := 2) (ls' := [(2, .inl (s2.1 + (1 : Int32))), (0, .inr (.inr (2, k2v0r, 18))), (1, .inl k2v1)]) (st' := []) (M' := xd_up (xd_up s2.2 k2v0r 23 s2.1.toNatClampNeg (-6 : Int32)) k2v0r 24 s2.1.toNatClampNeg (((xd_up s2.2 k2v0r 23 s2.1.toNatClampNeg (-6 : Int32)).1 k2v0r 24 s2.1.toNatClampNeg) + (1 : Int32))) rfl ?_
        exact xq_sub (a := [(0, .inr (.inr (2, k2v0r, 18))), (1, .inl k2v1), (2, .inl ((s2.1 + (1 : Int32), xd_up (xd_up s2.2 k2v0r 23 s2.1.toNatClampNeg (-6 : Int32)) k2v0r 24 s2.1.toNatClampNeg (((xd_up s2.2 k2v0r 23 s2.1.toNatClampNeg (-6 : Int32)).1 k2v0r 24 s2.1.toNatClampNeg) + (1 : Int32))).1))]) ⟨rfl, rfl, rfl, trivial⟩ rfl (h0 (s2.1 + (1 : Int32), xd_up (xd_up s2.2 k2v0r 23 s2.1.toNatClampNeg (-6 : Int32)) k2v0r 24 s2.1.toNatClampNeg (((xd_up s2.2 k2v0r 23 s2.1.toNatClampNeg (-6 : Int32)).1 k2v0r 24 s2.1.toNatClampNeg) + (1 : Int32))) (Option.some.inj h).symm)
  · refine xq_core (pc' := 50) (ls' := [(0, .inr (.inr (2, k2v0r, 18))), (1, .inl k2v1), (2, .inl s2.1)]) (st' := []) rfl (if_neg c9) ?_
    refine xq_map h (fun p h e => ?_)
    replace hr := fun q e' => hr q (e.symm.trans (congrArg Sum.inr e'))
    clear e
    exact (hr _ (Option.some.inj h).symm) ▸ xq_ret rfl
def f_X0_sellFromPound (a0r : Nat) (a1 : Int32) (M : xM) : Option (xM) := xlp (f_X0_sellFromPound_l2 a0r a1) 4000 ((0 : Int32), M)
theorem f_X0_sellFromPound_run {X : List Int32} {a0r : Nat} {a1 : Int32} {M : xM} {p : xM} {r : xR} (h : f_X0_sellFromPound a0r a1 M = some p) (hr : ∀ q, p = q → ((none, q) : xR) = r) : xq X xe 12 0 [(0, .inr (.inr (2, a0r, 18))), (1, .inl a1)] [] M r := by
  unfold f_X0_sellFromPound at h
  refine xq_blk 2 (pc' := 2) (ls' := [(2, .inl (0 : Int32)), (0, .inr (.inr (2, a0r, 18))), (1, .inl a1)]) (st' := []) (M' := M) rfl ?_
  refine xq_sub (a := [(0, .inr (.inr (2, a0r, 18))), (1, .inl a1), (2, .inl (0 : Int32))]) ⟨rfl, rfl, rfl, trivial⟩ rfl ?_
  exact xlp_ok (P := fun s2 => xq X xe 12 2 [(0, .inr (.inr (2, a0r, 18))), (1, .inl a1), (2, .inl s2.1)] [] s2.2 r) (fun s p' hb g0 g1 => f_X0_sellFromPound_l2_ok hb g0 (fun q e => hr q (g1 _ e).symm)) 4000 _ h
theorem f_X0_sellFromPound_ok {X : List Int32} {a0r : Nat} {a1 : Int32} {M : xM} {p : xM} (h : f_X0_sellFromPound a0r a1 M = some p) : xq X xe 12 0 [(0, .inr (.inr (2, a0r, 18))), (1, .inl a1)] [] M ((none, p) : xR) := f_X0_sellFromPound_run h (fun q e => by rw [e])
def f_X5_beginDay (a0r : Nat) (M : xM) : Option (xM) := (f_X4_endBefore a0r ((xd_up M a0r 0 4 ((M.1 a0r 0 4) + (1 : Int32))).1 a0r 0 4) (xd_up M a0r 0 4 ((M.1 a0r 0 4) + (1 : Int32)))).bind (fun q1 => (f_X0_sellFromPound a0r ((q1.1 a0r 0 4) - (q1.1 a0r 1 3)) q1).bind (fun q3 => (f_X5_moveUp a0r q3).bind (fun q5 => some (q5))))
theorem f_X5_beginDay_run {X : List Int32} {a0r : Nat} {M : xM} {p : xM} {r : xR} (h : f_X5_beginDay a0r M = some p) (hr : ∀ q, p = q → ((none, q) : xR) = r) : xq X xe 67 0 [(0, .inr (.inr (0, a0r, 0)))] [] M r := by
  unfold f_X5_beginDay at h
  refine xq_blk 10 (pc' := 18) (ls' := [(0, .inr (.inr (0, a0r, 0)))]) (st' := [.inl ((xd_up M a0r 0 4 ((M.1 a0r 0 4) + (1 : Int32))).1 a0r 0 4), .inr (.inr (1, a0r, 3))]) (M' := xd_up M a0r 0 4 ((M.1 a0r 0 4) + (1 : Int32))) rfl ?_
  refine xq_bind h (fun q1 e2 h => ?_)
  refine xq_call (j := 43) (as := [.inr (.inr (1, a0r, 3)), .inl ((xd_up M a0r 0 4 ((M.1 a0r 0 4) + (1 : Int32))).1 a0r 0 4)]) (pc' := 21) (ls' := [(0, .inr (.inr (0, a0r, 0)))]) (st' := []) rfl rfl (f_X4_endBefore_ok e2) ?_
  refine xq_blk 7 (pc' := 34) (ls' := [(0, .inr (.inr (0, a0r, 0)))]) (st' := [.inl (3 : Int32), .inr (.inr (4, a0r, 1)), .inl (q1.1 a0r 0 4), .inr (.inr (2, a0r, 18))]) (M' := q1) rfl ?_
  refine xq_prim (st' := [.inl (q1.1 a0r 1 3), .inl (q1.1 a0r 0 4), .inr (.inr (2, a0r, 18))]) (M' := q1) rfl rfl rfl (xg_ald0 rfl rfl) ?_
  refine xq_blk 1 (pc' := 36) (ls' := [(0, .inr (.inr (0, a0r, 0)))]) (st' := [.inl ((q1.1 a0r 0 4) - (q1.1 a0r 1 3)), .inr (.inr (2, a0r, 18))]) (M' := q1) rfl ?_
  refine xq_bind h (fun q3 e4 h => ?_)
  refine xq_call (j := 12) (as := [.inr (.inr (2, a0r, 18)), .inl ((q1.1 a0r 0 4) - (q1.1 a0r 1 3))]) (pc' := 39) (ls' := [(0, .inr (.inr (0, a0r, 0)))]) (st' := []) rfl rfl (f_X0_sellFromPound_ok e4) ?_
  refine xq_blk 1 (pc' := 40) (ls' := [(0, .inr (.inr (0, a0r, 0)))]) (st' := [.inr (.inr (0, a0r, 0))]) (M' := q3) rfl ?_
  refine xq_bind h (fun q5 e6 h => ?_)
  refine xq_call (j := 51) (as := [.inr (.inr (0, a0r, 0))]) (pc' := 43) (ls' := [(0, .inr (.inr (0, a0r, 0)))]) (st' := []) rfl rfl (f_X5_moveUp_ok e6) ?_
  exact (hr _ (Option.some.inj h).symm) ▸ xq_ret rfl
theorem f_X5_beginDay_ok {X : List Int32} {a0r : Nat} {M : xM} {p : xM} (h : f_X5_beginDay a0r M = some p) : xq X xe 67 0 [(0, .inr (.inr (0, a0r, 0)))] [] M ((none, p) : xR) := f_X5_beginDay_run h (fun q e => by rw [e])
def f_X5_letPass_l38 (k38v0r : Nat) (k38v1 : Int32) (k38v2 : Int32) (s38 : Int32 × xM) : Option ((Int32 × xM) ⊕ (Int32 × xM)) := if s38.1 < k38v1 then ((f_X5_beginDay k38v0r s38.2).bind (fun q3 => some (.inl (s38.1 + (1 : Int32), q3)))) else (Option.map Sum.inr (some (((s38.2.1 k38v0r 3 5) - k38v2, s38.2))))
theorem f_X5_letPass_l38_ok {X : List Int32} {k38v0r : Nat} {k38v1 : Int32} {k38v2 : Int32} {s38 : Int32 × xM} {p : (Int32 × xM) ⊕ (Int32 × xM)} {r : xR} (h : f_X5_letPass_l38 k38v0r k38v1 k38v2 s38 = some p) (h0 : ∀ s', p = .inl s' → xq X xe 68 38 [(0, .inr (.inr (0, k38v0r, 0))), (1, .inl k38v1), (2, .inl k38v2), (3, .inl s'.1)] [] s'.2 r) (hr : ∀ q, p = .inr (q) → ((some (.inl q.1), q.2) : xR) = r) : xq X xe 68 38 [(0, .inr (.inr (0, k38v0r, 0))), (1, .inl k38v1), (2, .inl k38v2), (3, .inl s38.1)] [] s38.2 r := by
  unfold f_X5_letPass_l38 at h
  refine xq_blk 2 (pc' := 40) (ls' := [(0, .inr (.inr (0, k38v0r, 0))), (1, .inl k38v1), (2, .inl k38v2), (3, .inl s38.1)]) (st' := [.inl k38v1, .inl s38.1]) (M' := s38.2) rfl ?_
  refine xq_ite h (fun c5 h => ?_) (fun c5 h => ?_)
  · refine xq_core (pc' := 43) (ls' := [(0, .inr (.inr (0, k38v0r, 0))), (1, .inl k38v1), (2, .inl k38v2), (3, .inl s38.1)]) (st' := []) rfl (if_pos c5) ?_
    refine xq_blk 1 (pc' := 44) (ls' := [(0, .inr (.inr (0, k38v0r, 0))), (1, .inl k38v1), (2, .inl k38v2), (3, .inl s38.1)]) (st' := [.inr (.inr (0, k38v0r, 0))]) (M' := s38.2) rfl ?_
    refine xq_bind h (fun q3 e4 h => ?_)
    refine xq_call (j := 67) (as := [.inr (.inr (0, k38v0r, 0))]) (pc' := 47) (ls' := [(0, .inr (.inr (0, k38v0r, 0))), (1, .inl k38v1), (2, .inl k38v2), (3, .inl s38.1)]) (st' := []) rfl rfl (f_X5_beginDay_ok e4) ?_
    refine xq_blk 2 (pc' := 38) (ls' := [(3, .inl (s38.1 + (1 : Int32))), (0, .inr (.inr (0, k38v0r, 0))), (1, .inl k38v1), (2, .inl k38v2)]) (st' := []) (M' := q3) rfl ?_
    exact xq_sub (a := [(0, .inr (.inr (0, k38v0r, 0))), (1, .inl k38v1), (2, .inl k38v2), (3, .inl ((s38.1 + (1 : Int32), q3).1))]) ⟨rfl, rfl, rfl, rfl, trivial⟩ rfl (h0 (s38.1 + (1 : Int32), q3) (Option.some.inj h).symm)
  · refine xq_core (pc' := 53) (ls' := [(0, .inr (.inr (0, k38v0r, 0))), (1, .inl k38v1), (2, .inl k38v2), (3, .inl s38.1)]) (st' := []) rfl (if_neg c5) ?_
    refine xq_map h (fun p h e => ?_)
    replace hr := fun q e' => hr q (e.symm.trans (congrArg Sum.inr e'))
    clear e
    refine xq_blk 5 (pc' := 62) (ls' := [(0, .inr (.inr (0, k38v0r, 0))), (1, .inl k38v1), (2, .inl k38v2), (3, .inl s38.1)]) (st' := [.inl ((s38.2.1 k38v0r 3 5) - k38v2)]) (M' := s38.2) rfl ?_
    exact (hr _ (Option.some.inj h).symm) ▸ xq_ret rfl
def f_X5_letPass (a0r : Nat) (a1 : Int32) (M : xM) : Option (Int32 × xM) := (f_X6_isFrom (1 : Int32) a1 (99 : Int32) M).bind (fun q1 => if q1 = (0 : Int32) then (some (((-2 : Int32), M))) else (if (9999 : Int32) < ((M.1 a0r 0 4) + a1) then (some (((-4 : Int32), M))) else (xlp (f_X5_letPass_l38 a0r a1 (M.1 a0r 3 5)) 4000 ((0 : Int32), M))))
theorem f_X5_letPass_run {X : List Int32} {a0r : Nat} {a1 : Int32} {M : xM} {p : Int32 × xM} {r : xR} (h : f_X5_letPass a0r a1 M = some p) (hr : ∀ q, p = q → ((some (.inl q.1), q.2) : xR) = r) : xq X xe 68 0 [(0, .inr (.inr (0, a0r, 0))), (1, .inl a1)] [] M r := by
  unfold f_X5_letPass at h
  refine xq_blk 3 (pc' := 4) (ls' := [(0, .inr (.inr (0, a0r, 0))), (1, .inl a1)]) (st' := [.inl (99 : Int32), .inl a1, .inl (1 : Int32)]) (M' := M) rfl ?_
  refine xq_bind h (fun q1 e2 h => ?_)
  refine xq_call (j := 48) (as := [.inl (1 : Int32), .inl a1, .inl (99 : Int32)]) (pc' := 7) (ls' := [(0, .inr (.inr (0, a0r, 0))), (1, .inl a1)]) (st' := []) rfl rfl (f_X6_isFrom_ok e2) ?_
  refine xq_ite h (fun c7 h => ?_) (fun c7 h => ?_)
  · refine xq_core (pc' := 10) (ls' := [(0, .inr (.inr (0, a0r, 0))), (1, .inl a1)]) (st' := []) rfl (if_pos c7) ?_
    refine xq_blk 1 (pc' := 12) (ls' := [(0, .inr (.inr (0, a0r, 0))), (1, .inl a1)]) (st' := [.inl (-2 : Int32)]) (M' := M) rfl ?_
    exact (hr _ (Option.some.inj h).symm) ▸ xq_ret rfl
  · refine xq_core (pc' := 13) (ls' := [(0, .inr (.inr (0, a0r, 0))), (1, .inl a1)]) (st' := []) rfl (if_neg c7) ?_
    refine xq_blk 5 (pc' := 22) (ls' := [(0, .inr (.inr (0, a0r, 0))), (1, .inl a1)]) (st' := [.inl (9999 : Int32), .inl ((M.1 a0r 0 4) + a1)]) (M' := M) rfl ?_
    refine xq_ite h (fun c6 h => ?_) (fun c6 h => ?_)
    · refine xq_core (pc' := 25) (ls' := [(0, .inr (.inr (0, a0r, 0))), (1, .inl a1)]) (st' := []) rfl (if_pos c6) ?_
      refine xq_blk 1 (pc' := 27) (ls' := [(0, .inr (.inr (0, a0r, 0))), (1, .inl a1)]) (st' := [.inl (-4 : Int32)]) (M' := M) rfl ?_
      exact (hr _ (Option.some.inj h).symm) ▸ xq_ret rfl
    · refine xq_core (pc' := 28) (ls' := [(0, .inr (.inr (0, a0r, 0))), (1, .inl a1)]) (st' := []) rfl (if_neg c6) ?_
      refine xq_blk 6 (pc' := 38) (ls' := [(3, .inl (0 : Int32)), (2, .inl (M.1 a0r 3 5)), (0, .inr (.inr (0, a0r, 0))), (1, .inl a1)]) (st' := []) (M' := M) rfl ?_
      refine xq_sub (a := [(0, .inr (.inr (0, a0r, 0))), (1, .inl a1), (2, .inl (M.1 a0r 3 5)), (3, .inl (0 : Int32))]) ⟨rfl, rfl, rfl, rfl, trivial⟩ rfl ?_
      exact xlp_ok (P := fun s38 => xq X xe 68 38 [(0, .inr (.inr (0, a0r, 0))), (1, .inl a1), (2, .inl (M.1 a0r 3 5)), (3, .inl s38.1)] [] s38.2 r) (fun s p' hb g0 g1 => f_X5_letPass_l38_ok hb g0 (fun q e => hr q (g1 _ e).symm)) 4000 _ h
theorem f_X5_letPass_ok {X : List Int32} {a0r : Nat} {a1 : Int32} {M : xM} {p : Int32 × xM} (h : f_X5_letPass a0r a1 M = some p) : xq X xe 68 0 [(0, .inr (.inr (0, a0r, 0))), (1, .inl a1)] [] M ((some (.inl p.1), p.2) : xR) := f_X5_letPass_run h (fun q e => by rw [e])
