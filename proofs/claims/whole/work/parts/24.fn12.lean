def f_X7_days_l5 (k5v1 : Int32) (k5v2 : Int32) (s5 : Int32 × Int32 × xM) : Option ((Int32 × Int32 × xM) ⊕ (Int32 × xM)) := if s5.2.1 < k5v2 then ((f_X7_day k5v1 s5.2.2).bind (fun q1 => some (.inl (s5.1 + q1.1, s5.2.1 + (1 : Int32), q1.2)))) else (Option.map Sum.inr (some ((s5.1, s5.2.2))))
theorem f_X7_days_l5_ok {X : List Int32} {k5v1 : Int32} {k5v2 : Int32} {s5 : Int32 × Int32 × xM} {p : (Int32 × Int32 × xM) ⊕ (Int32 × xM)} {r : xR} (h : f_X7_days_l5 k5v1 k5v2 s5 = some p) (h0 : ∀ s', p = .inl s' → xq X xe 135 5 [(0, .inr (.inr (14, 6, 0))), (1, .inl k5v1), (2, .inl k5v2), (3, .inl s'.1), (4, .inl s'.2.1)] [] s'.2.2 r) (hr : ∀ q, p = .inr (q) → ((some (.inl q.1), q.2) : xR) = r) : xq X xe 135 5 [(0, .inr (.inr (14, 6, 0))), (1, .inl k5v1), (2, .inl k5v2), (3, .inl s5.1), (4, .inl s5.2.1)] [] s5.2.2 r := by
  unfold f_X7_days_l5 at h
  refine xq_blk 2 (pc' := 8) (ls' := [(0, .inr (.inr (14, 6, 0))), (1, .inl k5v1), (2, .inl k5v2), (3, .inl s5.1), (4, .inl s5.2.1)]) (st' := [.inl k5v2, .inl s5.2.1]) (M' := s5.2.2) rfl ?_
  refine xq_ite h (fun c3 h => ?_) (fun c3 h => ?_)
  · refine xq_core (pc' := 11) (ls' := [(0, .inr (.inr (14, 6, 0))), (1, .inl k5v1), (2, .inl k5v2), (3, .inl s5.1), (4, .inl s5.2.1)]) (st' := []) rfl (if_pos c3) ?_
    refine xq_blk 3 (pc' := 14) (ls' := [(0, .inr (.inr (14, 6, 0))), (1, .inl k5v1), (2, .inl k5v2), (3, .inl s5.1), (4, .inl s5.2.1)]) (st' := [.inl k5v1, .inr (.inr (14, 6, 0)), .inl s5.1]) (M' := s5.2.2) rfl ?_
    refine xq_bind h (fun q1 e2 h => ?_)
    refine xq_call (j := 134) (as := [.inr (.inr (14, 6, 0)), .inl k5v1]) (pc' := 17) (ls' := [(0, .inr (.inr (14, 6, 0))), (1, .inl k5v1), (2, .inl k5v2), (3, .inl s5.1), (4, .inl s5.2.1)]) (st' := [.inl s5.1]) rfl rfl (f_X7_day_ok e2) ?_
    refine xq_blk 4 (pc' := 5) (ls' := [(4, .inl (s5.2.1 + (1 : Int32))), (3, .inl (s5.1 + q1.1)), (0, .inr (.inr (14, 6, 0))), (1, .inl k5v1), (2, .inl k5v2)]) (st' := []) (M' := q1.2) rfl ?_
    exact xq_sub (a := [(0, .inr (.inr (14, 6, 0))), (1, .inl k5v1), (2, .inl k5v2), (3, .inl ((s5.1 + q1.1, s5.2.1 + (1 : Int32), q1.2).1)), (4, .inl ((s5.1 + q1.1, s5.2.1 + (1 : Int32), q1.2).2.1))]) ⟨rfl, rfl, rfl, rfl, rfl, trivial⟩ rfl (h0 (s5.1 + q1.1, s5.2.1 + (1 : Int32), q1.2) (Option.some.inj h).symm)
  · refine xq_core (pc' := 25) (ls' := [(0, .inr (.inr (14, 6, 0))), (1, .inl k5v1), (2, .inl k5v2), (3, .inl s5.1), (4, .inl s5.2.1)]) (st' := []) rfl (if_neg c3) ?_
    refine xq_map h (fun p h e => ?_)
    replace hr := fun q e' => hr q (e.symm.trans (congrArg Sum.inr e'))
    clear e
    refine xq_blk 1 (pc' := 26) (ls' := [(0, .inr (.inr (14, 6, 0))), (1, .inl k5v1), (2, .inl k5v2), (3, .inl s5.1), (4, .inl s5.2.1)]) (st' := [.inl s5.1]) (M' := s5.2.2) rfl ?_
    exact (hr _ (Option.some.inj h).symm) ▸ xq_ret rfl
def f_X7_days (a1 : Int32) (a2 : Int32) (M : xM) : Option (Int32 × xM) := xlp (f_X7_days_l5 a1 a2) 4000 ((0 : Int32), (0 : Int32), M)
theorem f_X7_days_run {X : List Int32} {a1 : Int32} {a2 : Int32} {M : xM} {p : Int32 × xM} {r : xR} (h : f_X7_days a1 a2 M = some p) (hr : ∀ q, p = q → ((some (.inl q.1), q.2) : xR) = r) : xq X xe 135 0 [(0, .inr (.inr (14, 6, 0))), (1, .inl a1), (2, .inl a2)] [] M r := by
  unfold f_X7_days at h
  refine xq_blk 4 (pc' := 5) (ls' := [(4, .inl (0 : Int32)), (3, .inl (0 : Int32)), (0, .inr (.inr (14, 6, 0))), (1, .inl a1), (2, .inl a2)]) (st' := []) (M' := M) rfl ?_
  refine xq_sub (a := [(0, .inr (.inr (14, 6, 0))), (1, .inl a1), (2, .inl a2), (3, .inl (0 : Int32)), (4, .inl (0 : Int32))]) ⟨rfl, rfl, rfl, rfl, rfl, trivial⟩ rfl ?_
  exact xlp_ok (P := fun s5 => xq X xe 135 5 [(0, .inr (.inr (14, 6, 0))), (1, .inl a1), (2, .inl a2), (3, .inl s5.1), (4, .inl s5.2.1)] [] s5.2.2 r) (fun s p' hb g0 g1 => f_X7_days_l5_ok hb g0 (fun q e => hr q (g1 _ e).symm)) 4000 _ h
theorem f_X7_days_ok {X : List Int32} {a1 : Int32} {a2 : Int32} {M : xM} {p : Int32 × xM} (h : f_X7_days a1 a2 M = some p) : xq X xe 135 0 [(0, .inr (.inr (14, 6, 0))), (1, .inl a1), (2, .inl a2)] [] M ((some (.inl p.1), p.2) : xR) := f_X7_days_run h (fun q e => by rw [e])
def f_X7_pass (a1 : Int32) (M : xM) : Option (Int32 × xM) := (f_X7_passError a1 M).bind (fun q1 => if q1 = (0 : Int32) then ((f_X7_changes M).bind (fun q3 => (f_X7_days (0 : Int32) a1 q3).bind (fun q5 => some ((q5.1, q5.2))))) else (some ((q1, M))))
theorem f_X7_pass_run {X : List Int32} {a1 : Int32} {M : xM} {p : Int32 × xM} {r : xR} (h : f_X7_pass a1 M = some p) (hr : ∀ q, p = q → ((some (.inl q.1), q.2) : xR) = r) : xq X xe 165 0 [(0, .inr (.inr (14, 6, 0))), (1, .inl a1)] [] M r := by
  unfold f_X7_pass at h
  refine xq_blk 2 (pc' := 2) (ls' := [(0, .inr (.inr (14, 6, 0))), (1, .inl a1)]) (st' := [.inl a1, .inr (.inr (14, 6, 0))]) (M' := M) rfl ?_
  refine xq_bind h (fun q1 e2 h => ?_)
  refine xq_call (j := 149) (as := [.inr (.inr (14, 6, 0)), .inl a1]) (pc' := 5) (ls' := [(0, .inr (.inr (14, 6, 0))), (1, .inl a1)]) (st' := []) rfl rfl (f_X7_passError_ok e2) ?_
  refine xq_blk 2 (pc' := 7) (ls' := [(2, .inl q1), (0, .inr (.inr (14, 6, 0))), (1, .inl a1)]) (st' := [.inl q1]) (M' := M) rfl ?_
  refine xq_ite h (fun c7 h => ?_) (fun c7 h => ?_)
  · refine xq_core (pc' := 12) (ls' := [(2, .inl q1), (0, .inr (.inr (14, 6, 0))), (1, .inl a1)]) (st' := []) rfl (if_pos c7) ?_
    refine xq_blk 1 (pc' := 13) (ls' := [(2, .inl q1), (0, .inr (.inr (14, 6, 0))), (1, .inl a1)]) (st' := [.inr (.inr (14, 6, 0))]) (M' := M) rfl ?_
    refine xq_bind h (fun q3 e4 h => ?_)
    refine xq_call (j := 122) (as := [.inr (.inr (14, 6, 0))]) (pc' := 16) (ls' := [(2, .inl q1), (0, .inr (.inr (14, 6, 0))), (1, .inl a1)]) (st' := []) rfl rfl (f_X7_changes_ok e4) ?_
    refine xq_blk 3 (pc' := 19) (ls' := [(2, .inl q1), (0, .inr (.inr (14, 6, 0))), (1, .inl a1)]) (st' := [.inl a1, .inl (0 : Int32), .inr (.inr (14, 6, 0))]) (M' := q3) rfl ?_
    refine xq_bind h (fun q5 e6 h => ?_)
    refine xq_call (j := 135) (as := [.inr (.inr (14, 6, 0)), .inl (0 : Int32), .inl a1]) (pc' := 22) (ls' := [(2, .inl q1), (0, .inr (.inr (14, 6, 0))), (1, .inl a1)]) (st' := []) rfl rfl (f_X7_days_ok e6) ?_
    exact (hr _ (Option.some.inj h).symm) ▸ xq_ret rfl
  · refine xq_core (pc' := 10) (ls' := [(2, .inl q1), (0, .inr (.inr (14, 6, 0))), (1, .inl a1)]) (st' := []) rfl (if_neg c7) ?_
    refine xq_blk 1 (pc' := 11) (ls' := [(2, .inl q1), (0, .inr (.inr (14, 6, 0))), (1, .inl a1)]) (st' := [.inl q1]) (M' := M) rfl ?_
    exact (hr _ (Option.some.inj h).symm) ▸ xq_ret rfl
theorem f_X7_pass_ok {X : List Int32} {a1 : Int32} {M : xM} {p : Int32 × xM} (h : f_X7_pass a1 M = some p) : xq X xe 165 0 [(0, .inr (.inr (14, 6, 0))), (1, .inl a1)] [] M ((some (.inl p.1), p.2) : xR) := f_X7_pass_run h (fun q e => by rw [e])
def f_X7_daysSince (a1 : Int32) (M : xM) : Option (Int32) := if a1 = (-6 : Int32) then (some ((-6 : Int32))) else (some (((M.1 6 1 4) - a1)))
theorem f_X7_daysSince_run {X : List Int32} {a1 : Int32} {M : xM} {p : Int32} {r : xR} (h : f_X7_daysSince a1 M = some p) (hr : ∀ q, p = q → ((some (.inl q), M) : xR) = r) : xq X xe 166 0 [(0, .inr (.inr (14, 6, 0))), (1, .inl a1)] [] M r := by
  unfold f_X7_daysSince at h
  refine xq_blk 2 (pc' := 3) (ls' := [(0, .inr (.inr (14, 6, 0))), (1, .inl a1)]) (st' := [.inl (-6 : Int32), .inl a1]) (M' := M) rfl ?_
  refine xq_ite h (fun c1 h => ?_) (fun c1 h => ?_)
  · refine xq_core (pc' := 6) (ls' := [(0, .inr (.inr (14, 6, 0))), (1, .inl a1)]) (st' := []) rfl (if_pos c1) ?_
    refine xq_blk 2 (pc' := 19) (ls' := [(0, .inr (.inr (14, 6, 0))), (1, .inl a1)]) (st' := [.inl (-6 : Int32)]) (M' := M) rfl ?_
    exact (hr _ (Option.some.inj h).symm) ▸ xq_ret rfl
  · refine xq_core (pc' := 11) (ls' := [(0, .inr (.inr (14, 6, 0))), (1, .inl a1)]) (st' := []) rfl (if_neg c1) ?_
    refine xq_blk 3 (pc' := 16) (ls' := [(0, .inr (.inr (14, 6, 0))), (1, .inl a1)]) (st' := [.inl (4 : Int32), .inr (.inr (15, 6, 1))]) (M' := M) rfl ?_
    refine xq_prim (st' := [.inl (M.1 6 1 4)]) (M' := M) rfl rfl rfl (xg_ald0 rfl rfl) ?_
    refine xq_blk 2 (pc' := 19) (ls' := [(0, .inr (.inr (14, 6, 0))), (1, .inl a1)]) (st' := [.inl ((M.1 6 1 4) - a1)]) (M' := M) rfl ?_
    exact (hr _ (Option.some.inj h).symm) ▸ xq_ret rfl
theorem f_X7_daysSince_ok {X : List Int32} {a1 : Int32} {M : xM} {p : Int32} (h : f_X7_daysSince a1 M = some p) : xq X xe 166 0 [(0, .inr (.inr (14, 6, 0))), (1, .inl a1)] [] M ((some (.inl p), M) : xR) := f_X7_daysSince_run h (fun q e => by rw [e])
def f_X7_person (a1 : Int32) (a2 : Int32) (M : xM) : Option (Int32) := (f_X7_isPerson a1 M).bind (fun q1 => if q1 = (0 : Int32) then (some ((-1 : Int32))) else ((f_X7_personAt (0 : Int32) a1 M).bind (fun q3 => if a2 = (0 : Int32) then (if xp_in (q3 + a2) 3540 = true then (some ((M.1 6 1 (q3 + a2).toNatClampNeg))) else none) else (if a2 = (1 : Int32) then (if xp_in (q3 + a2) 3540 = true then (some ((M.1 6 1 (q3 + a2).toNatClampNeg))) else none) else (if a2 = (2 : Int32) then ((f_X7_waitsFor (0 : Int32) a1 M).bind (fun q9 => some (q9))) else (if a2 = (3 : Int32) then (if xp_in (((q3 + (2 : Int32)) + a2) - (3 : Int32)) 3540 = true then (some ((M.1 6 1 (((q3 + (2 : Int32)) + a2) - (3 : Int32)).toNatClampNeg))) else none) else (if a2 = (4 : Int32) then (if xp_in (((q3 + (2 : Int32)) + a2) - (3 : Int32)) 3540 = true then (some ((M.1 6 1 (((q3 + (2 : Int32)) + a2) - (3 : Int32)).toNatClampNeg))) else none) else (if a2 = (5 : Int32) then (if xp_in (q3 + (4 : Int32)) 3540 = true then ((f_X7_daysSince (M.1 6 1 (q3 + (4 : Int32)).toNatClampNeg) M).bind (fun q17 => some (q17))) else none) else (if a2 = (6 : Int32) then (if xp_in (q3 + (5 : Int32)) 3540 = true then (some ((M.1 6 1 (q3 + (5 : Int32)).toNatClampNeg))) else none) else (if a2 = (7 : Int32) then (if xp_in (q3 + (6 : Int32)) 3540 = true then ((f_X7_daysSince (M.1 6 1 (q3 + (6 : Int32)).toNatClampNeg) M).bind (fun q23 => some (q23))) else none) else (if a2 = (8 : Int32) then (if xp_in (q3 + (7 : Int32)) 3540 = true then (some ((M.1 6 1 (q3 + (7 : Int32)).toNatClampNeg))) else none) else (some ((-2 : Int32))))))))))))))
theorem f_X7_person_run {X : List Int32} {a1 : Int32} {a2 : Int32} {M : xM} {p : Int32} {r : xR} (h : f_X7_person a1 a2 M = some p) (hr : ∀ q, p = q → ((some (.inl q), M) : xR) = r) : xq X xe 167 0 [(0, .inr (.inr (14, 6, 0))), (1, .inl a1), (2, .inl a2)] [] M r := by
  unfold f_X7_person at h
  refine xq_blk 1 (pc' := 1) (ls' := [(0, .inr (.inr (14, 6, 0))), (1, .inl a1), (2, .inl a2)]) (st' := [.inl a1]) (M' := M) rfl ?_
  refine xq_bind h (fun q1 e2 h => ?_)
  refine xq_call (j := 141) (as := [.inl a1]) (pc' := 4) (ls' := [(0, .inr (.inr (14, 6, 0))), (1, .inl a1), (2, .inl a2)]) (st' := []) rfl rfl (f_X7_isPerson_ok e2) ?_
  refine xq_ite h (fun c28 h => ?_) (fun c28 h => ?_)
  · refine xq_core (pc' := 7) (ls' := [(0, .inr (.inr (14, 6, 0))), (1, .inl a1), (2, .inl a2)]) (st' := []) rfl (if_pos c28) ?_
    refine xq_blk 1 (pc' := 8) (ls' := [(0, .inr (.inr (14, 6, 0))), (1, .inl a1), (2, .inl a2)]) (st' := [.inl (-1 : Int32)]) (M' := M) rfl ?_
    exact (hr _ (Option.some.inj h).symm) ▸ xq_ret rfl
  · refine xq_core (pc' := 9) (ls' := [(0, .inr (.inr (14, 6, 0))), (1, .inl a1), (2, .inl a2)]) (st' := []) rfl (if_neg c28) ?_
    refine xq_blk 2 (pc' := 11) (ls' := [(0, .inr (.inr (14, 6, 0))), (1, .inl a1), (2, .inl a2)]) (st' := [.inl a1, .inl (0 : Int32)]) (M' := M) rfl ?_
    refine xq_bind h (fun q3 e4 h => ?_)
    refine xq_call (j := 117) (as := [.inl (0 : Int32), .inl a1]) (pc' := 14) (ls' := [(0, .inr (.inr (14, 6, 0))), (1, .inl a1), (2, .inl a2)]) (st' := []) rfl rfl (f_X7_personAt_ok e4) ?_
    refine xq_blk 2 (pc' := 16) (ls' := [(3, .inl q3), (0, .inr (.inr (14, 6, 0))), (1, .inl a1), (2, .inl a2)]) (st' := [.inl a2]) (M' := M) rfl ?_
    refine xq_ite h (fun c6 h => ?_) (fun c6 h => ?_)
    · refine xq_tsw (pc' := 68) (ls' := [(3, .inl q3), (0, .inr (.inr (14, 6, 0))), (1, .inl a1), (2, .inl a2)]) (st' := []) rfl rfl (if_pos c6) ?_
      refine xq_blk 5 (pc' := 75) (ls' := [(3, .inl q3), (0, .inr (.inr (14, 6, 0))), (1, .inl a1), (2, .inl a2)]) (st' := [.inl (q3 + a2), .inr (.inr (15, 6, 1))]) (M' := M) rfl ?_
      refine xq_guard h (fun g5 h => ?_)
      refine xq_prim (st' := [.inl (M.1 6 1 (q3 + a2).toNatClampNeg)]) (M' := M) rfl rfl rfl (xg_ald0 rfl g5) ?_
      exact (hr _ (Option.some.inj h).symm) ▸ xq_ret rfl
    · refine xq_ite h (fun c8 h => ?_) (fun c8 h => ?_)
      · refine xq_tsw (pc' := 68) (ls' := [(3, .inl q3), (0, .inr (.inr (14, 6, 0))), (1, .inl a1), (2, .inl a2)]) (st' := []) rfl rfl (Eq.trans (if_neg c6) (if_pos c8)) ?_
        refine xq_blk 5 (pc' := 75) (ls' := [(3, .inl q3), (0, .inr (.inr (14, 6, 0))), (1, .inl a1), (2, .inl a2)]) (st' := [.inl (q3 + a2), .inr (.inr (15, 6, 1))]) (M' := M) rfl ?_
        refine xq_guard h (fun g7 h => ?_)
        refine xq_prim (st' := [.inl (M.1 6 1 (q3 + a2).toNatClampNeg)]) (M' := M) rfl rfl rfl (xg_ald0 rfl g7) ?_
        exact (hr _ (Option.some.inj h).symm) ▸ xq_ret rfl
      · refine xq_ite h (fun c11 h => ?_) (fun c11 h => ?_)
        · refine xq_tsw (pc' := 77) (ls' := [(3, .inl q3), (0, .inr (.inr (14, 6, 0))), (1, .inl a1), (2, .inl a2)]) (st' := []) rfl rfl (Eq.trans (if_neg c6) (Eq.trans (if_neg c8) (if_pos c11))) ?_
          refine xq_blk 3 (pc' := 80) (ls' := [(3, .inl q3), (0, .inr (.inr (14, 6, 0))), (1, .inl a1), (2, .inl a2)]) (st' := [.inl a1, .inl (0 : Int32), .inr (.inr (14, 6, 0))]) (M' := M) rfl ?_
          refine xq_bind h (fun q9 e10 h => ?_)
          refine xq_call (j := 128) (as := [.inr (.inr (14, 6, 0)), .inl (0 : Int32), .inl a1]) (pc' := 83) (ls' := [(3, .inl q3), (0, .inr (.inr (14, 6, 0))), (1, .inl a1), (2, .inl a2)]) (st' := []) rfl rfl (f_X7_waitsFor_ok e10) ?_
          exact (hr _ (Option.some.inj h).symm) ▸ xq_ret rfl
        · refine xq_ite h (fun c13 h => ?_) (fun c13 h => ?_)
          · refine xq_tsw (pc' := 84) (ls' := [(3, .inl q3), (0, .inr (.inr (14, 6, 0))), (1, .inl a1), (2, .inl a2)]) (st' := []) rfl rfl (Eq.trans (if_neg c6) (Eq.trans (if_neg c8) (Eq.trans (if_neg c11) (if_pos c13)))) ?_
            refine xq_blk 9 (pc' := 95) (ls' := [(3, .inl q3), (0, .inr (.inr (14, 6, 0))), (1, .inl a1), (2, .inl a2)]) (st' := [.inl (((q3 + (2 : Int32)) + a2) - (3 : Int32)), .inr (.inr (15, 6, 1))]) (M' := M) rfl ?_
            refine xq_guard h (fun g12 h => ?_)
            refine xq_prim (st' := [.inl (M.1 6 1 (((q3 + (2 : Int32)) + a2) - (3 : Int32)).toNatClampNeg)]) (M' := M) rfl rfl rfl (xg_ald0 rfl g12) ?_
            exact (hr _ (Option.some.inj h).symm) ▸ xq_ret rfl
          · refine xq_ite h (fun c15 h => ?_) (fun c15 h => ?_)
            · refine xq_tsw (pc' := 84) (ls' := [(3, .inl q3), (0, .inr (.inr (14, 6, 0))), (1, .inl a1), (2, .inl a2)]) (st' := []) rfl rfl (Eq.trans (if_neg c6) (Eq.trans (if_neg c8) (Eq.trans (if_neg c11) (Eq.trans (if_neg c13) (if_pos c15))))) ?_
              refine xq_blk 9 (pc' := 95) (ls' := [(3, .inl q3), (0, .inr (.inr (14, 6, 0))), (1, .inl a1), (2, .inl a2)]) (st' := [.inl (((q3 + (2 : Int32)) + a2) - (3 : Int32)), .inr (.inr (15, 6, 1))]) (M' := M) rfl ?_
              refine xq_guard h (fun g14 h => ?_)
              refine xq_prim (st' := [.inl (M.1 6 1 (((q3 + (2 : Int32)) + a2) - (3 : Int32)).toNatClampNeg)]) (M' := M) rfl rfl rfl (xg_ald0 rfl g14) ?_
              exact (hr _ (Option.some.inj h).symm) ▸ xq_ret rfl
            · refine xq_ite h (fun c19 h => ?_) (fun c19 h => ?_)
              · refine xq_tsw (pc' := 97) (ls' := [(3, .inl q3), (0, .inr (.inr (14, 6, 0))), (1, .inl a1), (2, .inl a2)]) (st' := []) rfl rfl (Eq.trans (if_neg c6) (Eq.trans (if_neg c8) (Eq.trans (if_neg c11) (Eq.trans (if_neg c13) (Eq.trans (if_neg c15) (if_pos c19)))))) ?_
                refine xq_blk 6 (pc' := 105) (ls' := [(3, .inl q3), (0, .inr (.inr (14, 6, 0))), (1, .inl a1), (2, .inl a2)]) (st' := [.inl (q3 + (4 : Int32)), .inr (.inr (15, 6, 1)), .inr (.inr (14, 6, 0))]) (M' := M) rfl ?_
                refine xq_guard h (fun g16 h => ?_)
                refine xq_prim (st' := [.inl (M.1 6 1 (q3 + (4 : Int32)).toNatClampNeg), .inr (.inr (14, 6, 0))]) (M' := M) rfl rfl rfl (xg_ald0 rfl g16) ?_
                refine xq_bind h (fun q17 e18 h => ?_)
                refine xq_call (j := 166) (as := [.inr (.inr (14, 6, 0)), .inl (M.1 6 1 (q3 + (4 : Int32)).toNatClampNeg)]) (pc' := 109) (ls' := [(3, .inl q3), (0, .inr (.inr (14, 6, 0))), (1, .inl a1), (2, .inl a2)]) (st' := []) rfl rfl (f_X7_daysSince_ok e18) ?_
                exact (hr _ (Option.some.inj h).symm) ▸ xq_ret rfl
              · refine xq_ite h (fun c21 h => ?_) (fun c21 h => ?_)
                · refine xq_tsw (pc' := 110) (ls' := [(3, .inl q3), (0, .inr (.inr (14, 6, 0))), (1, .inl a1), (2, .inl a2)]) (st' := []) rfl rfl (Eq.trans (if_neg c6) (Eq.trans (if_neg c8) (Eq.trans (if_neg c11) (Eq.trans (if_neg c13) (Eq.trans (if_neg c15) (Eq.trans (if_neg c19) (if_pos c21))))))) ?_
                  refine xq_blk 5 (pc' := 117) (ls' := [(3, .inl q3), (0, .inr (.inr (14, 6, 0))), (1, .inl a1), (2, .inl a2)]) (st' := [.inl (q3 + (5 : Int32)), .inr (.inr (15, 6, 1))]) (M' := M) rfl ?_
                  refine xq_guard h (fun g20 h => ?_)
                  refine xq_prim (st' := [.inl (M.1 6 1 (q3 + (5 : Int32)).toNatClampNeg)]) (M' := M) rfl rfl rfl (xg_ald0 rfl g20) ?_
                  exact (hr _ (Option.some.inj h).symm) ▸ xq_ret rfl
                · refine xq_ite h (fun c25 h => ?_) (fun c25 h => ?_)
                  · refine xq_tsw (pc' := 119) (ls' := [(3, .inl q3), (0, .inr (.inr (14, 6, 0))), (1, .inl a1), (2, .inl a2)]) (st' := []) rfl rfl (Eq.trans (if_neg c6) (Eq.trans (if_neg c8) (Eq.trans (if_neg c11) (Eq.trans (if_neg c13) (Eq.trans (if_neg c15) (Eq.trans (if_neg c19) (Eq.trans (if_neg c21) (if_pos c25)))))))) ?_
                    refine xq_blk 6 (pc' := 128) (ls' := [(3, .inl q3), (0, .inr (.inr (14, 6, 0))), (1, .inl a1), (2, .inl a2)]) (st' := [.inl (q3 + (6 : Int32)), .inr (.inr (15, 6, 1)), .inr (.inr (14, 6, 0))]) (M' := M) rfl ?_
                    refine xq_guard h (fun g22 h => ?_)
                    refine xq_prim (st' := [.inl (M.1 6 1 (q3 + (6 : Int32)).toNatClampNeg), .inr (.inr (14, 6, 0))]) (M' := M) rfl rfl rfl (xg_ald0 rfl g22) ?_
                    refine xq_bind h (fun q23 e24 h => ?_)
                    refine xq_call (j := 166) (as := [.inr (.inr (14, 6, 0)), .inl (M.1 6 1 (q3 + (6 : Int32)).toNatClampNeg)]) (pc' := 132) (ls' := [(3, .inl q3), (0, .inr (.inr (14, 6, 0))), (1, .inl a1), (2, .inl a2)]) (st' := []) rfl rfl (f_X7_daysSince_ok e24) ?_
                    exact (hr _ (Option.some.inj h).symm) ▸ xq_ret rfl
                  · refine xq_ite h (fun c27 h => ?_) (fun c27 h => ?_)
                    · refine xq_tsw (pc' := 133) (ls' := [(3, .inl q3), (0, .inr (.inr (14, 6, 0))), (1, .inl a1), (2, .inl a2)]) (st' := []) rfl rfl (Eq.trans (if_neg c6) (Eq.trans (if_neg c8) (Eq.trans (if_neg c11) (Eq.trans (if_neg c13) (Eq.trans (if_neg c15) (Eq.trans (if_neg c19) (Eq.trans (if_neg c21) (Eq.trans (if_neg c25) (if_pos c27))))))))) ?_
                      refine xq_blk 5 (pc' := 141) (ls' := [(3, .inl q3), (0, .inr (.inr (14, 6, 0))), (1, .inl a1), (2, .inl a2)]) (st' := [.inl (q3 + (7 : Int32)), .inr (.inr (15, 6, 1))]) (M' := M) rfl ?_
                      refine xq_guard h (fun g26 h => ?_)
                      refine xq_prim (st' := [.inl (M.1 6 1 (q3 + (7 : Int32)).toNatClampNeg)]) (M' := M) rfl rfl rfl (xg_ald0 rfl g26) ?_
                      exact (hr _ (Option.some.inj h).symm) ▸ xq_ret rfl
                    · refine xq_tsw (pc' := 143) (ls' := [(3, .inl q3), (0, .inr (.inr (14, 6, 0))), (1, .inl a1), (2, .inl a2)]) (st' := []) rfl rfl (Eq.trans (if_neg c6) (Eq.trans (if_neg c8) (Eq.trans (if_neg c11) (Eq.trans (if_neg c13) (Eq.trans (if_neg c15) (Eq.trans (if_neg c19) (Eq.trans (if_neg c21) (Eq.trans (if_neg c25) (Eq.trans (if_neg c27) (rfl)))))))))) ?_
                      refine xq_blk 1 (pc' := 145) (ls' := [(3, .inl q3), (0, .inr (.inr (14, 6, 0))), (1, .inl a1), (2, .inl a2)]) (st' := [.inl (-2 : Int32)]) (M' := M) rfl ?_
                      exact (hr _ (Option.some.inj h).symm) ▸ xq_ret rfl
theorem f_X7_person_ok {X : List Int32} {a1 : Int32} {a2 : Int32} {M : xM} {p : Int32} (h : f_X7_person a1 a2 M = some p) : xq X xe 167 0 [(0, .inr (.inr (14, 6, 0))), (1, .inl a1), (2, .inl a2)] [] M ((some (.inl p), M) : xR) := f_X7_person_run h (fun q e => by rw [e])
def f_X7_racks_j83_5 (k5v1 : Int32) (k5v2 : Int32) (v3 : Int32) (v4 : Int32) (t0 : Int32) (M : xM) : Option ((Int32 × Int32) ⊕ (Int32)) := (f_X7_flag t0 M).bind (fun q3 => some (.inl (v3 ||| (q3 <<< (v4 &&& (31 : Int32))), v4 + (1 : Int32))))
theorem f_X7_racks_j83_5_ok {X : List Int32} {k5v1 : Int32} {k5v2 : Int32} {v3 : Int32} {v4 : Int32} {t0 : Int32} {M : xM} {p : (Int32 × Int32) ⊕ (Int32)} {r : xR} (h : f_X7_racks_j83_5 k5v1 k5v2 v3 v4 t0 M = some p) (h0 : ∀ s', p = .inl s' → xq X xe 168 5 [(0, .inr (.inr (14, 6, 0))), (1, .inl k5v1), (2, .inl k5v2), (3, .inl s'.1), (4, .inl s'.2)] [] M r) (hr : ∀ q, p = .inr (q) → ((some (.inl q), M) : xR) = r) : xq X xe 168 83 [(0, .inr (.inr (14, 6, 0))), (1, .inl k5v1), (2, .inl k5v2), (3, .inl v3), (4, .inl v4)] [.inl t0] M r := by
  unfold f_X7_racks_j83_5 at h
  refine xq_blk 3 (pc' := 88) (ls' := [(6, .inl t0), (0, .inr (.inr (14, 6, 0))), (1, .inl k5v1), (2, .inl k5v2), (3, .inl v3), (4, .inl v4)]) (st' := [.inl t0, .inl v3]) (M' := M) rfl ?_
  refine xq_bind h (fun q3 e4 h => ?_)
  refine xq_call (j := 120) (as := [.inl t0]) (pc' := 91) (ls' := [(6, .inl t0), (0, .inr (.inr (14, 6, 0))), (1, .inl k5v1), (2, .inl k5v2), (3, .inl v3), (4, .inl v4)]) (st' := [.inl v3]) rfl rfl (f_X7_flag_ok e4) ?_
  refine xq_blk 6 (pc' := 5) (ls' := [(4, .inl (v4 + (1 : Int32))), (3, .inl (v3 ||| (q3 <<< (v4 &&& (31 : Int32))))), (6, .inl t0), (0, .inr (.inr (14, 6, 0))), (1, .inl k5v1), (2, .inl k5v2)]) (st' := []) (M' := M) rfl ?_
  exact xq_sub (a := [(0, .inr (.inr (14, 6, 0))), (1, .inl k5v1), (2, .inl k5v2), (3, .inl ((v3 ||| (q3 <<< (v4 &&& (31 : Int32))), v4 + (1 : Int32)).1)), (4, .inl ((v3 ||| (q3 <<< (v4 &&& (31 : Int32))), v4 + (1 : Int32)).2))]) ⟨rfl, rfl, rfl, rfl, rfl, trivial⟩ rfl (h0 (v3 ||| (q3 <<< (v4 &&& (31 : Int32))), v4 + (1 : Int32)) (Option.some.inj h).symm)
def f_X7_racks_j82_5 (k5v1 : Int32) (k5v2 : Int32) (v3 : Int32) (v4 : Int32) (M : xM) : Option ((Int32 × Int32) ⊕ (Int32)) := f_X7_racks_j83_5 k5v1 k5v2 v3 v4 (0 : Int32) M
theorem f_X7_racks_j82_5_ok {X : List Int32} {k5v1 : Int32} {k5v2 : Int32} {v3 : Int32} {v4 : Int32} {M : xM} {p : (Int32 × Int32) ⊕ (Int32)} {r : xR} (h : f_X7_racks_j82_5 k5v1 k5v2 v3 v4 M = some p) (h0 : ∀ s', p = .inl s' → xq X xe 168 5 [(0, .inr (.inr (14, 6, 0))), (1, .inl k5v1), (2, .inl k5v2), (3, .inl s'.1), (4, .inl s'.2)] [] M r) (hr : ∀ q, p = .inr (q) → ((some (.inl q), M) : xR) = r) : xq X xe 168 82 [(0, .inr (.inr (14, 6, 0))), (1, .inl k5v1), (2, .inl k5v2), (3, .inl v3), (4, .inl v4)] [] M r := by
  unfold f_X7_racks_j82_5 at h
  refine xq_blk 1 (pc' := 83) (ls' := [(0, .inr (.inr (14, 6, 0))), (1, .inl k5v1), (2, .inl k5v2), (3, .inl v3), (4, .inl v4)]) (st' := [.inl (0 : Int32)]) (M' := M) rfl ?_
  exact xq_sub (a := [(0, .inr (.inr (14, 6, 0))), (1, .inl k5v1), (2, .inl k5v2), (3, .inl v3), (4, .inl v4)]) ⟨rfl, rfl, rfl, rfl, rfl, trivial⟩ rfl (f_X7_racks_j83_5_ok h h0 hr)
def f_X7_racks_j78_5 (k5v1 : Int32) (k5v2 : Int32) (v3 : Int32) (v4 : Int32) (M : xM) : Option ((Int32 × Int32) ⊕ (Int32)) := f_X7_racks_j83_5 k5v1 k5v2 v3 v4 (1 : Int32) M
theorem f_X7_racks_j78_5_ok {X : List Int32} {k5v1 : Int32} {k5v2 : Int32} {v3 : Int32} {v4 : Int32} {M : xM} {p : (Int32 × Int32) ⊕ (Int32)} {r : xR} (h : f_X7_racks_j78_5 k5v1 k5v2 v3 v4 M = some p) (h0 : ∀ s', p = .inl s' → xq X xe 168 5 [(0, .inr (.inr (14, 6, 0))), (1, .inl k5v1), (2, .inl k5v2), (3, .inl s'.1), (4, .inl s'.2)] [] M r) (hr : ∀ q, p = .inr (q) → ((some (.inl q), M) : xR) = r) : xq X xe 168 78 [(0, .inr (.inr (14, 6, 0))), (1, .inl k5v1), (2, .inl k5v2), (3, .inl v3), (4, .inl v4)] [] M r := by
  unfold f_X7_racks_j78_5 at h
  refine xq_blk 2 (pc' := 83) (ls' := [(0, .inr (.inr (14, 6, 0))), (1, .inl k5v1), (2, .inl k5v2), (3, .inl v3), (4, .inl v4)]) (st' := [.inl (1 : Int32)]) (M' := M) rfl ?_
  exact xq_sub (a := [(0, .inr (.inr (14, 6, 0))), (1, .inl k5v1), (2, .inl k5v2), (3, .inl v3), (4, .inl v4)]) ⟨rfl, rfl, rfl, rfl, rfl, trivial⟩ rfl (f_X7_racks_j83_5_ok h h0 hr)
def f_X7_racks_j57_5 (k5v1 : Int32) (k5v2 : Int32) (v3 : Int32) (v4 : Int32) (v5 : Int32) (M : xM) : Option ((Int32 × Int32) ⊕ (Int32)) := if k5v2 = (6 : Int32) then ((f_X7_personAt (0 : Int32) v5 M).bind (fun q8 => if xp_in q8 3540 = true then (if (M.1 6 1 q8.toNatClampNeg) = k5v1 then (f_X7_racks_j82_5 k5v1 k5v2 v3 v4 M) else (f_X7_racks_j78_5 k5v1 k5v2 v3 v4 M)) else none)) else (f_X7_racks_j82_5 k5v1 k5v2 v3 v4 M)
theorem f_X7_racks_j57_5_ok {X : List Int32} {k5v1 : Int32} {k5v2 : Int32} {v3 : Int32} {v4 : Int32} {v5 : Int32} {M : xM} {p : (Int32 × Int32) ⊕ (Int32)} {r : xR} (h : f_X7_racks_j57_5 k5v1 k5v2 v3 v4 v5 M = some p) (h0 : ∀ s', p = .inl s' → xq X xe 168 5 [(0, .inr (.inr (14, 6, 0))), (1, .inl k5v1), (2, .inl k5v2), (3, .inl s'.1), (4, .inl s'.2)] [] M r) (hr : ∀ q, p = .inr (q) → ((some (.inl q), M) : xR) = r) : xq X xe 168 57 [(0, .inr (.inr (14, 6, 0))), (1, .inl k5v1), (2, .inl k5v2), (3, .inl v3), (4, .inl v4), (5, .inl v5)] [] M r := by
  unfold f_X7_racks_j57_5 at h
  refine xq_blk 2 (pc' := 60) (ls' := [(0, .inr (.inr (14, 6, 0))), (1, .inl k5v1), (2, .inl k5v2), (3, .inl v3), (4, .inl v4), (5, .inl v5)]) (st' := [.inl (6 : Int32), .inl k5v2]) (M' := M) rfl ?_
  refine xq_ite h (fun c12 h => ?_) (fun c12 h => ?_)
  · refine xq_core (pc' := 63) (ls' := [(0, .inr (.inr (14, 6, 0))), (1, .inl k5v1), (2, .inl k5v2), (3, .inl v3), (4, .inl v4), (5, .inl v5)]) (st' := []) rfl (if_pos c12) ?_
    refine xq_blk 4 (pc' := 70) (ls' := [(0, .inr (.inr (14, 6, 0))), (1, .inl k5v1), (2, .inl k5v2), (3, .inl v3), (4, .inl v4), (5, .inl v5)]) (st' := [.inl v5, .inl (0 : Int32), .inr (.inr (15, 6, 1))]) (M' := M) rfl ?_
    refine xq_bind h (fun q8 e9 h => ?_)
    refine xq_call (j := 117) (as := [.inl (0 : Int32), .inl v5]) (pc' := 73) (ls' := [(0, .inr (.inr (14, 6, 0))), (1, .inl k5v1), (2, .inl k5v2), (3, .inl v3), (4, .inl v4), (5, .inl v5)]) (st' := [.inr (.inr (15, 6, 1))]) rfl rfl (f_X7_personAt_ok e9) ?_
    refine xq_guard h (fun g10 h => ?_)
    refine xq_prim (st' := [.inl (M.1 6 1 q8.toNatClampNeg)]) (M' := M) rfl rfl rfl (xg_ald0 rfl g10) ?_
    refine xq_blk 1 (pc' := 75) (ls' := [(0, .inr (.inr (14, 6, 0))), (1, .inl k5v1), (2, .inl k5v2), (3, .inl v3), (4, .inl v4), (5, .inl v5)]) (st' := [.inl k5v1, .inl (M.1 6 1 q8.toNatClampNeg)]) (M' := M) rfl ?_
    refine xq_ite h (fun c11 h => ?_) (fun c11 h => ?_)
    · refine xq_core (pc' := 82) (ls' := [(0, .inr (.inr (14, 6, 0))), (1, .inl k5v1), (2, .inl k5v2), (3, .inl v3), (4, .inl v4), (5, .inl v5)]) (st' := []) rfl (if_pos c11) ?_
      exact xq_sub (a := [(0, .inr (.inr (14, 6, 0))), (1, .inl k5v1), (2, .inl k5v2), (3, .inl v3), (4, .inl v4)]) ⟨rfl, rfl, rfl, rfl, rfl, trivial⟩ rfl (f_X7_racks_j82_5_ok h h0 hr)
    · refine xq_core (pc' := 78) (ls' := [(0, .inr (.inr (14, 6, 0))), (1, .inl k5v1), (2, .inl k5v2), (3, .inl v3), (4, .inl v4), (5, .inl v5)]) (st' := []) rfl (if_neg c11) ?_
      exact xq_sub (a := [(0, .inr (.inr (14, 6, 0))), (1, .inl k5v1), (2, .inl k5v2), (3, .inl v3), (4, .inl v4)]) ⟨rfl, rfl, rfl, rfl, rfl, trivial⟩ rfl (f_X7_racks_j78_5_ok h h0 hr)
  · refine xq_core (pc' := 82) (ls' := [(0, .inr (.inr (14, 6, 0))), (1, .inl k5v1), (2, .inl k5v2), (3, .inl v3), (4, .inl v4), (5, .inl v5)]) (st' := []) rfl (if_neg c12) ?_
    exact xq_sub (a := [(0, .inr (.inr (14, 6, 0))), (1, .inl k5v1), (2, .inl k5v2), (3, .inl v3), (4, .inl v4)]) ⟨rfl, rfl, rfl, rfl, rfl, trivial⟩ rfl (f_X7_racks_j82_5_ok h h0 hr)
def f_X7_racks_l5 (k5v1 : Int32) (k5v2 : Int32) (M : xM) (s5 : Int32 × Int32) : Option ((Int32 × Int32) ⊕ (Int32)) := if s5.2 < (8 : Int32) then ((f_X7_owner (0 : Int32) k5v1 s5.2 M).bind (fun q1 => if q1 = (-6 : Int32) then (f_X7_racks_j82_5 k5v1 k5v2 s5.1 s5.2 M) else (if k5v2 = (4 : Int32) then (f_X7_racks_j78_5 k5v1 k5v2 s5.1 s5.2 M) else (if k5v2 = (5 : Int32) then ((f_X7_personAt (0 : Int32) q1 M).bind (fun q5 => if xp_in (q5 + (5 : Int32)) 3540 = true then (if (M.1 6 1 (q5 + (5 : Int32)).toNatClampNeg) = (-6 : Int32) then (f_X7_racks_j57_5 k5v1 k5v2 s5.1 s5.2 q1 M) else (f_X7_racks_j78_5 k5v1 k5v2 s5.1 s5.2 M)) else none)) else (f_X7_racks_j57_5 k5v1 k5v2 s5.1 s5.2 q1 M))))) else (Option.map Sum.inr (some (s5.1)))
theorem f_X7_racks_l5_ok {X : List Int32} {k5v1 : Int32} {k5v2 : Int32} {M : xM} {s5 : Int32 × Int32} {p : (Int32 × Int32) ⊕ (Int32)} {r : xR} (h : f_X7_racks_l5 k5v1 k5v2 M s5 = some p) (h0 : ∀ s', p = .inl s' → xq X xe 168 5 [(0, .inr (.inr (14, 6, 0))), (1, .inl k5v1), (2, .inl k5v2), (3, .inl s'.1), (4, .inl s'.2)] [] M r) (hr : ∀ q, p = .inr (q) → ((some (.inl q), M) : xR) = r) : xq X xe 168 5 [(0, .inr (.inr (14, 6, 0))), (1, .inl k5v1), (2, .inl k5v2), (3, .inl s5.1), (4, .inl s5.2)] [] M r := by
  unfold f_X7_racks_l5 at h
  refine xq_blk 2 (pc' := 9) (ls' := [(0, .inr (.inr (14, 6, 0))), (1, .inl k5v1), (2, .inl k5v2), (3, .inl s5.1), (4, .inl s5.2)]) (st' := [.inl (8 : Int32), .inl s5.2]) (M' := M) rfl ?_
  refine xq_ite h (fun c17 h => ?_) (fun c17 h => ?_)
  · refine xq_core (pc' := 12) (ls' := [(0, .inr (.inr (14, 6, 0))), (1, .inl k5v1), (2, .inl k5v2), (3, .inl s5.1), (4, .inl s5.2)]) (st' := []) rfl (if_pos c17) ?_
    refine xq_blk 4 (pc' := 17) (ls' := [(0, .inr (.inr (14, 6, 0))), (1, .inl k5v1), (2, .inl k5v2), (3, .inl s5.1), (4, .inl s5.2)]) (st' := [.inl s5.2, .inl k5v1, .inl (0 : Int32), .inr (.inr (14, 6, 0))]) (M' := M) rfl ?_
    refine xq_bind h (fun q1 e2 h => ?_)
    refine xq_call (j := 137) (as := [.inr (.inr (14, 6, 0)), .inl (0 : Int32), .inl k5v1, .inl s5.2]) (pc' := 20) (ls' := [(0, .inr (.inr (14, 6, 0))), (1, .inl k5v1), (2, .inl k5v2), (3, .inl s5.1), (4, .inl s5.2)]) (st' := []) rfl rfl (f_X7_owner_ok e2) ?_
    refine xq_blk 3 (pc' := 26) (ls' := [(5, .inl q1), (0, .inr (.inr (14, 6, 0))), (1, .inl k5v1), (2, .inl k5v2), (3, .inl s5.1), (4, .inl s5.2)]) (st' := [.inl (-6 : Int32), .inl q1]) (M' := M) rfl ?_
    refine xq_ite h (fun c16 h => ?_) (fun c16 h => ?_)
    · refine xq_core (pc' := 82) (ls' := [(5, .inl q1), (0, .inr (.inr (14, 6, 0))), (1, .inl k5v1), (2, .inl k5v2), (3, .inl s5.1), (4, .inl s5.2)]) (st' := []) rfl (if_pos c16) ?_
      exact xq_sub (a := [(0, .inr (.inr (14, 6, 0))), (1, .inl k5v1), (2, .inl k5v2), (3, .inl s5.1), (4, .inl s5.2)]) ⟨rfl, rfl, rfl, rfl, rfl, trivial⟩ rfl (f_X7_racks_j82_5_ok h h0 hr)
    · refine xq_core (pc' := 29) (ls' := [(5, .inl q1), (0, .inr (.inr (14, 6, 0))), (1, .inl k5v1), (2, .inl k5v2), (3, .inl s5.1), (4, .inl s5.2)]) (st' := []) rfl (if_neg c16) ?_
      refine xq_blk 2 (pc' := 31) (ls' := [(5, .inl q1), (0, .inr (.inr (14, 6, 0))), (1, .inl k5v1), (2, .inl k5v2), (3, .inl s5.1), (4, .inl s5.2)]) (st' := [.inl (4 : Int32), .inl k5v2]) (M' := M) rfl ?_
      refine xq_ite h (fun c15 h => ?_) (fun c15 h => ?_)
      · refine xq_core (pc' := 78) (ls' := [(5, .inl q1), (0, .inr (.inr (14, 6, 0))), (1, .inl k5v1), (2, .inl k5v2), (3, .inl s5.1), (4, .inl s5.2)]) (st' := []) rfl (if_pos c15) ?_
        exact xq_sub (a := [(0, .inr (.inr (14, 6, 0))), (1, .inl k5v1), (2, .inl k5v2), (3, .inl s5.1), (4, .inl s5.2)]) ⟨rfl, rfl, rfl, rfl, rfl, trivial⟩ rfl (f_X7_racks_j78_5_ok h h0 hr)
      · refine xq_core (pc' := 34) (ls' := [(5, .inl q1), (0, .inr (.inr (14, 6, 0))), (1, .inl k5v1), (2, .inl k5v2), (3, .inl s5.1), (4, .inl s5.2)]) (st' := []) rfl (if_neg c15) ?_
        refine xq_blk 2 (pc' := 36) (ls' := [(5, .inl q1), (0, .inr (.inr (14, 6, 0))), (1, .inl k5v1), (2, .inl k5v2), (3, .inl s5.1), (4, .inl s5.2)]) (st' := [.inl (5 : Int32), .inl k5v2]) (M' := M) rfl ?_
        refine xq_ite h (fun c14 h => ?_) (fun c14 h => ?_)
        · refine xq_core (pc' := 39) (ls' := [(5, .inl q1), (0, .inr (.inr (14, 6, 0))), (1, .inl k5v1), (2, .inl k5v2), (3, .inl s5.1), (4, .inl s5.2)]) (st' := []) rfl (if_pos c14) ?_
          refine xq_blk 4 (pc' := 46) (ls' := [(5, .inl q1), (0, .inr (.inr (14, 6, 0))), (1, .inl k5v1), (2, .inl k5v2), (3, .inl s5.1), (4, .inl s5.2)]) (st' := [.inl q1, .inl (0 : Int32), .inr (.inr (15, 6, 1))]) (M' := M) rfl ?_
          refine xq_bind h (fun q5 e6 h => ?_)
          refine xq_call (j := 117) (as := [.inl (0 : Int32), .inl q1]) (pc' := 49) (ls' := [(5, .inl q1), (0, .inr (.inr (14, 6, 0))), (1, .inl k5v1), (2, .inl k5v2), (3, .inl s5.1), (4, .inl s5.2)]) (st' := [.inr (.inr (15, 6, 1))]) rfl rfl (f_X7_personAt_ok e6) ?_
          refine xq_blk 2 (pc' := 51) (ls' := [(5, .inl q1), (0, .inr (.inr (14, 6, 0))), (1, .inl k5v1), (2, .inl k5v2), (3, .inl s5.1), (4, .inl s5.2)]) (st' := [.inl (q5 + (5 : Int32)), .inr (.inr (15, 6, 1))]) (M' := M) rfl ?_
          refine xq_guard h (fun g7 h => ?_)
          refine xq_prim (st' := [.inl (M.1 6 1 (q5 + (5 : Int32)).toNatClampNeg)]) (M' := M) rfl rfl rfl (xg_ald0 rfl g7) ?_
          refine xq_blk 1 (pc' := 54) (ls' := [(5, .inl q1), (0, .inr (.inr (14, 6, 0))), (1, .inl k5v1), (2, .inl k5v2), (3, .inl s5.1), (4, .inl s5.2)]) (st' := [.inl (-6 : Int32), .inl (M.1 6 1 (q5 + (5 : Int32)).toNatClampNeg)]) (M' := M) rfl ?_
          refine xq_ite h (fun c13 h => ?_) (fun c13 h => ?_)
          · refine xq_core (pc' := 57) (ls' := [(5, .inl q1), (0, .inr (.inr (14, 6, 0))), (1, .inl k5v1), (2, .inl k5v2), (3, .inl s5.1), (4, .inl s5.2)]) (st' := []) rfl (if_pos c13) ?_
            exact xq_sub (a := [(0, .inr (.inr (14, 6, 0))), (1, .inl k5v1), (2, .inl k5v2), (3, .inl s5.1), (4, .inl s5.2), (5, .inl q1)]) ⟨rfl, rfl, rfl, rfl, rfl, rfl, trivial⟩ rfl (f_X7_racks_j57_5_ok h h0 hr)
          · refine xq_core (pc' := 78) (ls' := [(5, .inl q1), (0, .inr (.inr (14, 6, 0))), (1, .inl k5v1), (2, .inl k5v2), (3, .inl s5.1), (4, .inl s5.2)]) (st' := []) rfl (if_neg c13) ?_
            exact xq_sub (a := [(0, .inr (.inr (14, 6, 0))), (1, .inl k5v1), (2, .inl k5v2), (3, .inl s5.1), (4, .inl s5.2)]) ⟨rfl, rfl, rfl, rfl, rfl, trivial⟩ rfl (f_X7_racks_j78_5_ok h h0 hr)
        · refine xq_core (pc' := 57) (ls' := [(5, .inl q1), (0, .inr (.inr (14, 6, 0))), (1, .inl k5v1), (2, .inl k5v2), (3, .inl s5.1), (4, .inl s5.2)]) (st' := []) rfl (if_neg c14) ?_
          exact xq_sub (a := [(0, .inr (.inr (14, 6, 0))), (1, .inl k5v1), (2, .inl k5v2), (3, .inl s5.1), (4, .inl s5.2), (5, .inl q1)]) ⟨rfl, rfl, rfl, rfl, rfl, rfl, trivial⟩ rfl (f_X7_racks_j57_5_ok h h0 hr)
  · refine xq_core (pc' := 102) (ls' := [(0, .inr (.inr (14, 6, 0))), (1, .inl k5v1), (2, .inl k5v2), (3, .inl s5.1), (4, .inl s5.2)]) (st' := []) rfl (if_neg c17) ?_
    refine xq_map h (fun p h e => ?_)
    replace hr := fun q e' => hr q (e.symm.trans (congrArg Sum.inr e'))
    clear e
    refine xq_blk 1 (pc' := 103) (ls' := [(0, .inr (.inr (14, 6, 0))), (1, .inl k5v1), (2, .inl k5v2), (3, .inl s5.1), (4, .inl s5.2)]) (st' := [.inl s5.1]) (M' := M) rfl ?_
    exact (hr _ (Option.some.inj h).symm) ▸ xq_ret rfl
def f_X7_racks (a1 : Int32) (a2 : Int32) (M : xM) : Option (Int32) := xlp (f_X7_racks_l5 a1 a2 M) 4000 ((0 : Int32), (0 : Int32))
theorem f_X7_racks_run {X : List Int32} {a1 : Int32} {a2 : Int32} {M : xM} {p : Int32} {r : xR} (h : f_X7_racks a1 a2 M = some p) (hr : ∀ q, p = q → ((some (.inl q), M) : xR) = r) : xq X xe 168 0 [(0, .inr (.inr (14, 6, 0))), (1, .inl a1), (2, .inl a2)] [] M r := by
  unfold f_X7_racks at h
  refine xq_blk 4 (pc' := 5) (ls' := [(4, .inl (0 : Int32)), (3, .inl (0 : Int32)), (0, .inr (.inr (14, 6, 0))), (1, .inl a1), (2, .inl a2)]) (st' := []) (M' := M) rfl ?_
  refine xq_sub (a := [(0, .inr (.inr (14, 6, 0))), (1, .inl a1), (2, .inl a2), (3, .inl (0 : Int32)), (4, .inl (0 : Int32))]) ⟨rfl, rfl, rfl, rfl, rfl, trivial⟩ rfl ?_
  exact xlp_ok (P := fun s5 => xq X xe 168 5 [(0, .inr (.inr (14, 6, 0))), (1, .inl a1), (2, .inl a2), (3, .inl s5.1), (4, .inl s5.2)] [] M r) (fun s p' hb g0 g1 => f_X7_racks_l5_ok hb g0 (fun q e => hr q (g1 _ e).symm)) 4000 _ h
theorem f_X7_racks_ok {X : List Int32} {a1 : Int32} {a2 : Int32} {M : xM} {p : Int32} (h : f_X7_racks a1 a2 M = some p) : xq X xe 168 0 [(0, .inr (.inr (14, 6, 0))), (1, .inl a1), (2, .inl a2)] [] M ((some (.inl p), M) : xR) := f_X7_racks_run h (fun q e => by rw [e])
def f_X7_shed (a1 : Int32) (a2 : Int32) (M : xM) : Option (Int32) := (f_X7_isShed a1 M).bind (fun q1 => if q1 = (0 : Int32) then (some ((-1 : Int32))) else (if a2 = (0 : Int32) then (if xp_in ((8 : Int32) + a1) 3540 = true then (some (((255 : Int32) - (M.1 6 1 ((8 : Int32) + a1).toNatClampNeg)))) else none) else (if a2 = (1 : Int32) then ((f_X7_permits (0 : Int32) a1 M).bind (fun q5 => some (q5))) else (if a2 = (2 : Int32) then ((f_X7_given (0 : Int32) a1 M).bind (fun q8 => some (q8))) else (if a2 = (3 : Int32) then (if xp_in ((11 : Int32) + a1) 3540 = true then (some ((M.1 6 1 ((11 : Int32) + a1).toNatClampNeg))) else none) else (if a2 = (4 : Int32) then ((f_X7_racks a1 a2 M).bind (fun q13 => some (q13))) else (if a2 = (5 : Int32) then ((f_X7_racks a1 a2 M).bind (fun q16 => some (q16))) else (if a2 = (6 : Int32) then ((f_X7_racks a1 a2 M).bind (fun q19 => some (q19))) else (some ((-2 : Int32)))))))))))
theorem f_X7_shed_run {X : List Int32} {a1 : Int32} {a2 : Int32} {M : xM} {p : Int32} {r : xR} (h : f_X7_shed a1 a2 M = some p) (hr : ∀ q, p = q → ((some (.inl q), M) : xR) = r) : xq X xe 169 0 [(0, .inr (.inr (14, 6, 0))), (1, .inl a1), (2, .inl a2)] [] M r := by
  unfold f_X7_shed at h
  refine xq_blk 1 (pc' := 1) (ls' := [(0, .inr (.inr (14, 6, 0))), (1, .inl a1), (2, .inl a2)]) (st' := [.inl a1]) (M' := M) rfl ?_
  refine xq_bind h (fun q1 e2 h => ?_)
  refine xq_call (j := 142) (as := [.inl a1]) (pc' := 4) (ls' := [(0, .inr (.inr (14, 6, 0))), (1, .inl a1), (2, .inl a2)]) (st' := []) rfl rfl (f_X7_isShed_ok e2) ?_
  refine xq_ite h (fun c22 h => ?_) (fun c22 h => ?_)
  · refine xq_core (pc' := 7) (ls' := [(0, .inr (.inr (14, 6, 0))), (1, .inl a1), (2, .inl a2)]) (st' := []) rfl (if_pos c22) ?_
    refine xq_blk 1 (pc' := 8) (ls' := [(0, .inr (.inr (14, 6, 0))), (1, .inl a1), (2, .inl a2)]) (st' := [.inl (-1 : Int32)]) (M' := M) rfl ?_
    exact (hr _ (Option.some.inj h).symm) ▸ xq_ret rfl
  · refine xq_core (pc' := 9) (ls' := [(0, .inr (.inr (14, 6, 0))), (1, .inl a1), (2, .inl a2)]) (st' := []) rfl (if_neg c22) ?_
    refine xq_blk 1 (pc' := 10) (ls' := [(0, .inr (.inr (14, 6, 0))), (1, .inl a1), (2, .inl a2)]) (st' := [.inl a2]) (M' := M) rfl ?_
    refine xq_ite h (fun c4 h => ?_) (fun c4 h => ?_)
    · refine xq_tsw (pc' := 52) (ls' := [(0, .inr (.inr (14, 6, 0))), (1, .inl a1), (2, .inl a2)]) (st' := []) rfl rfl (if_pos c4) ?_
      refine xq_blk 6 (pc' := 63) (ls' := [(0, .inr (.inr (14, 6, 0))), (1, .inl a1), (2, .inl a2)]) (st' := [.inl ((8 : Int32) + a1), .inr (.inr (15, 6, 1)), .inl (255 : Int32)]) (M' := M) rfl ?_
      refine xq_guard h (fun g3 h => ?_)
      refine xq_prim (st' := [.inl (M.1 6 1 ((8 : Int32) + a1).toNatClampNeg), .inl (255 : Int32)]) (M' := M) rfl rfl rfl (xg_ald0 rfl g3) ?_
      refine xq_blk 1 (pc' := 65) (ls' := [(0, .inr (.inr (14, 6, 0))), (1, .inl a1), (2, .inl a2)]) (st' := [.inl ((255 : Int32) - (M.1 6 1 ((8 : Int32) + a1).toNatClampNeg))]) (M' := M) rfl ?_
      exact (hr _ (Option.some.inj h).symm) ▸ xq_ret rfl
    · refine xq_ite h (fun c7 h => ?_) (fun c7 h => ?_)
      · refine xq_tsw (pc' := 66) (ls' := [(0, .inr (.inr (14, 6, 0))), (1, .inl a1), (2, .inl a2)]) (st' := []) rfl rfl (Eq.trans (if_neg c4) (if_pos c7)) ?_
        refine xq_blk 3 (pc' := 69) (ls' := [(0, .inr (.inr (14, 6, 0))), (1, .inl a1), (2, .inl a2)]) (st' := [.inl a1, .inl (0 : Int32), .inr (.inr (14, 6, 0))]) (M' := M) rfl ?_
        refine xq_bind h (fun q5 e6 h => ?_)
        refine xq_call (j := 125) (as := [.inr (.inr (14, 6, 0)), .inl (0 : Int32), .inl a1]) (pc' := 72) (ls' := [(0, .inr (.inr (14, 6, 0))), (1, .inl a1), (2, .inl a2)]) (st' := []) rfl rfl (f_X7_permits_ok e6) ?_
        exact (hr _ (Option.some.inj h).symm) ▸ xq_ret rfl
      · refine xq_ite h (fun c10 h => ?_) (fun c10 h => ?_)
        · refine xq_tsw (pc' := 73) (ls' := [(0, .inr (.inr (14, 6, 0))), (1, .inl a1), (2, .inl a2)]) (st' := []) rfl rfl (Eq.trans (if_neg c4) (Eq.trans (if_neg c7) (if_pos c10))) ?_
          refine xq_blk 3 (pc' := 76) (ls' := [(0, .inr (.inr (14, 6, 0))), (1, .inl a1), (2, .inl a2)]) (st' := [.inl a1, .inl (0 : Int32), .inr (.inr (14, 6, 0))]) (M' := M) rfl ?_
          refine xq_bind h (fun q8 e9 h => ?_)
          refine xq_call (j := 126) (as := [.inr (.inr (14, 6, 0)), .inl (0 : Int32), .inl a1]) (pc' := 79) (ls' := [(0, .inr (.inr (14, 6, 0))), (1, .inl a1), (2, .inl a2)]) (st' := []) rfl rfl (f_X7_given_ok e9) ?_
          exact (hr _ (Option.some.inj h).symm) ▸ xq_ret rfl
        · refine xq_ite h (fun c12 h => ?_) (fun c12 h => ?_)
          · refine xq_tsw (pc' := 80) (ls' := [(0, .inr (.inr (14, 6, 0))), (1, .inl a1), (2, .inl a2)]) (st' := []) rfl rfl (Eq.trans (if_neg c4) (Eq.trans (if_neg c7) (Eq.trans (if_neg c10) (if_pos c12)))) ?_
            refine xq_blk 5 (pc' := 88) (ls' := [(0, .inr (.inr (14, 6, 0))), (1, .inl a1), (2, .inl a2)]) (st' := [.inl ((11 : Int32) + a1), .inr (.inr (15, 6, 1))]) (M' := M) rfl ?_
            refine xq_guard h (fun g11 h => ?_)
            refine xq_prim (st' := [.inl (M.1 6 1 ((11 : Int32) + a1).toNatClampNeg)]) (M' := M) rfl rfl rfl (xg_ald0 rfl g11) ?_
            exact (hr _ (Option.some.inj h).symm) ▸ xq_ret rfl
          · refine xq_ite h (fun c15 h => ?_) (fun c15 h => ?_)
            · refine xq_tsw (pc' := 90) (ls' := [(0, .inr (.inr (14, 6, 0))), (1, .inl a1), (2, .inl a2)]) (st' := []) rfl rfl (Eq.trans (if_neg c4) (Eq.trans (if_neg c7) (Eq.trans (if_neg c10) (Eq.trans (if_neg c12) (if_pos c15))))) ?_
              refine xq_blk 3 (pc' := 93) (ls' := [(0, .inr (.inr (14, 6, 0))), (1, .inl a1), (2, .inl a2)]) (st' := [.inl a2, .inl a1, .inr (.inr (14, 6, 0))]) (M' := M) rfl ?_
              refine xq_bind h (fun q13 e14 h => ?_)
              refine xq_call (j := 168) (as := [.inr (.inr (14, 6, 0)), .inl a1, .inl a2]) (pc' := 96) (ls' := [(0, .inr (.inr (14, 6, 0))), (1, .inl a1), (2, .inl a2)]) (st' := []) rfl rfl (f_X7_racks_ok e14) ?_
              exact (hr _ (Option.some.inj h).symm) ▸ xq_ret rfl
            · refine xq_ite h (fun c18 h => ?_) (fun c18 h => ?_)
              · refine xq_tsw (pc' := 90) (ls' := [(0, .inr (.inr (14, 6, 0))), (1, .inl a1), (2, .inl a2)]) (st' := []) rfl rfl (Eq.trans (if_neg c4) (Eq.trans (if_neg c7) (Eq.trans (if_neg c10) (Eq.trans (if_neg c12) (Eq.trans (if_neg c15) (if_pos c18)))))) ?_
                refine xq_blk 3 (pc' := 93) (ls' := [(0, .inr (.inr (14, 6, 0))), (1, .inl a1), (2, .inl a2)]) (st' := [.inl a2, .inl a1, .inr (.inr (14, 6, 0))]) (M' := M) rfl ?_
                refine xq_bind h (fun q16 e17 h => ?_)
                refine xq_call (j := 168) (as := [.inr (.inr (14, 6, 0)), .inl a1, .inl a2]) (pc' := 96) (ls' := [(0, .inr (.inr (14, 6, 0))), (1, .inl a1), (2, .inl a2)]) (st' := []) rfl rfl (f_X7_racks_ok e17) ?_
                exact (hr _ (Option.some.inj h).symm) ▸ xq_ret rfl
              · refine xq_ite h (fun c21 h => ?_) (fun c21 h => ?_)
                · refine xq_tsw (pc' := 90) (ls' := [(0, .inr (.inr (14, 6, 0))), (1, .inl a1), (2, .inl a2)]) (st' := []) rfl rfl (Eq.trans (if_neg c4) (Eq.trans (if_neg c7) (Eq.trans (if_neg c10) (Eq.trans (if_neg c12) (Eq.trans (if_neg c15) (Eq.trans (if_neg c18) (if_pos c21))))))) ?_
                  refine xq_blk 3 (pc' := 93) (ls' := [(0, .inr (.inr (14, 6, 0))), (1, .inl a1), (2, .inl a2)]) (st' := [.inl a2, .inl a1, .inr (.inr (14, 6, 0))]) (M' := M) rfl ?_
                  refine xq_bind h (fun q19 e20 h => ?_)
                  refine xq_call (j := 168) (as := [.inr (.inr (14, 6, 0)), .inl a1, .inl a2]) (pc' := 96) (ls' := [(0, .inr (.inr (14, 6, 0))), (1, .inl a1), (2, .inl a2)]) (st' := []) rfl rfl (f_X7_racks_ok e20) ?_
                  exact (hr _ (Option.some.inj h).symm) ▸ xq_ret rfl
                · refine xq_tsw (pc' := 97) (ls' := [(0, .inr (.inr (14, 6, 0))), (1, .inl a1), (2, .inl a2)]) (st' := []) rfl rfl (Eq.trans (if_neg c4) (Eq.trans (if_neg c7) (Eq.trans (if_neg c10) (Eq.trans (if_neg c12) (Eq.trans (if_neg c15) (Eq.trans (if_neg c18) (Eq.trans (if_neg c21) (rfl)))))))) ?_
                  refine xq_blk 1 (pc' := 99) (ls' := [(0, .inr (.inr (14, 6, 0))), (1, .inl a1), (2, .inl a2)]) (st' := [.inl (-2 : Int32)]) (M' := M) rfl ?_
                  exact (hr _ (Option.some.inj h).symm) ▸ xq_ret rfl
theorem f_X7_shed_ok {X : List Int32} {a1 : Int32} {a2 : Int32} {M : xM} {p : Int32} (h : f_X7_shed a1 a2 M = some p) : xq X xe 169 0 [(0, .inr (.inr (14, 6, 0))), (1, .inl a1), (2, .inl a2)] [] M ((some (.inl p), M) : xR) := f_X7_shed_run h (fun q e => by rw [e])
def f_X7_waiting (a1 : Int32) (a2 : Int32) (a3 : Int32) (M : xM) : Option (Int32) := (f_X7_isShed a1 M).bind (fun q1 => if q1 = (0 : Int32) then (some ((-1 : Int32))) else (if xp_in ((11 : Int32) + a1) 3540 = true then ((f_X7_in a2.toInt64 (0 : Int64) (((M.1 6 1 ((11 : Int32) + a1).toNatClampNeg) - (1 : Int32)).toInt64) M).bind (fun q4 => if q4 = (0 : Int32) then (some ((-1 : Int32))) else ((f_X7_in a3.toInt64 (0 : Int64) (2 : Int64) M).bind (fun q6 => if q6 = (0 : Int32) then (some ((-2 : Int32))) else ((f_X7_placeAt (0 : Int32) a1 a2 M).bind (fun q8 => if xp_in (q8 + a3) 3540 = true then (some ((M.1 6 1 (q8 + a3).toNatClampNeg))) else none)))))) else none))
theorem f_X7_waiting_run {X : List Int32} {a1 : Int32} {a2 : Int32} {a3 : Int32} {M : xM} {p : Int32} {r : xR} (h : f_X7_waiting a1 a2 a3 M = some p) (hr : ∀ q, p = q → ((some (.inl q), M) : xR) = r) : xq X xe 170 0 [(0, .inr (.inr (14, 6, 0))), (1, .inl a1), (2, .inl a2), (3, .inl a3)] [] M r := by
  unfold f_X7_waiting at h
  refine xq_blk 1 (pc' := 1) (ls' := [(0, .inr (.inr (14, 6, 0))), (1, .inl a1), (2, .inl a2), (3, .inl a3)]) (st' := [.inl a1]) (M' := M) rfl ?_
  refine xq_bind h (fun q1 e2 h => ?_)
  refine xq_call (j := 142) (as := [.inl a1]) (pc' := 4) (ls' := [(0, .inr (.inr (14, 6, 0))), (1, .inl a1), (2, .inl a2), (3, .inl a3)]) (st' := []) rfl rfl (f_X7_isShed_ok e2) ?_
  refine xq_ite h (fun c13 h => ?_) (fun c13 h => ?_)
  · refine xq_core (pc' := 28) (ls' := [(0, .inr (.inr (14, 6, 0))), (1, .inl a1), (2, .inl a2), (3, .inl a3)]) (st' := []) rfl (if_pos c13) ?_
    refine xq_blk 1 (pc' := 29) (ls' := [(0, .inr (.inr (14, 6, 0))), (1, .inl a1), (2, .inl a2), (3, .inl a3)]) (st' := [.inl (-1 : Int32)]) (M' := M) rfl ?_
    exact (hr _ (Option.some.inj h).symm) ▸ xq_ret rfl
  · refine xq_core (pc' := 7) (ls' := [(0, .inr (.inr (14, 6, 0))), (1, .inl a1), (2, .inl a2), (3, .inl a3)]) (st' := []) rfl (if_neg c13) ?_
    refine xq_blk 8 (pc' := 18) (ls' := [(0, .inr (.inr (14, 6, 0))), (1, .inl a1), (2, .inl a2), (3, .inl a3)]) (st' := [.inl ((11 : Int32) + a1), .inr (.inr (15, 6, 1)), .inr (.inl (0 : Int64)), .inr (.inl a2.toInt64)]) (M' := M) rfl ?_
    refine xq_guard h (fun g3 h => ?_)
    refine xq_prim (st' := [.inl (M.1 6 1 ((11 : Int32) + a1).toNatClampNeg), .inr (.inl (0 : Int64)), .inr (.inl a2.toInt64)]) (M' := M) rfl rfl rfl (xg_ald0 rfl g3) ?_
    refine xq_blk 3 (pc' := 22) (ls' := [(0, .inr (.inr (14, 6, 0))), (1, .inl a1), (2, .inl a2), (3, .inl a3)]) (st' := [.inr (.inl (((M.1 6 1 ((11 : Int32) + a1).toNatClampNeg) - (1 : Int32)).toInt64)), .inr (.inl (0 : Int64)), .inr (.inl a2.toInt64)]) (M' := M) rfl ?_
    refine xq_bind h (fun q4 e5 h => ?_)
    refine xq_call (j := 119) (as := [.inr (.inl a2.toInt64), .inr (.inl (0 : Int64)), .inr (.inl (((M.1 6 1 ((11 : Int32) + a1).toNatClampNeg) - (1 : Int32)).toInt64))]) (pc' := 25) (ls' := [(0, .inr (.inr (14, 6, 0))), (1, .inl a1), (2, .inl a2), (3, .inl a3)]) (st' := []) rfl rfl (f_X7_in_ok e5) ?_
    refine xq_ite h (fun c12 h => ?_) (fun c12 h => ?_)
    · refine xq_core (pc' := 28) (ls' := [(0, .inr (.inr (14, 6, 0))), (1, .inl a1), (2, .inl a2), (3, .inl a3)]) (st' := []) rfl (if_pos c12) ?_
      refine xq_blk 1 (pc' := 29) (ls' := [(0, .inr (.inr (14, 6, 0))), (1, .inl a1), (2, .inl a2), (3, .inl a3)]) (st' := [.inl (-1 : Int32)]) (M' := M) rfl ?_
      exact (hr _ (Option.some.inj h).symm) ▸ xq_ret rfl
    · refine xq_core (pc' := 30) (ls' := [(0, .inr (.inr (14, 6, 0))), (1, .inl a1), (2, .inl a2), (3, .inl a3)]) (st' := []) rfl (if_neg c12) ?_
      refine xq_blk 4 (pc' := 36) (ls' := [(0, .inr (.inr (14, 6, 0))), (1, .inl a1), (2, .inl a2), (3, .inl a3)]) (st' := [.inr (.inl (2 : Int64)), .inr (.inl (0 : Int64)), .inr (.inl a3.toInt64)]) (M' := M) rfl ?_
      refine xq_bind h (fun q6 e7 h => ?_)
      refine xq_call (j := 119) (as := [.inr (.inl a3.toInt64), .inr (.inl (0 : Int64)), .inr (.inl (2 : Int64))]) (pc' := 39) (ls' := [(0, .inr (.inr (14, 6, 0))), (1, .inl a1), (2, .inl a2), (3, .inl a3)]) (st' := []) rfl rfl (f_X7_in_ok e7) ?_
      refine xq_ite h (fun c11 h => ?_) (fun c11 h => ?_)
      · refine xq_core (pc' := 58) (ls' := [(0, .inr (.inr (14, 6, 0))), (1, .inl a1), (2, .inl a2), (3, .inl a3)]) (st' := []) rfl (if_pos c11) ?_
        refine xq_blk 1 (pc' := 60) (ls' := [(0, .inr (.inr (14, 6, 0))), (1, .inl a1), (2, .inl a2), (3, .inl a3)]) (st' := [.inl (-2 : Int32)]) (M' := M) rfl ?_
        exact (hr _ (Option.some.inj h).symm) ▸ xq_ret rfl
      · refine xq_core (pc' := 42) (ls' := [(0, .inr (.inr (14, 6, 0))), (1, .inl a1), (2, .inl a2), (3, .inl a3)]) (st' := []) rfl (if_neg c11) ?_
        refine xq_blk 5 (pc' := 49) (ls' := [(0, .inr (.inr (14, 6, 0))), (1, .inl a1), (2, .inl a2), (3, .inl a3)]) (st' := [.inl a2, .inl a1, .inl (0 : Int32), .inr (.inr (15, 6, 1))]) (M' := M) rfl ?_
        refine xq_bind h (fun q8 e9 h => ?_)
        refine xq_call (j := 123) (as := [.inl (0 : Int32), .inl a1, .inl a2]) (pc' := 52) (ls' := [(0, .inr (.inr (14, 6, 0))), (1, .inl a1), (2, .inl a2), (3, .inl a3)]) (st' := [.inr (.inr (15, 6, 1))]) rfl rfl (f_X7_placeAt_ok e9) ?_
        refine xq_blk 2 (pc' := 54) (ls' := [(0, .inr (.inr (14, 6, 0))), (1, .inl a1), (2, .inl a2), (3, .inl a3)]) (st' := [.inl (q8 + a3), .inr (.inr (15, 6, 1))]) (M' := M) rfl ?_
        refine xq_guard h (fun g10 h => ?_)
        refine xq_prim (st' := [.inl (M.1 6 1 (q8 + a3).toNatClampNeg)]) (M' := M) rfl rfl rfl (xg_ald0 rfl g10) ?_
        refine xq_blk 1 (pc' := 60) (ls' := [(0, .inr (.inr (14, 6, 0))), (1, .inl a1), (2, .inl a2), (3, .inl a3)]) (st' := [.inl (M.1 6 1 (q8 + a3).toNatClampNeg)]) (M' := M) rfl ?_
        exact (hr _ (Option.some.inj h).symm) ▸ xq_ret rfl
theorem f_X7_waiting_ok {X : List Int32} {a1 : Int32} {a2 : Int32} {a3 : Int32} {M : xM} {p : Int32} (h : f_X7_waiting a1 a2 a3 M = some p) : xq X xe 170 0 [(0, .inr (.inr (14, 6, 0))), (1, .inl a1), (2, .inl a2), (3, .inl a3)] [] M ((some (.inl p), M) : xR) := f_X7_waiting_run h (fun q e => by rw [e])
def f_X7_people_j106_4 (k4v1 : Int32) (v3 : Int32) (t0 : Int32) (t1 : Int32) (M : xM) : Option ((Int32 × Int32) ⊕ (Int32)) := (f_X7_flag t0 M).bind (fun q4 => some (.inl (t1 + q4, v3 + (1 : Int32))))
theorem f_X7_people_j106_4_ok {X : List Int32} {k4v1 : Int32} {v3 : Int32} {t0 : Int32} {t1 : Int32} {M : xM} {p : (Int32 × Int32) ⊕ (Int32)} {r : xR} (h : f_X7_people_j106_4 k4v1 v3 t0 t1 M = some p) (h0 : ∀ s', p = .inl s' → xq X xe 171 4 [(0, .inr (.inr (14, 6, 0))), (1, .inl k4v1), (2, .inl s'.1), (3, .inl s'.2)] [] M r) (hr : ∀ q, p = .inr (q) → ((some (.inl q), M) : xR) = r) : xq X xe 171 106 [(0, .inr (.inr (14, 6, 0))), (1, .inl k4v1), (3, .inl v3)] [.inl t0, .inl t1] M r := by
  unfold f_X7_people_j106_4 at h
  refine xq_bind h (fun q4 e5 h => ?_)
  refine xq_call (j := 120) (as := [.inl t0]) (pc' := 109) (ls' := [(0, .inr (.inr (14, 6, 0))), (1, .inl k4v1), (3, .inl v3)]) (st' := [.inl t1]) rfl rfl (f_X7_flag_ok e5) ?_
  refine xq_blk 4 (pc' := 4) (ls' := [(3, .inl (v3 + (1 : Int32))), (2, .inl (t1 + q4)), (0, .inr (.inr (14, 6, 0))), (1, .inl k4v1)]) (st' := []) (M' := M) rfl ?_
  exact xq_sub (a := [(0, .inr (.inr (14, 6, 0))), (1, .inl k4v1), (2, .inl ((t1 + q4, v3 + (1 : Int32)).1)), (3, .inl ((t1 + q4, v3 + (1 : Int32)).2))]) ⟨rfl, rfl, rfl, rfl, trivial⟩ rfl (h0 (t1 + q4, v3 + (1 : Int32)) (Option.some.inj h).symm)
def f_X7_people_j94_4 (k4v1 : Int32) (v3 : Int32) (t0 : Int32) (t1 : Int32) (t3 : Int32) (M : xM) : Option ((Int32 × Int32) ⊕ (Int32)) := if xp_in (t1 + t0) 3540 = true then (if (M.1 6 1 (t1 + t0).toNatClampNeg) = (-6 : Int32) then (f_X7_people_j106_4 k4v1 v3 (0 : Int32) t3 M) else (f_X7_people_j106_4 k4v1 v3 (1 : Int32) t3 M)) else none
theorem f_X7_people_j94_4_ok {X : List Int32} {k4v1 : Int32} {v3 : Int32} {t0 : Int32} {t1 : Int32} {t3 : Int32} {M : xM} {p : (Int32 × Int32) ⊕ (Int32)} {r : xR} (h : f_X7_people_j94_4 k4v1 v3 t0 t1 t3 M = some p) (h0 : ∀ s', p = .inl s' → xq X xe 171 4 [(0, .inr (.inr (14, 6, 0))), (1, .inl k4v1), (2, .inl s'.1), (3, .inl s'.2)] [] M r) (hr : ∀ q, p = .inr (q) → ((some (.inl q), M) : xR) = r) : xq X xe 171 94 [(0, .inr (.inr (14, 6, 0))), (1, .inl k4v1), (3, .inl v3)] [.inl t0, .inl t1, .inr (.inr (15, 6, 1)), .inl t3] M r := by
  unfold f_X7_people_j94_4 at h
  refine xq_blk 1 (pc' := 95) (ls' := [(0, .inr (.inr (14, 6, 0))), (1, .inl k4v1), (3, .inl v3)]) (st' := [.inl (t1 + t0), .inr (.inr (15, 6, 1)), .inl t3]) (M' := M) rfl ?_
  refine xq_guard h (fun g10 h => ?_)
  refine xq_prim (st' := [.inl (M.1 6 1 (t1 + t0).toNatClampNeg), .inl t3]) (M' := M) rfl rfl rfl (xg_ald0 rfl g10) ?_
  refine xq_blk 1 (pc' := 98) (ls' := [(0, .inr (.inr (14, 6, 0))), (1, .inl k4v1), (3, .inl v3)]) (st' := [.inl (-6 : Int32), .inl (M.1 6 1 (t1 + t0).toNatClampNeg), .inl t3]) (M' := M) rfl ?_
  refine xq_ite h (fun c11 h => ?_) (fun c11 h => ?_)
  · refine xq_core (pc' := 105) (ls' := [(0, .inr (.inr (14, 6, 0))), (1, .inl k4v1), (3, .inl v3)]) (st' := [.inl t3]) rfl (if_pos c11) ?_
    refine xq_blk 1 (pc' := 106) (ls' := [(0, .inr (.inr (14, 6, 0))), (1, .inl k4v1), (3, .inl v3)]) (st' := [.inl (0 : Int32), .inl t3]) (M' := M) rfl ?_
    exact xq_sub (a := [(0, .inr (.inr (14, 6, 0))), (1, .inl k4v1), (3, .inl v3)]) ⟨rfl, rfl, rfl, trivial⟩ rfl (f_X7_people_j106_4_ok h h0 hr)
  · refine xq_core (pc' := 101) (ls' := [(0, .inr (.inr (14, 6, 0))), (1, .inl k4v1), (3, .inl v3)]) (st' := [.inl t3]) rfl (if_neg c11) ?_
    refine xq_blk 2 (pc' := 106) (ls' := [(0, .inr (.inr (14, 6, 0))), (1, .inl k4v1), (3, .inl v3)]) (st' := [.inl (1 : Int32), .inl t3]) (M' := M) rfl ?_
    exact xq_sub (a := [(0, .inr (.inr (14, 6, 0))), (1, .inl k4v1), (3, .inl v3)]) ⟨rfl, rfl, rfl, trivial⟩ rfl (f_X7_people_j106_4_ok h h0 hr)
def f_X7_people_l4 (k4v1 : Int32) (M : xM) (s4 : Int32 × Int32) : Option ((Int32 × Int32) ⊕ (Int32)) := if s4.2 < (20 : Int32) then ((f_X7_personAt (0 : Int32) s4.2 M).bind (fun q1 => if k4v1 = (5 : Int32) then (if xp_in q1 3540 = true then (if (M.1 6 1 q1.toNatClampNeg) = (-6 : Int32) then (f_X7_people_j106_4 k4v1 s4.2 (0 : Int32) s4.1 M) else (f_X7_people_j106_4 k4v1 s4.2 (1 : Int32) s4.1 M)) else none) else (if k4v1 = (6 : Int32) then ((f_X7_waitsFor (0 : Int32) s4.2 M).bind (fun q7 => if q7 = (0 : Int32) then (f_X7_people_j106_4 k4v1 s4.2 (0 : Int32) s4.1 M) else (f_X7_people_j106_4 k4v1 s4.2 (1 : Int32) s4.1 M))) else (if k4v1 = (7 : Int32) then (f_X7_people_j94_4 k4v1 s4.2 (2 : Int32) q1 s4.1 M) else (if k4v1 = (8 : Int32) then (f_X7_people_j94_4 k4v1 s4.2 (5 : Int32) q1 s4.1 M) else (f_X7_people_j94_4 k4v1 s4.2 (6 : Int32) q1 s4.1 M)))))) else (Option.map Sum.inr (some (s4.1)))
theorem f_X7_people_l4_ok {X : List Int32} {k4v1 : Int32} {M : xM} {s4 : Int32 × Int32} {p : (Int32 × Int32) ⊕ (Int32)} {r : xR} (h : f_X7_people_l4 k4v1 M s4 = some p) (h0 : ∀ s', p = .inl s' → xq X xe 171 4 [(0, .inr (.inr (14, 6, 0))), (1, .inl k4v1), (2, .inl s'.1), (3, .inl s'.2)] [] M r) (hr : ∀ q, p = .inr (q) → ((some (.inl q), M) : xR) = r) : xq X xe 171 4 [(0, .inr (.inr (14, 6, 0))), (1, .inl k4v1), (2, .inl s4.1), (3, .inl s4.2)] [] M r := by
  unfold f_X7_people_l4 at h
  refine xq_blk 2 (pc' := 7) (ls' := [(0, .inr (.inr (14, 6, 0))), (1, .inl k4v1), (2, .inl s4.1), (3, .inl s4.2)]) (st' := [.inl (20 : Int32), .inl s4.2]) (M' := M) rfl ?_
  refine xq_ite h (fun c16 h => ?_) (fun c16 h => ?_)
  · refine xq_core (pc' := 10) (ls' := [(0, .inr (.inr (14, 6, 0))), (1, .inl k4v1), (2, .inl s4.1), (3, .inl s4.2)]) (st' := []) rfl (if_pos c16) ?_
    refine xq_blk 2 (pc' := 12) (ls' := [(0, .inr (.inr (14, 6, 0))), (1, .inl k4v1), (2, .inl s4.1), (3, .inl s4.2)]) (st' := [.inl s4.2, .inl (0 : Int32)]) (M' := M) rfl ?_
    refine xq_bind h (fun q1 e2 h => ?_)
    refine xq_call (j := 117) (as := [.inl (0 : Int32), .inl s4.2]) (pc' := 15) (ls' := [(0, .inr (.inr (14, 6, 0))), (1, .inl k4v1), (2, .inl s4.1), (3, .inl s4.2)]) (st' := []) rfl rfl (f_X7_personAt_ok e2) ?_
    refine xq_blk 4 (pc' := 20) (ls' := [(4, .inl q1), (0, .inr (.inr (14, 6, 0))), (1, .inl k4v1), (2, .inl s4.1), (3, .inl s4.2)]) (st' := [.inl (5 : Int32), .inl k4v1, .inl s4.1]) (M' := M) rfl ?_
    refine xq_ite h (fun c15 h => ?_) (fun c15 h => ?_)
    · refine xq_core (pc' := 23) (ls' := [(4, .inl q1), (0, .inr (.inr (14, 6, 0))), (1, .inl k4v1), (2, .inl s4.1), (3, .inl s4.2)]) (st' := [.inl s4.1]) rfl (if_pos c15) ?_
      refine xq_blk 3 (pc' := 29) (ls' := [(4, .inl q1), (0, .inr (.inr (14, 6, 0))), (1, .inl k4v1), (2, .inl s4.1), (3, .inl s4.2)]) (st' := [.inl q1, .inr (.inr (15, 6, 1)), .inl s4.1]) (M' := M) rfl ?_
      refine xq_guard h (fun g3 h => ?_)
      refine xq_prim (st' := [.inl (M.1 6 1 q1.toNatClampNeg), .inl s4.1]) (M' := M) rfl rfl rfl (xg_ald0 rfl g3) ?_
      refine xq_blk 1 (pc' := 32) (ls' := [(4, .inl q1), (0, .inr (.inr (14, 6, 0))), (1, .inl k4v1), (2, .inl s4.1), (3, .inl s4.2)]) (st' := [.inl (-6 : Int32), .inl (M.1 6 1 q1.toNatClampNeg), .inl s4.1]) (M' := M) rfl ?_
      refine xq_ite h (fun c6 h => ?_) (fun c6 h => ?_)
      · refine xq_core (pc' := 39) (ls' := [(4, .inl q1), (0, .inr (.inr (14, 6, 0))), (1, .inl k4v1), (2, .inl s4.1), (3, .inl s4.2)]) (st' := [.inl s4.1]) rfl (if_pos c6) ?_
        refine xq_blk 2 (pc' := 106) (ls' := [(4, .inl q1), (0, .inr (.inr (14, 6, 0))), (1, .inl k4v1), (2, .inl s4.1), (3, .inl s4.2)]) (st' := [.inl (0 : Int32), .inl s4.1]) (M' := M) rfl ?_
        exact xq_sub (a := [(0, .inr (.inr (14, 6, 0))), (1, .inl k4v1), (3, .inl s4.2)]) ⟨rfl, rfl, rfl, trivial⟩ rfl (f_X7_people_j106_4_ok h h0 hr)
      · refine xq_core (pc' := 35) (ls' := [(4, .inl q1), (0, .inr (.inr (14, 6, 0))), (1, .inl k4v1), (2, .inl s4.1), (3, .inl s4.2)]) (st' := [.inl s4.1]) rfl (if_neg c6) ?_
        refine xq_blk 2 (pc' := 106) (ls' := [(4, .inl q1), (0, .inr (.inr (14, 6, 0))), (1, .inl k4v1), (2, .inl s4.1), (3, .inl s4.2)]) (st' := [.inl (1 : Int32), .inl s4.1]) (M' := M) rfl ?_
        exact xq_sub (a := [(0, .inr (.inr (14, 6, 0))), (1, .inl k4v1), (3, .inl s4.2)]) ⟨rfl, rfl, rfl, trivial⟩ rfl (f_X7_people_j106_4_ok h h0 hr)
    · refine xq_core (pc' := 43) (ls' := [(4, .inl q1), (0, .inr (.inr (14, 6, 0))), (1, .inl k4v1), (2, .inl s4.1), (3, .inl s4.2)]) (st' := [.inl s4.1]) rfl (if_neg c15) ?_
      refine xq_blk 2 (pc' := 46) (ls' := [(4, .inl q1), (0, .inr (.inr (14, 6, 0))), (1, .inl k4v1), (2, .inl s4.1), (3, .inl s4.2)]) (st' := [.inl (6 : Int32), .inl k4v1, .inl s4.1]) (M' := M) rfl ?_
      refine xq_ite h (fun c14 h => ?_) (fun c14 h => ?_)
      · refine xq_core (pc' := 49) (ls' := [(4, .inl q1), (0, .inr (.inr (14, 6, 0))), (1, .inl k4v1), (2, .inl s4.1), (3, .inl s4.2)]) (st' := [.inl s4.1]) rfl (if_pos c14) ?_
        refine xq_blk 3 (pc' := 52) (ls' := [(4, .inl q1), (0, .inr (.inr (14, 6, 0))), (1, .inl k4v1), (2, .inl s4.1), (3, .inl s4.2)]) (st' := [.inl s4.2, .inl (0 : Int32), .inr (.inr (14, 6, 0)), .inl s4.1]) (M' := M) rfl ?_
        refine xq_bind h (fun q7 e8 h => ?_)
        refine xq_call (j := 128) (as := [.inr (.inr (14, 6, 0)), .inl (0 : Int32), .inl s4.2]) (pc' := 55) (ls' := [(4, .inl q1), (0, .inr (.inr (14, 6, 0))), (1, .inl k4v1), (2, .inl s4.1), (3, .inl s4.2)]) (st' := [.inl s4.1]) rfl rfl (f_X7_waitsFor_ok e8) ?_
        refine xq_ite h (fun c9 h => ?_) (fun c9 h => ?_)
        · refine xq_core (pc' := 62) (ls' := [(4, .inl q1), (0, .inr (.inr (14, 6, 0))), (1, .inl k4v1), (2, .inl s4.1), (3, .inl s4.2)]) (st' := [.inl s4.1]) rfl (if_pos c9) ?_
          refine xq_blk 2 (pc' := 106) (ls' := [(4, .inl q1), (0, .inr (.inr (14, 6, 0))), (1, .inl k4v1), (2, .inl s4.1), (3, .inl s4.2)]) (st' := [.inl (0 : Int32), .inl s4.1]) (M' := M) rfl ?_
          exact xq_sub (a := [(0, .inr (.inr (14, 6, 0))), (1, .inl k4v1), (3, .inl s4.2)]) ⟨rfl, rfl, rfl, trivial⟩ rfl (f_X7_people_j106_4_ok h h0 hr)
        · refine xq_core (pc' := 58) (ls' := [(4, .inl q1), (0, .inr (.inr (14, 6, 0))), (1, .inl k4v1), (2, .inl s4.1), (3, .inl s4.2)]) (st' := [.inl s4.1]) rfl (if_neg c9) ?_
          refine xq_blk 2 (pc' := 106) (ls' := [(4, .inl q1), (0, .inr (.inr (14, 6, 0))), (1, .inl k4v1), (2, .inl s4.1), (3, .inl s4.2)]) (st' := [.inl (1 : Int32), .inl s4.1]) (M' := M) rfl ?_
          exact xq_sub (a := [(0, .inr (.inr (14, 6, 0))), (1, .inl k4v1), (3, .inl s4.2)]) ⟨rfl, rfl, rfl, trivial⟩ rfl (f_X7_people_j106_4_ok h h0 hr)
      · refine xq_core (pc' := 66) (ls' := [(4, .inl q1), (0, .inr (.inr (14, 6, 0))), (1, .inl k4v1), (2, .inl s4.1), (3, .inl s4.2)]) (st' := [.inl s4.1]) rfl (if_neg c14) ?_
        refine xq_blk 5 (pc' := 75) (ls' := [(4, .inl q1), (0, .inr (.inr (14, 6, 0))), (1, .inl k4v1), (2, .inl s4.1), (3, .inl s4.2)]) (st' := [.inl (7 : Int32), .inl k4v1, .inl q1, .inr (.inr (15, 6, 1)), .inl s4.1]) (M' := M) rfl ?_
        refine xq_ite h (fun c13 h => ?_) (fun c13 h => ?_)
        · refine xq_core (pc' := 78) (ls' := [(4, .inl q1), (0, .inr (.inr (14, 6, 0))), (1, .inl k4v1), (2, .inl s4.1), (3, .inl s4.2)]) (st' := [.inl q1, .inr (.inr (15, 6, 1)), .inl s4.1]) rfl (if_pos c13) ?_
          refine xq_blk 2 (pc' := 94) (ls' := [(4, .inl q1), (0, .inr (.inr (14, 6, 0))), (1, .inl k4v1), (2, .inl s4.1), (3, .inl s4.2)]) (st' := [.inl (2 : Int32), .inl q1, .inr (.inr (15, 6, 1)), .inl s4.1]) (M' := M) rfl ?_
          exact xq_sub (a := [(0, .inr (.inr (14, 6, 0))), (1, .inl k4v1), (3, .inl s4.2)]) ⟨rfl, rfl, rfl, trivial⟩ rfl (f_X7_people_j94_4_ok h h0 hr)
        · refine xq_core (pc' := 82) (ls' := [(4, .inl q1), (0, .inr (.inr (14, 6, 0))), (1, .inl k4v1), (2, .inl s4.1), (3, .inl s4.2)]) (st' := [.inl q1, .inr (.inr (15, 6, 1)), .inl s4.1]) rfl (if_neg c13) ?_
          refine xq_blk 2 (pc' := 85) (ls' := [(4, .inl q1), (0, .inr (.inr (14, 6, 0))), (1, .inl k4v1), (2, .inl s4.1), (3, .inl s4.2)]) (st' := [.inl (8 : Int32), .inl k4v1, .inl q1, .inr (.inr (15, 6, 1)), .inl s4.1]) (M' := M) rfl ?_
          refine xq_ite h (fun c12 h => ?_) (fun c12 h => ?_)
          · refine xq_core (pc' := 88) (ls' := [(4, .inl q1), (0, .inr (.inr (14, 6, 0))), (1, .inl k4v1), (2, .inl s4.1), (3, .inl s4.2)]) (st' := [.inl q1, .inr (.inr (15, 6, 1)), .inl s4.1]) rfl (if_pos c12) ?_
            refine xq_blk 2 (pc' := 94) (ls' := [(4, .inl q1), (0, .inr (.inr (14, 6, 0))), (1, .inl k4v1), (2, .inl s4.1), (3, .inl s4.2)]) (st' := [.inl (5 : Int32), .inl q1, .inr (.inr (15, 6, 1)), .inl s4.1]) (M' := M) rfl ?_
            exact xq_sub (a := [(0, .inr (.inr (14, 6, 0))), (1, .inl k4v1), (3, .inl s4.2)]) ⟨rfl, rfl, rfl, trivial⟩ rfl (f_X7_people_j94_4_ok h h0 hr)
          · refine xq_core (pc' := 92) (ls' := [(4, .inl q1), (0, .inr (.inr (14, 6, 0))), (1, .inl k4v1), (2, .inl s4.1), (3, .inl s4.2)]) (st' := [.inl q1, .inr (.inr (15, 6, 1)), .inl s4.1]) rfl (if_neg c12) ?_
            refine xq_blk 1 (pc' := 94) (ls' := [(4, .inl q1), (0, .inr (.inr (14, 6, 0))), (1, .inl k4v1), (2, .inl s4.1), (3, .inl s4.2)]) (st' := [.inl (6 : Int32), .inl q1, .inr (.inr (15, 6, 1)), .inl s4.1]) (M' := M) rfl ?_
            exact xq_sub (a := [(0, .inr (.inr (14, 6, 0))), (1, .inl k4v1), (3, .inl s4.2)]) ⟨rfl, rfl, rfl, trivial⟩ rfl (f_X7_people_j94_4_ok h h0 hr)
  · refine xq_core (pc' := 117) (ls' := [(0, .inr (.inr (14, 6, 0))), (1, .inl k4v1), (2, .inl s4.1), (3, .inl s4.2)]) (st' := []) rfl (if_neg c16) ?_
    refine xq_map h (fun p h e => ?_)
    replace hr := fun q e' => hr q (e.symm.trans (congrArg Sum.inr e'))
    clear e
    refine xq_blk 1 (pc' := 118) (ls' := [(0, .inr (.inr (14, 6, 0))), (1, .inl k4v1), (2, .inl s4.1), (3, .inl s4.2)]) (st' := [.inl s4.1]) (M' := M) rfl ?_
    exact (hr _ (Option.some.inj h).symm) ▸ xq_ret rfl
def f_X7_people (a1 : Int32) (M : xM) : Option (Int32) := xlp (f_X7_people_l4 a1 M) 4000 ((0 : Int32), (0 : Int32))
theorem f_X7_people_run {X : List Int32} {a1 : Int32} {M : xM} {p : Int32} {r : xR} (h : f_X7_people a1 M = some p) (hr : ∀ q, p = q → ((some (.inl q), M) : xR) = r) : xq X xe 171 0 [(0, .inr (.inr (14, 6, 0))), (1, .inl a1)] [] M r := by
  unfold f_X7_people at h
  refine xq_blk 4 (pc' := 4) (ls' := [(3, .inl (0 : Int32)), (2, .inl (0 : Int32)), (0, .inr (.inr (14, 6, 0))), (1, .inl a1)]) (st' := []) (M' := M) rfl ?_
  refine xq_sub (a := [(0, .inr (.inr (14, 6, 0))), (1, .inl a1), (2, .inl (0 : Int32)), (3, .inl (0 : Int32))]) ⟨rfl, rfl, rfl, rfl, trivial⟩ rfl ?_
  exact xlp_ok (P := fun s4 => xq X xe 171 4 [(0, .inr (.inr (14, 6, 0))), (1, .inl a1), (2, .inl s4.1), (3, .inl s4.2)] [] M r) (fun s p' hb g0 g1 => f_X7_people_l4_ok hb g0 (fun q e => hr q (g1 _ e).symm)) 4000 _ h
theorem f_X7_people_ok {X : List Int32} {a1 : Int32} {M : xM} {p : Int32} (h : f_X7_people a1 M = some p) : xq X xe 171 0 [(0, .inr (.inr (14, 6, 0))), (1, .inl a1)] [] M ((some (.inl p), M) : xR) := f_X7_people_run h (fun q e => by rw [e])
