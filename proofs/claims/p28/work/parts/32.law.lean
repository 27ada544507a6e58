def f_L_law_j404 (X : List Int32) (v2 : Int32) (M : xM) : Option (Int32 × xM) := if v2 = (0 : Int32) then (some ((vp_nar .boolean (0 : Int32), M))) else ((f_L_hangs M).bind (fun q7 => if q7.1 = (0 : Int32) then (some ((vp_nar .boolean (0 : Int32), q7.2))) else (some ((vp_nar .boolean (1 : Int32), q7.2)))))
theorem f_L_law_j404_ok {X : List Int32} {v2 : Int32} {M : xM} {p : Int32 × xM} {r : xR} (h : f_L_law_j404 X v2 M = some p) (hr : ∀ q, p = q → ((some (.inl q.1), q.2) : xR) = r) : xq X xe 0 404 [(1, .inr (.inr (7, 5, 0))), (2, .inl v2)] [] M r := by
  unfold f_L_law_j404 at h
  refine xq_blk 1 (pc' := 405) (ls' := [(1, .inr (.inr (7, 5, 0))), (2, .inl v2)]) (st' := [.inl v2]) (M' := M) rfl ?_
  refine xq_ite h (fun c10 h => ?_) (fun c10 h => ?_)
  · refine xq_core (pc' := 419) (ls' := [(1, .inr (.inr (7, 5, 0))), (2, .inl v2)]) (st' := []) rfl (if_pos c10) ?_
    refine xq_blk 1 (pc' := 420) (ls' := [(1, .inr (.inr (7, 5, 0))), (2, .inl v2)]) (st' := [.inl (0 : Int32)]) (M' := M) rfl ?_
    exact (hr _ (Option.some.inj h).symm) ▸ xq_ret rfl
  · refine xq_core (pc' := 408) (ls' := [(1, .inr (.inr (7, 5, 0))), (2, .inl v2)]) (st' := []) rfl (if_neg c10) ?_
    refine xq_blk 1 (pc' := 409) (ls' := [(1, .inr (.inr (7, 5, 0))), (2, .inl v2)]) (st' := [.inr (.inr (7, 5, 0))]) (M' := M) rfl ?_
    refine xq_bind h (fun q7 e8 h => ?_)
    refine xq_call (j := 103) (as := [.inr (.inr (7, 5, 0))]) (pc' := 412) (ls' := [(1, .inr (.inr (7, 5, 0))), (2, .inl v2)]) (st' := []) rfl rfl (f_L_hangs_ok e8) ?_
    refine xq_ite h (fun c9 h => ?_) (fun c9 h => ?_)
    · refine xq_core (pc' := 419) (ls' := [(1, .inr (.inr (7, 5, 0))), (2, .inl v2)]) (st' := []) rfl (if_pos c9) ?_
      refine xq_blk 1 (pc' := 420) (ls' := [(1, .inr (.inr (7, 5, 0))), (2, .inl v2)]) (st' := [.inl (0 : Int32)]) (M' := q7.2) rfl ?_
      exact (hr _ (Option.some.inj h).symm) ▸ xq_ret rfl
    · refine xq_core (pc' := 415) (ls' := [(1, .inr (.inr (7, 5, 0))), (2, .inl v2)]) (st' := []) rfl (if_neg c9) ?_
      refine xq_blk 2 (pc' := 420) (ls' := [(1, .inr (.inr (7, 5, 0))), (2, .inl v2)]) (st' := [.inl (1 : Int32)]) (M' := q7.2) rfl ?_
      exact (hr _ (Option.some.inj h).symm) ▸ xq_ret rfl
def f_L_law_j360_71 (X : List Int32) (v3 : Int32) (v4 : Int32) (v5 : Int32) (M : xM) : Option ((Int32 × Int32 × xM) ⊕ (Int32 × xM)) := if (1 : Int32) < (v3 - v3 / (3 : Int32) * (3 : Int32)) then (some (.inl ((1 : Int32), v3 + (1 : Int32), M))) else ((f_L_low (v4 >>> ((7 : Int32) &&& (31 : Int32))) (2 : Int32) M).bind (fun q29 => (f_L_low (v5 >>> ((5 : Int32) &&& (31 : Int32))) (12 : Int32) M).bind (fun q31 => (f_L_sweeps q29 q31 M).bind (fun q33 => if q33.1 = (0 : Int32) then (some (.inl ((0 : Int32), v3 + (1 : Int32), q33.2))) else (some (.inl ((1 : Int32), v3 + (1 : Int32), q33.2)))))))
theorem f_L_law_j360_71_ok {X : List Int32} {v3 : Int32} {v4 : Int32} {v5 : Int32} {M : xM} {p : (Int32 × Int32 × xM) ⊕ (Int32 × xM)} {r : xR} (h : f_L_law_j360_71 X v3 v4 v5 M = some p) (h0 : ∀ s', p = .inl s' → xq X xe 0 71 [(0, .inr (.inr (18, 1, 0))), (1, .inr (.inr (7, 5, 0))), (2, .inl s'.1), (3, .inl s'.2.1)] [] s'.2.2 r) (hr : ∀ q, p = .inr (q) → ((some (.inl q.1), q.2) : xR) = r) : xq X xe 0 360 [(0, .inr (.inr (18, 1, 0))), (1, .inr (.inr (7, 5, 0))), (3, .inl v3), (4, .inl v4), (5, .inl v5)] [] M r := by
  unfold f_L_law_j360_71 at h
  refine xq_blk 4 (pc' := 364) (ls' := [(0, .inr (.inr (18, 1, 0))), (1, .inr (.inr (7, 5, 0))), (3, .inl v3), (4, .inl v4), (5, .inl v5)]) (st' := [.inl (1 : Int32), .inl (v3 - v3 / (3 : Int32) * (3 : Int32))]) (M' := M) rfl ?_
  refine xq_ite h (fun c36 h => ?_) (fun c36 h => ?_)
  · refine xq_core (pc' := 392) (ls' := [(0, .inr (.inr (18, 1, 0))), (1, .inr (.inr (7, 5, 0))), (3, .inl v3), (4, .inl v4), (5, .inl v5)]) (st' := []) rfl (if_pos c36) ?_
    refine xq_blk 5 (pc' := 71) (ls' := [(3, .inl (v3 + (1 : Int32))), (2, .inl (1 : Int32)), (0, .inr (.inr (18, 1, 0))), (1, .inr (.inr (7, 5, 0))), (4, .inl v4), (5, .inl v5)]) (st' := []) (M' := M) rfl ?_
    exact xq_sub (a := [(0, .inr (.inr (18, 1, 0))), (1, .inr (.inr (7, 5, 0))), (2, .inl (((1 : Int32), v3 + (1 : Int32), M).1)), (3, .inl (((1 : Int32), v3 + (1 : Int32), M).2.1))]) ⟨rfl, rfl, rfl, rfl, trivial⟩ rfl (h0 ((1 : Int32), v3 + (1 : Int32), M) (Option.some.inj h).symm)
  · refine xq_core (pc' := 367) (ls' := [(0, .inr (.inr (18, 1, 0))), (1, .inr (.inr (7, 5, 0))), (3, .inl v3), (4, .inl v4), (5, .inl v5)]) (st' := []) rfl (if_neg c36) ?_
    refine xq_blk 5 (pc' := 374) (ls' := [(0, .inr (.inr (18, 1, 0))), (1, .inr (.inr (7, 5, 0))), (3, .inl v3), (4, .inl v4), (5, .inl v5)]) (st' := [.inl (2 : Int32), .inl (v4 >>> ((7 : Int32) &&& (31 : Int32))), .inr (.inr (7, 5, 0))]) (M' := M) rfl ?_
    refine xq_bind h (fun q29 e30 h => ?_)
    refine xq_call (j := 99) (as := [.inl (v4 >>> ((7 : Int32) &&& (31 : Int32))), .inl (2 : Int32)]) (pc' := 377) (ls' := [(0, .inr (.inr (18, 1, 0))), (1, .inr (.inr (7, 5, 0))), (3, .inl v3), (4, .inl v4), (5, .inl v5)]) (st' := [.inr (.inr (7, 5, 0))]) rfl rfl (f_L_low_ok e30) ?_
    refine xq_blk 4 (pc' := 383) (ls' := [(0, .inr (.inr (18, 1, 0))), (1, .inr (.inr (7, 5, 0))), (3, .inl v3), (4, .inl v4), (5, .inl v5)]) (st' := [.inl (12 : Int32), .inl (v5 >>> ((5 : Int32) &&& (31 : Int32))), .inl q29, .inr (.inr (7, 5, 0))]) (M' := M) rfl ?_
    refine xq_bind h (fun q31 e32 h => ?_)
    refine xq_call (j := 99) (as := [.inl (v5 >>> ((5 : Int32) &&& (31 : Int32))), .inl (12 : Int32)]) (pc' := 386) (ls' := [(0, .inr (.inr (18, 1, 0))), (1, .inr (.inr (7, 5, 0))), (3, .inl v3), (4, .inl v4), (5, .inl v5)]) (st' := [.inl q29, .inr (.inr (7, 5, 0))]) rfl rfl (f_L_low_ok e32) ?_
    refine xq_bind h (fun q33 e34 h => ?_)
    refine xq_call (j := 107) (as := [.inr (.inr (7, 5, 0)), .inl q29, .inl q31]) (pc' := 389) (ls' := [(0, .inr (.inr (18, 1, 0))), (1, .inr (.inr (7, 5, 0))), (3, .inl v3), (4, .inl v4), (5, .inl v5)]) (st' := []) rfl rfl (f_L_sweeps_ok e34) ?_
    refine xq_ite h (fun c35 h => ?_) (fun c35 h => ?_)
    · refine xq_core (pc' := 396) (ls' := [(0, .inr (.inr (18, 1, 0))), (1, .inr (.inr (7, 5, 0))), (3, .inl v3), (4, .inl v4), (5, .inl v5)]) (st' := []) rfl (if_pos c35) ?_
      refine xq_blk 4 (pc' := 71) (ls' := [(3, .inl (v3 + (1 : Int32))), (2, .inl (0 : Int32)), (0, .inr (.inr (18, 1, 0))), (1, .inr (.inr (7, 5, 0))), (4, .inl v4), (5, .inl v5)]) (st' := []) (M' := q33.2) rfl ?_
      exact xq_sub (a := [(0, .inr (.inr (18, 1, 0))), (1, .inr (.inr (7, 5, 0))), (2, .inl (((0 : Int32), v3 + (1 : Int32), q33.2).1)), (3, .inl (((0 : Int32), v3 + (1 : Int32), q33.2).2.1))]) ⟨rfl, rfl, rfl, rfl, trivial⟩ rfl (h0 ((0 : Int32), v3 + (1 : Int32), q33.2) (Option.some.inj h).symm)
    · refine xq_core (pc' := 392) (ls' := [(0, .inr (.inr (18, 1, 0))), (1, .inr (.inr (7, 5, 0))), (3, .inl v3), (4, .inl v4), (5, .inl v5)]) (st' := []) rfl (if_neg c35) ?_
      refine xq_blk 5 (pc' := 71) (ls' := [(3, .inl (v3 + (1 : Int32))), (2, .inl (1 : Int32)), (0, .inr (.inr (18, 1, 0))), (1, .inr (.inr (7, 5, 0))), (4, .inl v4), (5, .inl v5)]) (st' := []) (M' := q33.2) rfl ?_
      exact xq_sub (a := [(0, .inr (.inr (18, 1, 0))), (1, .inr (.inr (7, 5, 0))), (2, .inl (((1 : Int32), v3 + (1 : Int32), q33.2).1)), (3, .inl (((1 : Int32), v3 + (1 : Int32), q33.2).2.1))]) ⟨rfl, rfl, rfl, rfl, trivial⟩ rfl (h0 ((1 : Int32), v3 + (1 : Int32), q33.2) (Option.some.inj h).symm)
def f_L_law_j329_71 (X : List Int32) (v3 : Int32) (v4 : Int32) (v5 : Int32) (M : xM) : Option ((Int32 × Int32 × xM) ⊕ (Int32 × xM)) := if (0 : Int32) < (v3 - v3 / (4 : Int32) * (4 : Int32)) then (f_L_law_j360_71 X v3 v4 v5 M) else ((f_L_low (v4 >>> ((3 : Int32) &&& (31 : Int32))) (20 : Int32) M).bind (fun q37 => (f_L_low v5 (20 : Int32) M).bind (fun q39 => (f_L_asks q37 ((1 : Int32) + q39) M).bind (fun q41 => if q41.1 = (0 : Int32) then (some (.inl ((0 : Int32), v3 + (1 : Int32), q41.2))) else (f_L_law_j360_71 X v3 v4 v5 q41.2)))))
theorem f_L_law_j329_71_ok {X : List Int32} {v3 : Int32} {v4 : Int32} {v5 : Int32} {M : xM} {p : (Int32 × Int32 × xM) ⊕ (Int32 × xM)} {r : xR} (h : f_L_law_j329_71 X v3 v4 v5 M = some p) (h0 : ∀ s', p = .inl s' → xq X xe 0 71 [(0, .inr (.inr (18, 1, 0))), (1, .inr (.inr (7, 5, 0))), (2, .inl s'.1), (3, .inl s'.2.1)] [] s'.2.2 r) (hr : ∀ q, p = .inr (q) → ((some (.inl q.1), q.2) : xR) = r) : xq X xe 0 329 [(0, .inr (.inr (18, 1, 0))), (1, .inr (.inr (7, 5, 0))), (3, .inl v3), (4, .inl v4), (5, .inl v5)] [] M r := by
  unfold f_L_law_j329_71 at h
  refine xq_blk 3 (pc' := 332) (ls' := [(0, .inr (.inr (18, 1, 0))), (1, .inr (.inr (7, 5, 0))), (3, .inl v3), (4, .inl v4), (5, .inl v5)]) (st' := [.inl (v3 - v3 / (4 : Int32) * (4 : Int32))]) (M' := M) rfl ?_
  refine xq_ite h (fun c44 h => ?_) (fun c44 h => ?_)
  · refine xq_core (pc' := 360) (ls' := [(0, .inr (.inr (18, 1, 0))), (1, .inr (.inr (7, 5, 0))), (3, .inl v3), (4, .inl v4), (5, .inl v5)]) (st' := []) rfl (if_pos c44) ?_
    exact xq_sub (a := [(0, .inr (.inr (18, 1, 0))), (1, .inr (.inr (7, 5, 0))), (3, .inl v3), (4, .inl v4), (5, .inl v5)]) ⟨rfl, rfl, rfl, rfl, rfl, trivial⟩ rfl (f_L_law_j360_71_ok h h0 hr)
  · refine xq_core (pc' := 335) (ls' := [(0, .inr (.inr (18, 1, 0))), (1, .inr (.inr (7, 5, 0))), (3, .inl v3), (4, .inl v4), (5, .inl v5)]) (st' := []) rfl (if_neg c44) ?_
    refine xq_blk 5 (pc' := 342) (ls' := [(0, .inr (.inr (18, 1, 0))), (1, .inr (.inr (7, 5, 0))), (3, .inl v3), (4, .inl v4), (5, .inl v5)]) (st' := [.inl (20 : Int32), .inl (v4 >>> ((3 : Int32) &&& (31 : Int32))), .inr (.inr (7, 5, 0))]) (M' := M) rfl ?_
    refine xq_bind h (fun q37 e38 h => ?_)
    refine xq_call (j := 99) (as := [.inl (v4 >>> ((3 : Int32) &&& (31 : Int32))), .inl (20 : Int32)]) (pc' := 345) (ls' := [(0, .inr (.inr (18, 1, 0))), (1, .inr (.inr (7, 5, 0))), (3, .inl v3), (4, .inl v4), (5, .inl v5)]) (st' := [.inr (.inr (7, 5, 0))]) rfl rfl (f_L_low_ok e38) ?_
    refine xq_blk 3 (pc' := 350) (ls' := [(0, .inr (.inr (18, 1, 0))), (1, .inr (.inr (7, 5, 0))), (3, .inl v3), (4, .inl v4), (5, .inl v5)]) (st' := [.inl (20 : Int32), .inl v5, .inl (1 : Int32), .inl q37, .inr (.inr (7, 5, 0))]) (M' := M) rfl ?_
    refine xq_bind h (fun q39 e40 h => ?_)
    refine xq_call (j := 99) (as := [.inl v5, .inl (20 : Int32)]) (pc' := 353) (ls' := [(0, .inr (.inr (18, 1, 0))), (1, .inr (.inr (7, 5, 0))), (3, .inl v3), (4, .inl v4), (5, .inl v5)]) (st' := [.inl (1 : Int32), .inl q37, .inr (.inr (7, 5, 0))]) rfl rfl (f_L_low_ok e40) ?_
    refine xq_blk 1 (pc' := 354) (ls' := [(0, .inr (.inr (18, 1, 0))), (1, .inr (.inr (7, 5, 0))), (3, .inl v3), (4, .inl v4), (5, .inl v5)]) (st' := [.inl ((1 : Int32) + q39), .inl q37, .inr (.inr (7, 5, 0))]) (M' := M) rfl ?_
    refine xq_bind h (fun q41 e42 h => ?_)
    refine xq_call (j := 106) (as := [.inr (.inr (7, 5, 0)), .inl q37, .inl ((1 : Int32) + q39)]) (pc' := 357) (ls' := [(0, .inr (.inr (18, 1, 0))), (1, .inr (.inr (7, 5, 0))), (3, .inl v3), (4, .inl v4), (5, .inl v5)]) (st' := []) rfl rfl (f_L_asks_ok e42) ?_
    refine xq_ite h (fun c43 h => ?_) (fun c43 h => ?_)
    · refine xq_core (pc' := 396) (ls' := [(0, .inr (.inr (18, 1, 0))), (1, .inr (.inr (7, 5, 0))), (3, .inl v3), (4, .inl v4), (5, .inl v5)]) (st' := []) rfl (if_pos c43) ?_
      refine xq_blk 4 (pc' := 71) (ls' := [(3, .inl (v3 + (1 : Int32))), (2, .inl (0 : Int32)), (0, .inr (.inr (18, 1, 0))), (1, .inr (.inr (7, 5, 0))), (4, .inl v4), (5, .inl v5)]) (st' := []) (M' := q41.2) rfl ?_
      exact xq_sub (a := [(0, .inr (.inr (18, 1, 0))), (1, .inr (.inr (7, 5, 0))), (2, .inl (((0 : Int32), v3 + (1 : Int32), q41.2).1)), (3, .inl (((0 : Int32), v3 + (1 : Int32), q41.2).2.1))]) ⟨rfl, rfl, rfl, rfl, trivial⟩ rfl (h0 ((0 : Int32), v3 + (1 : Int32), q41.2) (Option.some.inj h).symm)
    · refine xq_core (pc' := 360) (ls' := [(0, .inr (.inr (18, 1, 0))), (1, .inr (.inr (7, 5, 0))), (3, .inl v3), (4, .inl v4), (5, .inl v5)]) (st' := []) rfl (if_neg c43) ?_
      exact xq_sub (a := [(0, .inr (.inr (18, 1, 0))), (1, .inr (.inr (7, 5, 0))), (3, .inl v3), (4, .inl v4), (5, .inl v5)]) ⟨rfl, rfl, rfl, rfl, rfl, trivial⟩ rfl (f_L_law_j360_71_ok h h0 hr)
def f_L_law_j307_71 (X : List Int32) (v3 : Int32) (v4 : Int32) (v5 : Int32) (M : xM) : Option ((Int32 × Int32 × xM) ⊕ (Int32 × xM)) := if (0 : Int32) < (v3 - v3 / (3 : Int32) * (3 : Int32)) then (f_L_law_j329_71 X v3 v4 v5 M) else ((f_L_low (v5 >>> ((3 : Int32) &&& (31 : Int32))) (14 : Int32) M).bind (fun q45 => (f_L_waits q45 M).bind (fun q47 => if q47.1 = (0 : Int32) then (some (.inl ((0 : Int32), v3 + (1 : Int32), q47.2))) else (f_L_law_j329_71 X v3 v4 v5 q47.2))))
theorem f_L_law_j307_71_ok {X : List Int32} {v3 : Int32} {v4 : Int32} {v5 : Int32} {M : xM} {p : (Int32 × Int32 × xM) ⊕ (Int32 × xM)} {r : xR} (h : f_L_law_j307_71 X v3 v4 v5 M = some p) (h0 : ∀ s', p = .inl s' → xq X xe 0 71 [(0, .inr (.inr (18, 1, 0))), (1, .inr (.inr (7, 5, 0))), (2, .inl s'.1), (3, .inl s'.2.1)] [] s'.2.2 r) (hr : ∀ q, p = .inr (q) → ((some (.inl q.1), q.2) : xR) = r) : xq X xe 0 307 [(0, .inr (.inr (18, 1, 0))), (1, .inr (.inr (7, 5, 0))), (3, .inl v3), (4, .inl v4), (5, .inl v5)] [] M r := by
  unfold f_L_law_j307_71 at h
  refine xq_blk 3 (pc' := 310) (ls' := [(0, .inr (.inr (18, 1, 0))), (1, .inr (.inr (7, 5, 0))), (3, .inl v3), (4, .inl v4), (5, .inl v5)]) (st' := [.inl (v3 - v3 / (3 : Int32) * (3 : Int32))]) (M' := M) rfl ?_
  refine xq_ite h (fun c50 h => ?_) (fun c50 h => ?_)
  · refine xq_core (pc' := 329) (ls' := [(0, .inr (.inr (18, 1, 0))), (1, .inr (.inr (7, 5, 0))), (3, .inl v3), (4, .inl v4), (5, .inl v5)]) (st' := []) rfl (if_pos c50) ?_
    exact xq_sub (a := [(0, .inr (.inr (18, 1, 0))), (1, .inr (.inr (7, 5, 0))), (3, .inl v3), (4, .inl v4), (5, .inl v5)]) ⟨rfl, rfl, rfl, rfl, rfl, trivial⟩ rfl (f_L_law_j329_71_ok h h0 hr)
  · refine xq_core (pc' := 313) (ls' := [(0, .inr (.inr (18, 1, 0))), (1, .inr (.inr (7, 5, 0))), (3, .inl v3), (4, .inl v4), (5, .inl v5)]) (st' := []) rfl (if_neg c50) ?_
    refine xq_blk 5 (pc' := 320) (ls' := [(0, .inr (.inr (18, 1, 0))), (1, .inr (.inr (7, 5, 0))), (3, .inl v3), (4, .inl v4), (5, .inl v5)]) (st' := [.inl (14 : Int32), .inl (v5 >>> ((3 : Int32) &&& (31 : Int32))), .inr (.inr (7, 5, 0))]) (M' := M) rfl ?_
    refine xq_bind h (fun q45 e46 h => ?_)
    refine xq_call (j := 99) (as := [.inl (v5 >>> ((3 : Int32) &&& (31 : Int32))), .inl (14 : Int32)]) (pc' := 323) (ls' := [(0, .inr (.inr (18, 1, 0))), (1, .inr (.inr (7, 5, 0))), (3, .inl v3), (4, .inl v4), (5, .inl v5)]) (st' := [.inr (.inr (7, 5, 0))]) rfl rfl (f_L_low_ok e46) ?_
    refine xq_bind h (fun q47 e48 h => ?_)
    refine xq_call (j := 105) (as := [.inr (.inr (7, 5, 0)), .inl q45]) (pc' := 326) (ls' := [(0, .inr (.inr (18, 1, 0))), (1, .inr (.inr (7, 5, 0))), (3, .inl v3), (4, .inl v4), (5, .inl v5)]) (st' := []) rfl rfl (f_L_waits_ok e48) ?_
    refine xq_ite h (fun c49 h => ?_) (fun c49 h => ?_)
    · refine xq_core (pc' := 396) (ls' := [(0, .inr (.inr (18, 1, 0))), (1, .inr (.inr (7, 5, 0))), (3, .inl v3), (4, .inl v4), (5, .inl v5)]) (st' := []) rfl (if_pos c49) ?_
      refine xq_blk 4 (pc' := 71) (ls' := [(3, .inl (v3 + (1 : Int32))), (2, .inl (0 : Int32)), (0, .inr (.inr (18, 1, 0))), (1, .inr (.inr (7, 5, 0))), (4, .inl v4), (5, .inl v5)]) (st' := []) (M' := q47.2) rfl ?_
      exact xq_sub (a := [(0, .inr (.inr (18, 1, 0))), (1, .inr (.inr (7, 5, 0))), (2, .inl (((0 : Int32), v3 + (1 : Int32), q47.2).1)), (3, .inl (((0 : Int32), v3 + (1 : Int32), q47.2).2.1))]) ⟨rfl, rfl, rfl, rfl, trivial⟩ rfl (h0 ((0 : Int32), v3 + (1 : Int32), q47.2) (Option.some.inj h).symm)
    · refine xq_core (pc' := 329) (ls' := [(0, .inr (.inr (18, 1, 0))), (1, .inr (.inr (7, 5, 0))), (3, .inl v3), (4, .inl v4), (5, .inl v5)]) (st' := []) rfl (if_neg c49) ?_
      exact xq_sub (a := [(0, .inr (.inr (18, 1, 0))), (1, .inr (.inr (7, 5, 0))), (3, .inl v3), (4, .inl v4), (5, .inl v5)]) ⟨rfl, rfl, rfl, rfl, rfl, trivial⟩ rfl (f_L_law_j329_71_ok h h0 hr)
def f_L_law_j290_71 (X : List Int32) (v2 : Int32) (v3 : Int32) (v4 : Int32) (v5 : Int32) (M : xM) : Option ((Int32 × Int32 × xM) ⊕ (Int32 × xM)) := if v2 = (0 : Int32) then (some (.inl ((0 : Int32), v3 + (1 : Int32), M))) else (if (0 : Int32) < (v3 - v3 / (2 : Int32) * (2 : Int32)) then (f_L_law_j307_71 X v3 v4 v5 M) else ((f_L_hangs M).bind (fun q51 => if q51.1 = (0 : Int32) then (some (.inl ((0 : Int32), v3 + (1 : Int32), q51.2))) else (f_L_law_j307_71 X v3 v4 v5 q51.2))))
theorem f_L_law_j290_71_ok {X : List Int32} {v2 : Int32} {v3 : Int32} {v4 : Int32} {v5 : Int32} {M : xM} {p : (Int32 × Int32 × xM) ⊕ (Int32 × xM)} {r : xR} (h : f_L_law_j290_71 X v2 v3 v4 v5 M = some p) (h0 : ∀ s', p = .inl s' → xq X xe 0 71 [(0, .inr (.inr (18, 1, 0))), (1, .inr (.inr (7, 5, 0))), (2, .inl s'.1), (3, .inl s'.2.1)] [] s'.2.2 r) (hr : ∀ q, p = .inr (q) → ((some (.inl q.1), q.2) : xR) = r) : xq X xe 0 290 [(0, .inr (.inr (18, 1, 0))), (1, .inr (.inr (7, 5, 0))), (2, .inl v2), (3, .inl v3), (4, .inl v4), (5, .inl v5)] [] M r := by
  unfold f_L_law_j290_71 at h
  refine xq_blk 1 (pc' := 291) (ls' := [(0, .inr (.inr (18, 1, 0))), (1, .inr (.inr (7, 5, 0))), (2, .inl v2), (3, .inl v3), (4, .inl v4), (5, .inl v5)]) (st' := [.inl v2]) (M' := M) rfl ?_
  refine xq_ite h (fun c55 h => ?_) (fun c55 h => ?_)
  · refine xq_core (pc' := 396) (ls' := [(0, .inr (.inr (18, 1, 0))), (1, .inr (.inr (7, 5, 0))), (2, .inl v2), (3, .inl v3), (4, .inl v4), (5, .inl v5)]) (st' := []) rfl (if_pos c55) ?_
    refine xq_blk 4 (pc' := 71) (ls' := [(3, .inl (v3 + (1 : Int32))), (2, .inl (0 : Int32)), (0, .inr (.inr (18, 1, 0))), (1, .inr (.inr (7, 5, 0))), (4, .inl v4), (5, .inl v5)]) (st' := []) (M' := M) rfl ?_
    exact xq_sub (a := [(0, .inr (.inr (18, 1, 0))), (1, .inr (.inr (7, 5, 0))), (2, .inl (((0 : Int32), v3 + (1 : Int32), M).1)), (3, .inl (((0 : Int32), v3 + (1 : Int32), M).2.1))]) ⟨rfl, rfl, rfl, rfl, trivial⟩ rfl (h0 ((0 : Int32), v3 + (1 : Int32), M) (Option.some.inj h).symm)
  · refine xq_core (pc' := 294) (ls' := [(0, .inr (.inr (18, 1, 0))), (1, .inr (.inr (7, 5, 0))), (2, .inl v2), (3, .inl v3), (4, .inl v4), (5, .inl v5)]) (st' := []) rfl (if_neg c55) ?_
    refine xq_blk 3 (pc' := 297) (ls' := [(0, .inr (.inr (18, 1, 0))), (1, .inr (.inr (7, 5, 0))), (2, .inl v2), (3, .inl v3), (4, .inl v4), (5, .inl v5)]) (st' := [.inl (v3 - v3 / (2 : Int32) * (2 : Int32))]) (M' := M) rfl ?_
    refine xq_ite h (fun c54 h => ?_) (fun c54 h => ?_)
    · refine xq_core (pc' := 307) (ls' := [(0, .inr (.inr (18, 1, 0))), (1, .inr (.inr (7, 5, 0))), (2, .inl v2), (3, .inl v3), (4, .inl v4), (5, .inl v5)]) (st' := []) rfl (if_pos c54) ?_
      exact xq_sub (a := [(0, .inr (.inr (18, 1, 0))), (1, .inr (.inr (7, 5, 0))), (3, .inl v3), (4, .inl v4), (5, .inl v5)]) ⟨rfl, rfl, rfl, rfl, rfl, trivial⟩ rfl (f_L_law_j307_71_ok h h0 hr)
    · refine xq_core (pc' := 300) (ls' := [(0, .inr (.inr (18, 1, 0))), (1, .inr (.inr (7, 5, 0))), (2, .inl v2), (3, .inl v3), (4, .inl v4), (5, .inl v5)]) (st' := []) rfl (if_neg c54) ?_
      refine xq_blk 1 (pc' := 301) (ls' := [(0, .inr (.inr (18, 1, 0))), (1, .inr (.inr (7, 5, 0))), (2, .inl v2), (3, .inl v3), (4, .inl v4), (5, .inl v5)]) (st' := [.inr (.inr (7, 5, 0))]) (M' := M) rfl ?_
      refine xq_bind h (fun q51 e52 h => ?_)
      refine xq_call (j := 103) (as := [.inr (.inr (7, 5, 0))]) (pc' := 304) (ls' := [(0, .inr (.inr (18, 1, 0))), (1, .inr (.inr (7, 5, 0))), (2, .inl v2), (3, .inl v3), (4, .inl v4), (5, .inl v5)]) (st' := []) rfl rfl (f_L_hangs_ok e52) ?_
      refine xq_ite h (fun c53 h => ?_) (fun c53 h => ?_)
      · refine xq_core (pc' := 396) (ls' := [(0, .inr (.inr (18, 1, 0))), (1, .inr (.inr (7, 5, 0))), (2, .inl v2), (3, .inl v3), (4, .inl v4), (5, .inl v5)]) (st' := []) rfl (if_pos c53) ?_
        refine xq_blk 4 (pc' := 71) (ls' := [(3, .inl (v3 + (1 : Int32))), (2, .inl (0 : Int32)), (0, .inr (.inr (18, 1, 0))), (1, .inr (.inr (7, 5, 0))), (4, .inl v4), (5, .inl v5)]) (st' := []) (M' := q51.2) rfl ?_
        exact xq_sub (a := [(0, .inr (.inr (18, 1, 0))), (1, .inr (.inr (7, 5, 0))), (2, .inl (((0 : Int32), v3 + (1 : Int32), q51.2).1)), (3, .inl (((0 : Int32), v3 + (1 : Int32), q51.2).2.1))]) ⟨rfl, rfl, rfl, rfl, trivial⟩ rfl (h0 ((0 : Int32), v3 + (1 : Int32), q51.2) (Option.some.inj h).symm)
      · refine xq_core (pc' := 307) (ls' := [(0, .inr (.inr (18, 1, 0))), (1, .inr (.inr (7, 5, 0))), (2, .inl v2), (3, .inl v3), (4, .inl v4), (5, .inl v5)]) (st' := []) rfl (if_neg c53) ?_
        exact xq_sub (a := [(0, .inr (.inr (18, 1, 0))), (1, .inr (.inr (7, 5, 0))), (3, .inl v3), (4, .inl v4), (5, .inl v5)]) ⟨rfl, rfl, rfl, rfl, rfl, trivial⟩ rfl (f_L_law_j307_71_ok h h0 hr)
def f_L_law_j186_71 (X : List Int32) (v3 : Int32) (v4 : Int32) (v5 : Int32) (t0 : Int32) (M : xM) : Option ((Int32 × Int32 × xM) ⊕ (Int32 × xM)) := f_L_law_j290_71 X t0 v3 v4 v5 M
theorem f_L_law_j186_71_ok {X : List Int32} {v3 : Int32} {v4 : Int32} {v5 : Int32} {t0 : Int32} {M : xM} {p : (Int32 × Int32 × xM) ⊕ (Int32 × xM)} {r : xR} (h : f_L_law_j186_71 X v3 v4 v5 t0 M = some p) (h0 : ∀ s', p = .inl s' → xq X xe 0 71 [(0, .inr (.inr (18, 1, 0))), (1, .inr (.inr (7, 5, 0))), (2, .inl s'.1), (3, .inl s'.2.1)] [] s'.2.2 r) (hr : ∀ q, p = .inr (q) → ((some (.inl q.1), q.2) : xR) = r) : xq X xe 0 186 [(0, .inr (.inr (18, 1, 0))), (1, .inr (.inr (7, 5, 0))), (3, .inl v3), (4, .inl v4), (5, .inl v5)] [.inl t0] M r := by
  unfold f_L_law_j186_71 at h
  refine xq_blk 2 (pc' := 290) (ls' := [(2, .inl t0), (0, .inr (.inr (18, 1, 0))), (1, .inr (.inr (7, 5, 0))), (3, .inl v3), (4, .inl v4), (5, .inl v5)]) (st' := []) (M' := M) rfl ?_
  exact xq_sub (a := [(0, .inr (.inr (18, 1, 0))), (1, .inr (.inr (7, 5, 0))), (2, .inl t0), (3, .inl v3), (4, .inl v4), (5, .inl v5)]) ⟨rfl, rfl, rfl, rfl, rfl, rfl, trivial⟩ rfl (f_L_law_j290_71_ok h h0 hr)
def f_L_law_j185_71 (X : List Int32) (v3 : Int32) (v4 : Int32) (v5 : Int32) (M : xM) : Option ((Int32 × Int32 × xM) ⊕ (Int32 × xM)) := f_L_law_j186_71 X v3 v4 v5 (0 : Int32) M
theorem f_L_law_j185_71_ok {X : List Int32} {v3 : Int32} {v4 : Int32} {v5 : Int32} {M : xM} {p : (Int32 × Int32 × xM) ⊕ (Int32 × xM)} {r : xR} (h : f_L_law_j185_71 X v3 v4 v5 M = some p) (h0 : ∀ s', p = .inl s' → xq X xe 0 71 [(0, .inr (.inr (18, 1, 0))), (1, .inr (.inr (7, 5, 0))), (2, .inl s'.1), (3, .inl s'.2.1)] [] s'.2.2 r) (hr : ∀ q, p = .inr (q) → ((some (.inl q.1), q.2) : xR) = r) : xq X xe 0 185 [(0, .inr (.inr (18, 1, 0))), (1, .inr (.inr (7, 5, 0))), (3, .inl v3), (4, .inl v4), (5, .inl v5)] [] M r := by
  unfold f_L_law_j185_71 at h
  refine xq_blk 1 (pc' := 186) (ls' := [(0, .inr (.inr (18, 1, 0))), (1, .inr (.inr (7, 5, 0))), (3, .inl v3), (4, .inl v4), (5, .inl v5)]) (st' := [.inl (0 : Int32)]) (M' := M) rfl ?_
  exact xq_sub (a := [(0, .inr (.inr (18, 1, 0))), (1, .inr (.inr (7, 5, 0))), (3, .inl v3), (4, .inl v4), (5, .inl v5)]) ⟨rfl, rfl, rfl, rfl, rfl, trivial⟩ rfl (f_L_law_j186_71_ok h h0 hr)
def f_L_law_j289_71 (X : List Int32) (v3 : Int32) (v4 : Int32) (v5 : Int32) (t0 : Int32) (M : xM) : Option ((Int32 × Int32 × xM) ⊕ (Int32 × xM)) := f_L_law_j290_71 X t0 v3 v4 v5 M
theorem f_L_law_j289_71_ok {X : List Int32} {v3 : Int32} {v4 : Int32} {v5 : Int32} {t0 : Int32} {M : xM} {p : (Int32 × Int32 × xM) ⊕ (Int32 × xM)} {r : xR} (h : f_L_law_j289_71 X v3 v4 v5 t0 M = some p) (h0 : ∀ s', p = .inl s' → xq X xe 0 71 [(0, .inr (.inr (18, 1, 0))), (1, .inr (.inr (7, 5, 0))), (2, .inl s'.1), (3, .inl s'.2.1)] [] s'.2.2 r) (hr : ∀ q, p = .inr (q) → ((some (.inl q.1), q.2) : xR) = r) : xq X xe 0 289 [(0, .inr (.inr (18, 1, 0))), (1, .inr (.inr (7, 5, 0))), (3, .inl v3), (4, .inl v4), (5, .inl v5)] [.inl t0] M r := by
  unfold f_L_law_j289_71 at h
  refine xq_blk 1 (pc' := 290) (ls' := [(2, .inl t0), (0, .inr (.inr (18, 1, 0))), (1, .inr (.inr (7, 5, 0))), (3, .inl v3), (4, .inl v4), (5, .inl v5)]) (st' := []) (M' := M) rfl ?_
  exact xq_sub (a := [(0, .inr (.inr (18, 1, 0))), (1, .inr (.inr (7, 5, 0))), (2, .inl t0), (3, .inl v3), (4, .inl v4), (5, .inl v5)]) ⟨rfl, rfl, rfl, rfl, rfl, rfl, trivial⟩ rfl (f_L_law_j290_71_ok h h0 hr)
def f_L_law_j288_71 (X : List Int32) (v3 : Int32) (v4 : Int32) (v5 : Int32) (M : xM) : Option ((Int32 × Int32 × xM) ⊕ (Int32 × xM)) := f_L_law_j289_71 X v3 v4 v5 (0 : Int32) M
theorem f_L_law_j288_71_ok {X : List Int32} {v3 : Int32} {v4 : Int32} {v5 : Int32} {M : xM} {p : (Int32 × Int32 × xM) ⊕ (Int32 × xM)} {r : xR} (h : f_L_law_j288_71 X v3 v4 v5 M = some p) (h0 : ∀ s', p = .inl s' → xq X xe 0 71 [(0, .inr (.inr (18, 1, 0))), (1, .inr (.inr (7, 5, 0))), (2, .inl s'.1), (3, .inl s'.2.1)] [] s'.2.2 r) (hr : ∀ q, p = .inr (q) → ((some (.inl q.1), q.2) : xR) = r) : xq X xe 0 288 [(0, .inr (.inr (18, 1, 0))), (1, .inr (.inr (7, 5, 0))), (3, .inl v3), (4, .inl v4), (5, .inl v5)] [] M r := by
  unfold f_L_law_j288_71 at h
  refine xq_blk 1 (pc' := 289) (ls' := [(0, .inr (.inr (18, 1, 0))), (1, .inr (.inr (7, 5, 0))), (3, .inl v3), (4, .inl v4), (5, .inl v5)]) (st' := [.inl (0 : Int32)]) (M' := M) rfl ?_
  exact xq_sub (a := [(0, .inr (.inr (18, 1, 0))), (1, .inr (.inr (7, 5, 0))), (3, .inl v3), (4, .inl v4), (5, .inl v5)]) ⟨rfl, rfl, rfl, rfl, rfl, trivial⟩ rfl (f_L_law_j289_71_ok h h0 hr)
def f_L_law_j258_71 (X : List Int32) (v3 : Int32) (v4 : Int32) (v5 : Int32) (v7 : Int64) (v9 : Int32) (t0 : Int32) (t1 : Int32) (M : xM) : Option ((Int32 × Int32 × xM) ⊕ (Int32 × xM)) := if t1 = t0 then ((f_L_print M).bind (fun q64 => if (lg_cmp q64 v7) = (0 : Int32) then ((f_L_act v4 v5 M).bind (fun q66 => if q66.1 = v9 then (f_L_law_j289_71 X v3 v4 v5 (1 : Int32) q66.2) else (f_L_law_j288_71 X v3 v4 v5 q66.2))) else (f_L_law_j288_71 X v3 v4 v5 M))) else (f_L_law_j288_71 X v3 v4 v5 M)
theorem f_L_law_j258_71_ok {X : List Int32} {v3 : Int32} {v4 : Int32} {v5 : Int32} {v7 : Int64} {v9 : Int32} {t0 : Int32} {t1 : Int32} {M : xM} {p : (Int32 × Int32 × xM) ⊕ (Int32 × xM)} {r : xR} (h : f_L_law_j258_71 X v3 v4 v5 v7 v9 t0 t1 M = some p) (h0 : ∀ s', p = .inl s' → xq X xe 0 71 [(0, .inr (.inr (18, 1, 0))), (1, .inr (.inr (7, 5, 0))), (2, .inl s'.1), (3, .inl s'.2.1)] [] s'.2.2 r) (hr : ∀ q, p = .inr (q) → ((some (.inl q.1), q.2) : xR) = r) : xq X xe 0 258 [(0, .inr (.inr (18, 1, 0))), (1, .inr (.inr (7, 5, 0))), (3, .inl v3), (4, .inl v4), (5, .inl v5), (7, .inr (.inl v7)), (9, .inl v9)] [.inl t0, .inl t1] M r := by
  unfold f_L_law_j258_71 at h
  refine xq_ite h (fun c70 h => ?_) (fun c70 h => ?_)
  · refine xq_core (pc' := 261) (ls' := [(0, .inr (.inr (18, 1, 0))), (1, .inr (.inr (7, 5, 0))), (3, .inl v3), (4, .inl v4), (5, .inl v5), (7, .inr (.inl v7)), (9, .inl v9)]) (st' := []) rfl (if_pos c70) ?_
    refine xq_blk 1 (pc' := 262) (ls' := [(0, .inr (.inr (18, 1, 0))), (1, .inr (.inr (7, 5, 0))), (3, .inl v3), (4, .inl v4), (5, .inl v5), (7, .inr (.inl v7)), (9, .inl v9)]) (st' := [.inr (.inr (7, 5, 0))]) (M' := M) rfl ?_
    refine xq_bind h (fun q64 e65 h => ?_)
    refine xq_call (j := 104) (as := [.inr (.inr (7, 5, 0))]) (pc' := 265) (ls' := [(0, .inr (.inr (18, 1, 0))), (1, .inr (.inr (7, 5, 0))), (3, .inl v3), (4, .inl v4), (5, .inl v5), (7, .inr (.inl v7)), (9, .inl v9)]) (st' := []) rfl rfl (f_L_print_ok e65) ?_
    refine xq_blk 2 (pc' := 268) (ls' := [(0, .inr (.inr (18, 1, 0))), (1, .inr (.inr (7, 5, 0))), (3, .inl v3), (4, .inl v4), (5, .inl v5), (7, .inr (.inl v7)), (9, .inl v9)]) (st' := [.inl (lg_cmp q64 v7)]) (M' := M) rfl ?_
    refine xq_ite h (fun c69 h => ?_) (fun c69 h => ?_)
    · refine xq_core (pc' := 271) (ls' := [(0, .inr (.inr (18, 1, 0))), (1, .inr (.inr (7, 5, 0))), (3, .inl v3), (4, .inl v4), (5, .inl v5), (7, .inr (.inl v7)), (9, .inl v9)]) (st' := []) rfl (if_pos c69) ?_
      refine xq_blk 3 (pc' := 276) (ls' := [(0, .inr (.inr (18, 1, 0))), (1, .inr (.inr (7, 5, 0))), (3, .inl v3), (4, .inl v4), (5, .inl v5), (7, .inr (.inl v7)), (9, .inl v9)]) (st' := [.inl v5, .inl v4, .inr (.inr (7, 5, 0))]) (M' := M) rfl ?_
      refine xq_bind h (fun q66 e67 h => ?_)
      refine xq_call (j := 101) (as := [.inr (.inr (7, 5, 0)), .inl v4, .inl v5]) (pc' := 279) (ls' := [(0, .inr (.inr (18, 1, 0))), (1, .inr (.inr (7, 5, 0))), (3, .inl v3), (4, .inl v4), (5, .inl v5), (7, .inr (.inl v7)), (9, .inl v9)]) (st' := []) rfl rfl (f_L_act_ok e67) ?_
      refine xq_blk 1 (pc' := 281) (ls' := [(0, .inr (.inr (18, 1, 0))), (1, .inr (.inr (7, 5, 0))), (3, .inl v3), (4, .inl v4), (5, .inl v5), (7, .inr (.inl v7)), (9, .inl v9)]) (st' := [.inl v9, .inl q66.1]) (M' := q66.2) rfl ?_
      refine xq_ite h (fun c68 h => ?_) (fun c68 h => ?_)
      · refine xq_core (pc' := 284) (ls' := [(0, .inr (.inr (18, 1, 0))), (1, .inr (.inr (7, 5, 0))), (3, .inl v3), (4, .inl v4), (5, .inl v5), (7, .inr (.inl v7)), (9, .inl v9)]) (st' := []) rfl (if_pos c68) ?_
        refine xq_blk 2 (pc' := 289) (ls' := [(0, .inr (.inr (18, 1, 0))), (1, .inr (.inr (7, 5, 0))), (3, .inl v3), (4, .inl v4), (5, .inl v5), (7, .inr (.inl v7)), (9, .inl v9)]) (st' := [.inl (1 : Int32)]) (M' := q66.2) rfl ?_
        exact xq_sub (a := [(0, .inr (.inr (18, 1, 0))), (1, .inr (.inr (7, 5, 0))), (3, .inl v3), (4, .inl v4), (5, .inl v5)]) ⟨rfl, rfl, rfl, rfl, rfl, trivial⟩ rfl (f_L_law_j289_71_ok h h0 hr)
      · refine xq_core (pc' := 288) (ls' := [(0, .inr (.inr (18, 1, 0))), (1, .inr (.inr (7, 5, 0))), (3, .inl v3), (4, .inl v4), (5, .inl v5), (7, .inr (.inl v7)), (9, .inl v9)]) (st' := []) rfl (if_neg c68) ?_
        exact xq_sub (a := [(0, .inr (.inr (18, 1, 0))), (1, .inr (.inr (7, 5, 0))), (3, .inl v3), (4, .inl v4), (5, .inl v5)]) ⟨rfl, rfl, rfl, rfl, rfl, trivial⟩ rfl (f_L_law_j288_71_ok h h0 hr)
    · refine xq_core (pc' := 288) (ls' := [(0, .inr (.inr (18, 1, 0))), (1, .inr (.inr (7, 5, 0))), (3, .inl v3), (4, .inl v4), (5, .inl v5), (7, .inr (.inl v7)), (9, .inl v9)]) (st' := []) rfl (if_neg c69) ?_
      exact xq_sub (a := [(0, .inr (.inr (18, 1, 0))), (1, .inr (.inr (7, 5, 0))), (3, .inl v3), (4, .inl v4), (5, .inl v5)]) ⟨rfl, rfl, rfl, rfl, rfl, trivial⟩ rfl (f_L_law_j288_71_ok h h0 hr)
  · refine xq_core (pc' := 288) (ls' := [(0, .inr (.inr (18, 1, 0))), (1, .inr (.inr (7, 5, 0))), (3, .inl v3), (4, .inl v4), (5, .inl v5), (7, .inr (.inl v7)), (9, .inl v9)]) (st' := []) rfl (if_neg c70) ?_
    exact xq_sub (a := [(0, .inr (.inr (18, 1, 0))), (1, .inr (.inr (7, 5, 0))), (3, .inl v3), (4, .inl v4), (5, .inl v5)]) ⟨rfl, rfl, rfl, rfl, rfl, trivial⟩ rfl (f_L_law_j288_71_ok h h0 hr)
def f_L_law_j220_71 (X : List Int32) (v3 : Int32) (v4 : Int32) (v5 : Int32) (v6 : Int32) (v7 : Int64) (v9 : Int32) (t0 : Int32) (M : xM) : Option ((Int32 × Int32 × xM) ⊕ (Int32 × xM)) := if t0 = (0 : Int32) then (f_L_law_j290_71 X t0 v3 v4 v5 M) else (if (5 : Int32) < v3 then ((f_L_low (v5 >>> ((4 : Int32) &&& (31 : Int32))) (4 : Int32) M).bind (fun q60 => if q60 = (0 : Int32) then ((f_X6_undo M).bind (fun q62 => if v6 < (6 : Int32) then (f_L_law_j258_71 X v3 v4 v5 v7 v9 v6 q62.1 q62.2) else (f_L_law_j258_71 X v3 v4 v5 v7 v9 (5 : Int32) q62.1 q62.2))) else (f_L_law_j290_71 X t0 v3 v4 v5 M))) else (f_L_law_j290_71 X t0 v3 v4 v5 M))
theorem f_L_law_j220_71_ok {X : List Int32} {v3 : Int32} {v4 : Int32} {v5 : Int32} {v6 : Int32} {v7 : Int64} {v9 : Int32} {t0 : Int32} {M : xM} {p : (Int32 × Int32 × xM) ⊕ (Int32 × xM)} {r : xR} (h : f_L_law_j220_71 X v3 v4 v5 v6 v7 v9 t0 M = some p) (h0 : ∀ s', p = .inl s' → xq X xe 0 71 [(0, .inr (.inr (18, 1, 0))), (1, .inr (.inr (7, 5, 0))), (2, .inl s'.1), (3, .inl s'.2.1)] [] s'.2.2 r) (hr : ∀ q, p = .inr (q) → ((some (.inl q.1), q.2) : xR) = r) : xq X xe 0 220 [(0, .inr (.inr (18, 1, 0))), (1, .inr (.inr (7, 5, 0))), (3, .inl v3), (4, .inl v4), (5, .inl v5), (6, .inl v6), (7, .inr (.inl v7)), (9, .inl v9)] [.inl t0] M r := by
  unfold f_L_law_j220_71 at h
  refine xq_blk 2 (pc' := 222) (ls' := [(2, .inl t0), (0, .inr (.inr (18, 1, 0))), (1, .inr (.inr (7, 5, 0))), (3, .inl v3), (4, .inl v4), (5, .inl v5), (6, .inl v6), (7, .inr (.inl v7)), (9, .inl v9)]) (st' := [.inl t0]) (M' := M) rfl ?_
  refine xq_ite h (fun c74 h => ?_) (fun c74 h => ?_)
  · refine xq_core (pc' := 290) (ls' := [(2, .inl t0), (0, .inr (.inr (18, 1, 0))), (1, .inr (.inr (7, 5, 0))), (3, .inl v3), (4, .inl v4), (5, .inl v5), (6, .inl v6), (7, .inr (.inl v7)), (9, .inl v9)]) (st' := []) rfl (if_pos c74) ?_
    exact xq_sub (a := [(0, .inr (.inr (18, 1, 0))), (1, .inr (.inr (7, 5, 0))), (2, .inl t0), (3, .inl v3), (4, .inl v4), (5, .inl v5)]) ⟨rfl, rfl, rfl, rfl, rfl, rfl, trivial⟩ rfl (f_L_law_j290_71_ok h h0 hr)
  · refine xq_core (pc' := 225) (ls' := [(2, .inl t0), (0, .inr (.inr (18, 1, 0))), (1, .inr (.inr (7, 5, 0))), (3, .inl v3), (4, .inl v4), (5, .inl v5), (6, .inl v6), (7, .inr (.inl v7)), (9, .inl v9)]) (st' := []) rfl (if_neg c74) ?_
    refine xq_blk 2 (pc' := 227) (ls' := [(2, .inl t0), (0, .inr (.inr (18, 1, 0))), (1, .inr (.inr (7, 5, 0))), (3, .inl v3), (4, .inl v4), (5, .inl v5), (6, .inl v6), (7, .inr (.inl v7)), (9, .inl v9)]) (st' := [.inl (5 : Int32), .inl v3]) (M' := M) rfl ?_
    refine xq_ite h (fun c73 h => ?_) (fun c73 h => ?_)
    · refine xq_core (pc' := 230) (ls' := [(2, .inl t0), (0, .inr (.inr (18, 1, 0))), (1, .inr (.inr (7, 5, 0))), (3, .inl v3), (4, .inl v4), (5, .inl v5), (6, .inl v6), (7, .inr (.inl v7)), (9, .inl v9)]) (st' := []) rfl (if_pos c73) ?_
      refine xq_blk 4 (pc' := 235) (ls' := [(2, .inl t0), (0, .inr (.inr (18, 1, 0))), (1, .inr (.inr (7, 5, 0))), (3, .inl v3), (4, .inl v4), (5, .inl v5), (6, .inl v6), (7, .inr (.inl v7)), (9, .inl v9)]) (st' := [.inl (4 : Int32), .inl (v5 >>> ((4 : Int32) &&& (31 : Int32)))]) (M' := M) rfl ?_
      refine xq_bind h (fun q60 e61 h => ?_)
      refine xq_call (j := 99) (as := [.inl (v5 >>> ((4 : Int32) &&& (31 : Int32))), .inl (4 : Int32)]) (pc' := 238) (ls' := [(2, .inl t0), (0, .inr (.inr (18, 1, 0))), (1, .inr (.inr (7, 5, 0))), (3, .inl v3), (4, .inl v4), (5, .inl v5), (6, .inl v6), (7, .inr (.inl v7)), (9, .inl v9)]) (st' := []) rfl rfl (f_L_low_ok e61) ?_
      refine xq_ite h (fun c72 h => ?_) (fun c72 h => ?_)
      · refine xq_core (pc' := 241) (ls' := [(2, .inl t0), (0, .inr (.inr (18, 1, 0))), (1, .inr (.inr (7, 5, 0))), (3, .inl v3), (4, .inl v4), (5, .inl v5), (6, .inl v6), (7, .inr (.inl v7)), (9, .inl v9)]) (st' := []) rfl (if_pos c72) ?_
        refine xq_blk 1 (pc' := 242) (ls' := [(2, .inl t0), (0, .inr (.inr (18, 1, 0))), (1, .inr (.inr (7, 5, 0))), (3, .inl v3), (4, .inl v4), (5, .inl v5), (6, .inl v6), (7, .inr (.inl v7)), (9, .inl v9)]) (st' := [.inr (.inr (7, 5, 0))]) (M' := M) rfl ?_
        refine xq_bind h (fun q62 e63 h => ?_)
        refine xq_call (j := 95) (as := [.inr (.inr (7, 5, 0))]) (pc' := 245) (ls' := [(2, .inl t0), (0, .inr (.inr (18, 1, 0))), (1, .inr (.inr (7, 5, 0))), (3, .inl v3), (4, .inl v4), (5, .inl v5), (6, .inl v6), (7, .inr (.inl v7)), (9, .inl v9)]) (st' := []) rfl rfl (f_X6_undo_ok e63) ?_
        refine xq_blk 2 (pc' := 249) (ls' := [(2, .inl t0), (0, .inr (.inr (18, 1, 0))), (1, .inr (.inr (7, 5, 0))), (3, .inl v3), (4, .inl v4), (5, .inl v5), (6, .inl v6), (7, .inr (.inl v7)), (9, .inl v9)]) (st' := [.inl (6 : Int32), .inl v6, .inl q62.1]) (M' := q62.2) rfl ?_
        refine xq_ite h (fun c71 h => ?_) (fun c71 h => ?_)
        · refine xq_core (pc' := 252) (ls' := [(2, .inl t0), (0, .inr (.inr (18, 1, 0))), (1, .inr (.inr (7, 5, 0))), (3, .inl v3), (4, .inl v4), (5, .inl v5), (6, .inl v6), (7, .inr (.inl v7)), (9, .inl v9)]) (st' := [.inl q62.1]) rfl (if_pos c71) ?_
          refine xq_blk 2 (pc' := 258) (ls' := [(2, .inl t0), (0, .inr (.inr (18, 1, 0))), (1, .inr (.inr (7, 5, 0))), (3, .inl v3), (4, .inl v4), (5, .inl v5), (6, .inl v6), (7, .inr (.inl v7)), (9, .inl v9)]) (st' := [.inl v6, .inl q62.1]) (M' := q62.2) rfl ?_
          exact xq_sub (a := [(0, .inr (.inr (18, 1, 0))), (1, .inr (.inr (7, 5, 0))), (3, .inl v3), (4, .inl v4), (5, .inl v5), (7, .inr (.inl v7)), (9, .inl v9)]) ⟨rfl, rfl, rfl, rfl, rfl, rfl, rfl, trivial⟩ rfl (f_L_law_j258_71_ok h h0 hr)
        · refine xq_core (pc' := 257) (ls' := [(2, .inl t0), (0, .inr (.inr (18, 1, 0))), (1, .inr (.inr (7, 5, 0))), (3, .inl v3), (4, .inl v4), (5, .inl v5), (6, .inl v6), (7, .inr (.inl v7)), (9, .inl v9)]) (st' := [.inl q62.1]) rfl (if_neg c71) ?_
          refine xq_blk 1 (pc' := 258) (ls' := [(2, .inl t0), (0, .inr (.inr (18, 1, 0))), (1, .inr (.inr (7, 5, 0))), (3, .inl v3), (4, .inl v4), (5, .inl v5), (6, .inl v6), (7, .inr (.inl v7)), (9, .inl v9)]) (st' := [.inl (5 : Int32), .inl q62.1]) (M' := q62.2) rfl ?_
          exact xq_sub (a := [(0, .inr (.inr (18, 1, 0))), (1, .inr (.inr (7, 5, 0))), (3, .inl v3), (4, .inl v4), (5, .inl v5), (7, .inr (.inl v7)), (9, .inl v9)]) ⟨rfl, rfl, rfl, rfl, rfl, rfl, rfl, trivial⟩ rfl (f_L_law_j258_71_ok h h0 hr)
      · refine xq_core (pc' := 290) (ls' := [(2, .inl t0), (0, .inr (.inr (18, 1, 0))), (1, .inr (.inr (7, 5, 0))), (3, .inl v3), (4, .inl v4), (5, .inl v5), (6, .inl v6), (7, .inr (.inl v7)), (9, .inl v9)]) (st' := []) rfl (if_neg c72) ?_
        exact xq_sub (a := [(0, .inr (.inr (18, 1, 0))), (1, .inr (.inr (7, 5, 0))), (2, .inl t0), (3, .inl v3), (4, .inl v4), (5, .inl v5)]) ⟨rfl, rfl, rfl, rfl, rfl, rfl, trivial⟩ rfl (f_L_law_j290_71_ok h h0 hr)
    · refine xq_core (pc' := 290) (ls' := [(2, .inl t0), (0, .inr (.inr (18, 1, 0))), (1, .inr (.inr (7, 5, 0))), (3, .inl v3), (4, .inl v4), (5, .inl v5), (6, .inl v6), (7, .inr (.inl v7)), (9, .inl v9)]) (st' := []) rfl (if_neg c73) ?_
      exact xq_sub (a := [(0, .inr (.inr (18, 1, 0))), (1, .inr (.inr (7, 5, 0))), (2, .inl t0), (3, .inl v3), (4, .inl v4), (5, .inl v5)]) ⟨rfl, rfl, rfl, rfl, rfl, rfl, trivial⟩ rfl (f_L_law_j290_71_ok h h0 hr)
def f_L_law_j212_71 (X : List Int32) (v3 : Int32) (v4 : Int32) (v5 : Int32) (v6 : Int32) (v7 : Int64) (v9 : Int32) (t0 : Int32) (t1 : Int32) (M : xM) : Option ((Int32 × Int32 × xM) ⊕ (Int32 × xM)) := if t1 = t0 then (f_L_law_j220_71 X v3 v4 v5 v6 v7 v9 (1 : Int32) M) else (f_L_law_j220_71 X v3 v4 v5 v6 v7 v9 (0 : Int32) M)
theorem f_L_law_j212_71_ok {X : List Int32} {v3 : Int32} {v4 : Int32} {v5 : Int32} {v6 : Int32} {v7 : Int64} {v9 : Int32} {t0 : Int32} {t1 : Int32} {M : xM} {p : (Int32 × Int32 × xM) ⊕ (Int32 × xM)} {r : xR} (h : f_L_law_j212_71 X v3 v4 v5 v6 v7 v9 t0 t1 M = some p) (h0 : ∀ s', p = .inl s' → xq X xe 0 71 [(0, .inr (.inr (18, 1, 0))), (1, .inr (.inr (7, 5, 0))), (2, .inl s'.1), (3, .inl s'.2.1)] [] s'.2.2 r) (hr : ∀ q, p = .inr (q) → ((some (.inl q.1), q.2) : xR) = r) : xq X xe 0 212 [(0, .inr (.inr (18, 1, 0))), (1, .inr (.inr (7, 5, 0))), (3, .inl v3), (4, .inl v4), (5, .inl v5), (6, .inl v6), (7, .inr (.inl v7)), (9, .inl v9)] [.inl t0, .inl t1] M r := by
  unfold f_L_law_j212_71 at h
  refine xq_ite h (fun c75 h => ?_) (fun c75 h => ?_)
  · refine xq_core (pc' := 215) (ls' := [(0, .inr (.inr (18, 1, 0))), (1, .inr (.inr (7, 5, 0))), (3, .inl v3), (4, .inl v4), (5, .inl v5), (6, .inl v6), (7, .inr (.inl v7)), (9, .inl v9)]) (st' := []) rfl (if_pos c75) ?_
    refine xq_blk 2 (pc' := 220) (ls' := [(0, .inr (.inr (18, 1, 0))), (1, .inr (.inr (7, 5, 0))), (3, .inl v3), (4, .inl v4), (5, .inl v5), (6, .inl v6), (7, .inr (.inl v7)), (9, .inl v9)]) (st' := [.inl (1 : Int32)]) (M' := M) rfl ?_
    exact xq_sub (a := [(0, .inr (.inr (18, 1, 0))), (1, .inr (.inr (7, 5, 0))), (3, .inl v3), (4, .inl v4), (5, .inl v5), (6, .inl v6), (7, .inr (.inl v7)), (9, .inl v9)]) ⟨rfl, rfl, rfl, rfl, rfl, rfl, rfl, rfl, trivial⟩ rfl (f_L_law_j220_71_ok h h0 hr)
  · refine xq_core (pc' := 219) (ls' := [(0, .inr (.inr (18, 1, 0))), (1, .inr (.inr (7, 5, 0))), (3, .inl v3), (4, .inl v4), (5, .inl v5), (6, .inl v6), (7, .inr (.inl v7)), (9, .inl v9)]) (st' := []) rfl (if_neg c75) ?_
    refine xq_blk 1 (pc' := 220) (ls' := [(0, .inr (.inr (18, 1, 0))), (1, .inr (.inr (7, 5, 0))), (3, .inl v3), (4, .inl v4), (5, .inl v5), (6, .inl v6), (7, .inr (.inl v7)), (9, .inl v9)]) (st' := [.inl (0 : Int32)]) (M' := M) rfl ?_
    exact xq_sub (a := [(0, .inr (.inr (18, 1, 0))), (1, .inr (.inr (7, 5, 0))), (3, .inl v3), (4, .inl v4), (5, .inl v5), (6, .inl v6), (7, .inr (.inl v7)), (9, .inl v9)]) ⟨rfl, rfl, rfl, rfl, rfl, rfl, rfl, rfl, trivial⟩ rfl (f_L_law_j220_71_ok h h0 hr)
def f_L_law_j153_71 (X : List Int32) (v3 : Int32) (v4 : Int32) (v5 : Int32) (v6 : Int32) (v7 : Int64) (t0 : Int32) (M : xM) : Option ((Int32 × Int32 × xM) ⊕ (Int32 × xM)) := if t0 < (0 : Int32) then ((f_X6_count (14 : Int32) M).bind (fun q25 => if q25 = v6 then ((f_L_print M).bind (fun q27 => if (lg_cmp q27 v7) = (0 : Int32) then (f_L_law_j186_71 X v3 v4 v5 (1 : Int32) M) else (f_L_law_j185_71 X v3 v4 v5 M))) else (f_L_law_j185_71 X v3 v4 v5 M))) else ((f_X6_count (14 : Int32) M).bind (fun q58 => if v6 < (6 : Int32) then (f_L_law_j212_71 X v3 v4 v5 v6 v7 t0 (v6 + (1 : Int32)) q58 M) else (f_L_law_j212_71 X v3 v4 v5 v6 v7 t0 (6 : Int32) q58 M)))
theorem f_L_law_j153_71_ok {X : List Int32} {v3 : Int32} {v4 : Int32} {v5 : Int32} {v6 : Int32} {v7 : Int64} {t0 : Int32} {M : xM} {p : (Int32 × Int32 × xM) ⊕ (Int32 × xM)} {r : xR} (h : f_L_law_j153_71 X v3 v4 v5 v6 v7 t0 M = some p) (h0 : ∀ s', p = .inl s' → xq X xe 0 71 [(0, .inr (.inr (18, 1, 0))), (1, .inr (.inr (7, 5, 0))), (2, .inl s'.1), (3, .inl s'.2.1)] [] s'.2.2 r) (hr : ∀ q, p = .inr (q) → ((some (.inl q.1), q.2) : xR) = r) : xq X xe 0 153 [(0, .inr (.inr (18, 1, 0))), (1, .inr (.inr (7, 5, 0))), (3, .inl v3), (4, .inl v4), (5, .inl v5), (6, .inl v6), (7, .inr (.inl v7))] [.inl t0] M r := by
  unfold f_L_law_j153_71 at h
  refine xq_blk 2 (pc' := 157) (ls' := [(9, .inl t0), (0, .inr (.inr (18, 1, 0))), (1, .inr (.inr (7, 5, 0))), (3, .inl v3), (4, .inl v4), (5, .inl v5), (6, .inl v6), (7, .inr (.inl v7))]) (st' := [.inl t0]) (M' := M) rfl ?_
  refine xq_ite h (fun c77 h => ?_) (fun c77 h => ?_)
  · refine xq_core (pc' := 160) (ls' := [(9, .inl t0), (0, .inr (.inr (18, 1, 0))), (1, .inr (.inr (7, 5, 0))), (3, .inl v3), (4, .inl v4), (5, .inl v5), (6, .inl v6), (7, .inr (.inl v7))]) (st' := []) rfl (if_pos c77) ?_
    refine xq_blk 2 (pc' := 163) (ls' := [(9, .inl t0), (0, .inr (.inr (18, 1, 0))), (1, .inr (.inr (7, 5, 0))), (3, .inl v3), (4, .inl v4), (5, .inl v5), (6, .inl v6), (7, .inr (.inl v7))]) (st' := [.inl (14 : Int32), .inr (.inr (7, 5, 0))]) (M' := M) rfl ?_
    refine xq_bind h (fun q25 e26 h => ?_)
    refine xq_call (j := 90) (as := [.inr (.inr (7, 5, 0)), .inl (14 : Int32)]) (pc' := 166) (ls' := [(9, .inl t0), (0, .inr (.inr (18, 1, 0))), (1, .inr (.inr (7, 5, 0))), (3, .inl v3), (4, .inl v4), (5, .inl v5), (6, .inl v6), (7, .inr (.inl v7))]) (st' := []) rfl rfl (f_X6_count_ok e26) ?_
    refine xq_blk 1 (pc' := 168) (ls' := [(9, .inl t0), (0, .inr (.inr (18, 1, 0))), (1, .inr (.inr (7, 5, 0))), (3, .inl v3), (4, .inl v4), (5, .inl v5), (6, .inl v6), (7, .inr (.inl v7))]) (st' := [.inl v6, .inl q25]) (M' := M) rfl ?_
    refine xq_ite h (fun c57 h => ?_) (fun c57 h => ?_)
    · refine xq_core (pc' := 171) (ls' := [(9, .inl t0), (0, .inr (.inr (18, 1, 0))), (1, .inr (.inr (7, 5, 0))), (3, .inl v3), (4, .inl v4), (5, .inl v5), (6, .inl v6), (7, .inr (.inl v7))]) (st' := []) rfl (if_pos c57) ?_
      refine xq_blk 1 (pc' := 172) (ls' := [(9, .inl t0), (0, .inr (.inr (18, 1, 0))), (1, .inr (.inr (7, 5, 0))), (3, .inl v3), (4, .inl v4), (5, .inl v5), (6, .inl v6), (7, .inr (.inl v7))]) (st' := [.inr (.inr (7, 5, 0))]) (M' := M) rfl ?_
      refine xq_bind h (fun q27 e28 h => ?_)
      refine xq_call (j := 104) (as := [.inr (.inr (7, 5, 0))]) (pc' := 175) (ls' := [(9, .inl t0), (0, .inr (.inr (18, 1, 0))), (1, .inr (.inr (7, 5, 0))), (3, .inl v3), (4, .inl v4), (5, .inl v5), (6, .inl v6), (7, .inr (.inl v7))]) (st' := []) rfl rfl (f_L_print_ok e28) ?_
      refine xq_blk 2 (pc' := 178) (ls' := [(9, .inl t0), (0, .inr (.inr (18, 1, 0))), (1, .inr (.inr (7, 5, 0))), (3, .inl v3), (4, .inl v4), (5, .inl v5), (6, .inl v6), (7, .inr (.inl v7))]) (st' := [.inl (lg_cmp q27 v7)]) (M' := M) rfl ?_
      refine xq_ite h (fun c56 h => ?_) (fun c56 h => ?_)
      · refine xq_core (pc' := 181) (ls' := [(9, .inl t0), (0, .inr (.inr (18, 1, 0))), (1, .inr (.inr (7, 5, 0))), (3, .inl v3), (4, .inl v4), (5, .inl v5), (6, .inl v6), (7, .inr (.inl v7))]) (st' := []) rfl (if_pos c56) ?_
        refine xq_blk 2 (pc' := 186) (ls' := [(9, .inl t0), (0, .inr (.inr (18, 1, 0))), (1, .inr (.inr (7, 5, 0))), (3, .inl v3), (4, .inl v4), (5, .inl v5), (6, .inl v6), (7, .inr (.inl v7))]) (st' := [.inl (1 : Int32)]) (M' := M) rfl ?_
        exact xq_sub (a := [(0, .inr (.inr (18, 1, 0))), (1, .inr (.inr (7, 5, 0))), (3, .inl v3), (4, .inl v4), (5, .inl v5)]) ⟨rfl, rfl, rfl, rfl, rfl, trivial⟩ rfl (f_L_law_j186_71_ok h h0 hr)
      · refine xq_core (pc' := 185) (ls' := [(9, .inl t0), (0, .inr (.inr (18, 1, 0))), (1, .inr (.inr (7, 5, 0))), (3, .inl v3), (4, .inl v4), (5, .inl v5), (6, .inl v6), (7, .inr (.inl v7))]) (st' := []) rfl (if_neg c56) ?_
        exact xq_sub (a := [(0, .inr (.inr (18, 1, 0))), (1, .inr (.inr (7, 5, 0))), (3, .inl v3), (4, .inl v4), (5, .inl v5)]) ⟨rfl, rfl, rfl, rfl, rfl, trivial⟩ rfl (f_L_law_j185_71_ok h h0 hr)
    · refine xq_core (pc' := 185) (ls' := [(9, .inl t0), (0, .inr (.inr (18, 1, 0))), (1, .inr (.inr (7, 5, 0))), (3, .inl v3), (4, .inl v4), (5, .inl v5), (6, .inl v6), (7, .inr (.inl v7))]) (st' := []) rfl (if_neg c57) ?_
      exact xq_sub (a := [(0, .inr (.inr (18, 1, 0))), (1, .inr (.inr (7, 5, 0))), (3, .inl v3), (4, .inl v4), (5, .inl v5)]) ⟨rfl, rfl, rfl, rfl, rfl, trivial⟩ rfl (f_L_law_j185_71_ok h h0 hr)
  · refine xq_core (pc' := 190) (ls' := [(9, .inl t0), (0, .inr (.inr (18, 1, 0))), (1, .inr (.inr (7, 5, 0))), (3, .inl v3), (4, .inl v4), (5, .inl v5), (6, .inl v6), (7, .inr (.inl v7))]) (st' := []) rfl (if_neg c77) ?_
    refine xq_blk 2 (pc' := 193) (ls' := [(9, .inl t0), (0, .inr (.inr (18, 1, 0))), (1, .inr (.inr (7, 5, 0))), (3, .inl v3), (4, .inl v4), (5, .inl v5), (6, .inl v6), (7, .inr (.inl v7))]) (st' := [.inl (14 : Int32), .inr (.inr (7, 5, 0))]) (M' := M) rfl ?_
    refine xq_bind h (fun q58 e59 h => ?_)
    refine xq_call (j := 90) (as := [.inr (.inr (7, 5, 0)), .inl (14 : Int32)]) (pc' := 196) (ls' := [(9, .inl t0), (0, .inr (.inr (18, 1, 0))), (1, .inr (.inr (7, 5, 0))), (3, .inl v3), (4, .inl v4), (5, .inl v5), (6, .inl v6), (7, .inr (.inl v7))]) (st' := []) rfl rfl (f_X6_count_ok e59) ?_
    refine xq_blk 2 (pc' := 200) (ls' := [(9, .inl t0), (0, .inr (.inr (18, 1, 0))), (1, .inr (.inr (7, 5, 0))), (3, .inl v3), (4, .inl v4), (5, .inl v5), (6, .inl v6), (7, .inr (.inl v7))]) (st' := [.inl (6 : Int32), .inl v6, .inl q58]) (M' := M) rfl ?_
    refine xq_ite h (fun c76 h => ?_) (fun c76 h => ?_)
    · refine xq_core (pc' := 203) (ls' := [(9, .inl t0), (0, .inr (.inr (18, 1, 0))), (1, .inr (.inr (7, 5, 0))), (3, .inl v3), (4, .inl v4), (5, .inl v5), (6, .inl v6), (7, .inr (.inl v7))]) (st' := [.inl q58]) rfl (if_pos c76) ?_
      refine xq_blk 4 (pc' := 212) (ls' := [(9, .inl t0), (0, .inr (.inr (18, 1, 0))), (1, .inr (.inr (7, 5, 0))), (3, .inl v3), (4, .inl v4), (5, .inl v5), (6, .inl v6), (7, .inr (.inl v7))]) (st' := [.inl (v6 + (1 : Int32)), .inl q58]) (M' := M) rfl ?_
      exact xq_sub (a := [(0, .inr (.inr (18, 1, 0))), (1, .inr (.inr (7, 5, 0))), (3, .inl v3), (4, .inl v4), (5, .inl v5), (6, .inl v6), (7, .inr (.inl v7)), (9, .inl t0)]) ⟨rfl, rfl, rfl, rfl, rfl, rfl, rfl, rfl, trivial⟩ rfl (f_L_law_j212_71_ok h h0 hr)
    · refine xq_core (pc' := 210) (ls' := [(9, .inl t0), (0, .inr (.inr (18, 1, 0))), (1, .inr (.inr (7, 5, 0))), (3, .inl v3), (4, .inl v4), (5, .inl v5), (6, .inl v6), (7, .inr (.inl v7))]) (st' := [.inl q58]) rfl (if_neg c76) ?_
      refine xq_blk 1 (pc' := 212) (ls' := [(9, .inl t0), (0, .inr (.inr (18, 1, 0))), (1, .inr (.inr (7, 5, 0))), (3, .inl v3), (4, .inl v4), (5, .inl v5), (6, .inl v6), (7, .inr (.inl v7))]) (st' := [.inl (6 : Int32), .inl q58]) (M' := M) rfl ?_
      exact xq_sub (a := [(0, .inr (.inr (18, 1, 0))), (1, .inr (.inr (7, 5, 0))), (3, .inl v3), (4, .inl v4), (5, .inl v5), (6, .inl v6), (7, .inr (.inl v7)), (9, .inl t0)]) ⟨rfl, rfl, rfl, rfl, rfl, rfl, rfl, rfl, trivial⟩ rfl (f_L_law_j212_71_ok h h0 hr)
def f_L_law_l71 (X : List Int32)  (s71 : Int32 × Int32 × xM) : Option ((Int32 × Int32 × xM) ⊕ (Int32 × xM)) := if s71.2.1 < (44 : Int32) then (if s71.1 = (0 : Int32) then (Option.map Sum.inr (f_L_law_j404 X s71.1 s71.2.2)) else ((f_L_cell X ((2 : Int32) * s71.2.1) s71.2.2).bind (fun q11 => (f_L_cell X (((2 : Int32) * s71.2.1) + (1 : Int32)) s71.2.2).bind (fun q13 => (f_X6_count (14 : Int32) s71.2.2).bind (fun q15 => (f_L_print s71.2.2).bind (fun q17 => if s71.2.1 < (6 : Int32) then ((f_L_low q11 (9 : Int32) s71.2.2).bind (fun q19 => (f_L_low q13 (12 : Int32) s71.2.2).bind (fun q21 => (f_X6_ask q19 (0 : Int32) ((1 : Int32) + q21) s71.2.2).bind (fun q23 => f_L_law_j153_71 X s71.2.1 q11 q13 q15 q17 q23.1 q23.2)))) else ((f_L_act q11 q13 s71.2.2).bind (fun q78 => f_L_law_j153_71 X s71.2.1 q11 q13 q15 q17 q78.1 q78.2)))))))) else (Option.map Sum.inr (f_L_law_j404 X s71.1 s71.2.2))
theorem f_L_law_l71_ok {X : List Int32}  {s71 : Int32 × Int32 × xM} {p : (Int32 × Int32 × xM) ⊕ (Int32 × xM)} {r : xR} (h : f_L_law_l71 X  s71 = some p) (h0 : ∀ s', p = .inl s' → xq X xe 0 71 [(0, .inr (.inr (18, 1, 0))), (1, .inr (.inr (7, 5, 0))), (2, .inl s'.1), (3, .inl s'.2.1)] [] s'.2.2 r) (hr : ∀ q, p = .inr (q) → ((some (.inl q.1), q.2) : xR) = r) : xq X xe 0 71 [(0, .inr (.inr (18, 1, 0))), (1, .inr (.inr (7, 5, 0))), (2, .inl s71.1), (3, .inl s71.2.1)] [] s71.2.2 r := by
  unfold f_L_law_l71 at h
  refine xq_blk 2 (pc' := 74) (ls' := [(0, .inr (.inr (18, 1, 0))), (1, .inr (.inr (7, 5, 0))), (2, .inl s71.1), (3, .inl s71.2.1)]) (st' := [.inl (44 : Int32), .inl s71.2.1]) (M' := s71.2.2) rfl ?_
  refine xq_ite h (fun c82 h => ?_) (fun c82 h => ?_)
  · refine xq_core (pc' := 77) (ls' := [(0, .inr (.inr (18, 1, 0))), (1, .inr (.inr (7, 5, 0))), (2, .inl s71.1), (3, .inl s71.2.1)]) (st' := []) rfl (if_pos c82) ?_
    refine xq_blk 1 (pc' := 78) (ls' := [(0, .inr (.inr (18, 1, 0))), (1, .inr (.inr (7, 5, 0))), (2, .inl s71.1), (3, .inl s71.2.1)]) (st' := [.inl s71.1]) (M' := s71.2.2) rfl ?_
    refine xq_ite h (fun c81 h => ?_) (fun c81 h => ?_)
    · refine xq_core (pc' := 404) (ls' := [(0, .inr (.inr (18, 1, 0))), (1, .inr (.inr (7, 5, 0))), (2, .inl s71.1), (3, .inl s71.2.1)]) (st' := []) rfl (if_pos c81) ?_
      refine xq_map h (fun p h e => ?_)
      replace hr := fun q e' => hr q (e.symm.trans (congrArg Sum.inr e'))
      clear e
      exact xq_sub (a := [(1, .inr (.inr (7, 5, 0))), (2, .inl s71.1)]) ⟨rfl, rfl, trivial⟩ rfl (f_L_law_j404_ok h hr)
    · refine xq_core (pc' := 81) (ls' := [(0, .inr (.inr (18, 1, 0))), (1, .inr (.inr (7, 5, 0))), (2, .inl s71.1), (3, .inl s71.2.1)]) (st' := []) rfl (if_neg c81) ?_
      refine xq_blk 4 (pc' := 85) (ls' := [(0, .inr (.inr (18, 1, 0))), (1, .inr (.inr (7, 5, 0))), (2, .inl s71.1), (3, .inl s71.2.1)]) (st' := [.inl ((2 : Int32) * s71.2.1), .inr (.inr (18, 1, 0))]) (M' := s71.2.2) rfl ?_
      refine xq_bind h (fun q11 e12 h => ?_)
      refine xq_call (j := 98) (as := [.inr (.inr (18, 1, 0)), .inl ((2 : Int32) * s71.2.1)]) (pc' := 88) (ls' := [(0, .inr (.inr (18, 1, 0))), (1, .inr (.inr (7, 5, 0))), (2, .inl s71.1), (3, .inl s71.2.1)]) (st' := []) rfl rfl (f_L_cell_ok e12) ?_
      refine xq_blk 7 (pc' := 96) (ls' := [(4, .inl q11), (0, .inr (.inr (18, 1, 0))), (1, .inr (.inr (7, 5, 0))), (2, .inl s71.1), (3, .inl s71.2.1)]) (st' := [.inl (((2 : Int32) * s71.2.1) + (1 : Int32)), .inr (.inr (18, 1, 0))]) (M' := s71.2.2) rfl ?_
      refine xq_bind h (fun q13 e14 h => ?_)
      refine xq_call (j := 98) (as := [.inr (.inr (18, 1, 0)), .inl (((2 : Int32) * s71.2.1) + (1 : Int32))]) (pc' := 99) (ls' := [(4, .inl q11), (0, .inr (.inr (18, 1, 0))), (1, .inr (.inr (7, 5, 0))), (2, .inl s71.1), (3, .inl s71.2.1)]) (st' := []) rfl rfl (f_L_cell_ok e14) ?_
      refine xq_blk 3 (pc' := 104) (ls' := [(5, .inl q13), (4, .inl q11), (0, .inr (.inr (18, 1, 0))), (1, .inr (.inr (7, 5, 0))), (2, .inl s71.1), (3, .inl s71.2.1)]) (st' := [.inl (14 : Int32), .inr (.inr (7, 5, 0))]) (M' := s71.2.2) rfl ?_
      refine xq_bind h (fun q15 e16 h => ?_)
      refine xq_call (j := 90) (as := [.inr (.inr (7, 5, 0)), .inl (14 : Int32)]) (pc' := 107) (ls' := [(5, .inl q13), (4, .inl q11), (0, .inr (.inr (18, 1, 0))), (1, .inr (.inr (7, 5, 0))), (2, .inl s71.1), (3, .inl s71.2.1)]) (st' := []) rfl rfl (f_X6_count_ok e16) ?_
      refine xq_blk 2 (pc' := 110) (ls' := [(6, .inl q15), (5, .inl q13), (4, .inl q11), (0, .inr (.inr (18, 1, 0))), (1, .inr (.inr (7, 5, 0))), (2, .inl s71.1), (3, .inl s71.2.1)]) (st' := [.inr (.inr (7, 5, 0))]) (M' := s71.2.2) rfl ?_
      refine xq_bind h (fun q17 e18 h => ?_)
      refine xq_call (j := 104) (as := [.inr (.inr (7, 5, 0))]) (pc' := 113) (ls' := [(6, .inl q15), (5, .inl q13), (4, .inl q11), (0, .inr (.inr (18, 1, 0))), (1, .inr (.inr (7, 5, 0))), (2, .inl s71.1), (3, .inl s71.2.1)]) (st' := []) rfl rfl (f_L_print_ok e18) ?_
      refine xq_blk 3 (pc' := 118) (ls' := [(7, .inr (.inl q17)), (6, .inl q15), (5, .inl q13), (4, .inl q11), (0, .inr (.inr (18, 1, 0))), (1, .inr (.inr (7, 5, 0))), (2, .inl s71.1), (3, .inl s71.2.1)]) (st' := [.inl (6 : Int32), .inl s71.2.1]) (M' := s71.2.2) rfl ?_
      refine xq_ite h (fun c80 h => ?_) (fun c80 h => ?_)
      · refine xq_core (pc' := 121) (ls' := [(7, .inr (.inl q17)), (6, .inl q15), (5, .inl q13), (4, .inl q11), (0, .inr (.inr (18, 1, 0))), (1, .inr (.inr (7, 5, 0))), (2, .inl s71.1), (3, .inl s71.2.1)]) (st' := []) rfl (if_pos c80) ?_
        refine xq_blk 3 (pc' := 126) (ls' := [(7, .inr (.inl q17)), (6, .inl q15), (5, .inl q13), (4, .inl q11), (0, .inr (.inr (18, 1, 0))), (1, .inr (.inr (7, 5, 0))), (2, .inl s71.1), (3, .inl s71.2.1)]) (st' := [.inl (9 : Int32), .inl q11, .inr (.inr (7, 5, 0))]) (M' := s71.2.2) rfl ?_
        refine xq_bind h (fun q19 e20 h => ?_)
        refine xq_call (j := 99) (as := [.inl q11, .inl (9 : Int32)]) (pc' := 129) (ls' := [(7, .inr (.inl q17)), (6, .inl q15), (5, .inl q13), (4, .inl q11), (0, .inr (.inr (18, 1, 0))), (1, .inr (.inr (7, 5, 0))), (2, .inl s71.1), (3, .inl s71.2.1)]) (st' := [.inr (.inr (7, 5, 0))]) rfl rfl (f_L_low_ok e20) ?_
        refine xq_blk 4 (pc' := 135) (ls' := [(7, .inr (.inl q17)), (6, .inl q15), (5, .inl q13), (4, .inl q11), (0, .inr (.inr (18, 1, 0))), (1, .inr (.inr (7, 5, 0))), (2, .inl s71.1), (3, .inl s71.2.1)]) (st' := [.inl (12 : Int32), .inl q13, .inl (1 : Int32), .inl (0 : Int32), .inl q19, .inr (.inr (7, 5, 0))]) (M' := s71.2.2) rfl ?_
        refine xq_bind h (fun q21 e22 h => ?_)
        refine xq_call (j := 99) (as := [.inl q13, .inl (12 : Int32)]) (pc' := 138) (ls' := [(7, .inr (.inl q17)), (6, .inl q15), (5, .inl q13), (4, .inl q11), (0, .inr (.inr (18, 1, 0))), (1, .inr (.inr (7, 5, 0))), (2, .inl s71.1), (3, .inl s71.2.1)]) (st' := [.inl (1 : Int32), .inl (0 : Int32), .inl q19, .inr (.inr (7, 5, 0))]) rfl rfl (f_L_low_ok e22) ?_
        refine xq_blk 1 (pc' := 139) (ls' := [(7, .inr (.inl q17)), (6, .inl q15), (5, .inl q13), (4, .inl q11), (0, .inr (.inr (18, 1, 0))), (1, .inr (.inr (7, 5, 0))), (2, .inl s71.1), (3, .inl s71.2.1)]) (st' := [.inl ((1 : Int32) + q21), .inl (0 : Int32), .inl q19, .inr (.inr (7, 5, 0))]) (M' := s71.2.2) rfl ?_
        refine xq_bind h (fun q23 e24 h => ?_)
        refine xq_call (j := 77) (as := [.inr (.inr (7, 5, 0)), .inl q19, .inl (0 : Int32), .inl ((1 : Int32) + q21)]) (pc' := 142) (ls' := [(7, .inr (.inl q17)), (6, .inl q15), (5, .inl q13), (4, .inl q11), (0, .inr (.inr (18, 1, 0))), (1, .inr (.inr (7, 5, 0))), (2, .inl s71.1), (3, .inl s71.2.1)]) (st' := []) rfl rfl (f_X6_ask_ok e24) ?_
        refine xq_blk 1 (pc' := 153) (ls' := [(7, .inr (.inl q17)), (6, .inl q15), (5, .inl q13), (4, .inl q11), (0, .inr (.inr (18, 1, 0))), (1, .inr (.inr (7, 5, 0))), (2, .inl s71.1), (3, .inl s71.2.1)]) (st' := [.inl q23.1]) (M' := q23.2) rfl ?_
        exact xq_sub (a := [(0, .inr (.inr (18, 1, 0))), (1, .inr (.inr (7, 5, 0))), (3, .inl s71.2.1), (4, .inl q11), (5, .inl q13), (6, .inl q15), (7, .inr (.inl q17))]) ⟨rfl, rfl, rfl, rfl, rfl, rfl, rfl, trivial⟩ rfl (f_L_law_j153_71_ok h h0 hr)
      · refine xq_core (pc' := 145) (ls' := [(7, .inr (.inl q17)), (6, .inl q15), (5, .inl q13), (4, .inl q11), (0, .inr (.inr (18, 1, 0))), (1, .inr (.inr (7, 5, 0))), (2, .inl s71.1), (3, .inl s71.2.1)]) (st' := []) rfl (if_neg c80) ?_
        refine xq_blk 3 (pc' := 150) (ls' := [(7, .inr (.inl q17)), (6, .inl q15), (5, .inl q13), (4, .inl q11), (0, .inr (.inr (18, 1, 0))), (1, .inr (.inr (7, 5, 0))), (2, .inl s71.1), (3, .inl s71.2.1)]) (st' := [.inl q13, .inl q11, .inr (.inr (7, 5, 0))]) (M' := s71.2.2) rfl ?_
        refine xq_bind h (fun q78 e79 h => ?_)
        refine xq_call (j := 101) (as := [.inr (.inr (7, 5, 0)), .inl q11, .inl q13]) (pc' := 153) (ls' := [(7, .inr (.inl q17)), (6, .inl q15), (5, .inl q13), (4, .inl q11), (0, .inr (.inr (18, 1, 0))), (1, .inr (.inr (7, 5, 0))), (2, .inl s71.1), (3, .inl s71.2.1)]) (st' := []) rfl rfl (f_L_act_ok e79) ?_
        exact xq_sub (a := [(0, .inr (.inr (18, 1, 0))), (1, .inr (.inr (7, 5, 0))), (3, .inl s71.2.1), (4, .inl q11), (5, .inl q13), (6, .inl q15), (7, .inr (.inl q17))]) ⟨rfl, rfl, rfl, rfl, rfl, rfl, rfl, trivial⟩ rfl (f_L_law_j153_71_ok h h0 hr)
  · refine xq_core (pc' := 404) (ls' := [(0, .inr (.inr (18, 1, 0))), (1, .inr (.inr (7, 5, 0))), (2, .inl s71.1), (3, .inl s71.2.1)]) (st' := []) rfl (if_neg c82) ?_
    refine xq_map h (fun p h e => ?_)
    replace hr := fun q e' => hr q (e.symm.trans (congrArg Sum.inr e'))
    clear e
    exact xq_sub (a := [(1, .inr (.inr (7, 5, 0))), (2, .inl s71.1)]) ⟨rfl, rfl, trivial⟩ rfl (f_L_law_j404_ok h hr)
def f_L_law_l33 (X : List Int32)  (s33 : Int32 × Int32 × xM) : Option ((Int32 × Int32 × xM) ⊕ (Int32 × xM)) := if s33.2.1 < (6 : Int32) then (if s33.1 = (0 : Int32) then (some (.inl ((0 : Int32), s33.2.1 + (1 : Int32), s33.2.2))) else ((f_X6_use (0 : Int32) s33.2.1 (0 : Int32) s33.2.2).bind (fun q3 => if q3.1 = ((7 : Int32) - s33.2.1) then (some (.inl ((1 : Int32), s33.2.1 + (1 : Int32), q3.2))) else (some (.inl ((0 : Int32), s33.2.1 + (1 : Int32), q3.2)))))) else (Option.map Sum.inr (xlp (f_L_law_l71 X) 4000 (s33.1, (0 : Int32), s33.2.2)))
theorem f_L_law_l33_ok {X : List Int32}  {s33 : Int32 × Int32 × xM} {p : (Int32 × Int32 × xM) ⊕ (Int32 × xM)} {r : xR} (h : f_L_law_l33 X  s33 = some p) (h0 : ∀ s', p = .inl s' → xq X xe 0 33 [(0, .inr (.inr (18, 1, 0))), (1, .inr (.inr (7, 5, 0))), (2, .inl s'.1), (3, .inl s'.2.1)] [] s'.2.2 r) (hr : ∀ q, p = .inr (q) → ((some (.inl q.1), q.2) : xR) = r) : xq X xe 0 33 [(0, .inr (.inr (18, 1, 0))), (1, .inr (.inr (7, 5, 0))), (2, .inl s33.1), (3, .inl s33.2.1)] [] s33.2.2 r := by
  unfold f_L_law_l33 at h
  refine xq_blk 2 (pc' := 36) (ls' := [(0, .inr (.inr (18, 1, 0))), (1, .inr (.inr (7, 5, 0))), (2, .inl s33.1), (3, .inl s33.2.1)]) (st' := [.inl (6 : Int32), .inl s33.2.1]) (M' := s33.2.2) rfl ?_
  refine xq_ite h (fun c83 h => ?_) (fun c83 h => ?_)
  · refine xq_core (pc' := 39) (ls' := [(0, .inr (.inr (18, 1, 0))), (1, .inr (.inr (7, 5, 0))), (2, .inl s33.1), (3, .inl s33.2.1)]) (st' := []) rfl (if_pos c83) ?_
    refine xq_blk 1 (pc' := 40) (ls' := [(0, .inr (.inr (18, 1, 0))), (1, .inr (.inr (7, 5, 0))), (2, .inl s33.1), (3, .inl s33.2.1)]) (st' := [.inl s33.1]) (M' := s33.2.2) rfl ?_
    refine xq_ite h (fun c6 h => ?_) (fun c6 h => ?_)
    · refine xq_core (pc' := 61) (ls' := [(0, .inr (.inr (18, 1, 0))), (1, .inr (.inr (7, 5, 0))), (2, .inl s33.1), (3, .inl s33.2.1)]) (st' := []) rfl (if_pos c6) ?_
      refine xq_blk 4 (pc' := 33) (ls' := [(3, .inl (s33.2.1 + (1 : Int32))), (2, .inl (0 : Int32)), (0, .inr (.inr (18, 1, 0))), (1, .inr (.inr (7, 5, 0)))]) (st' := []) (M' := s33.2.2) rfl ?_
      exact xq_sub (a := [(0, .inr (.inr (18, 1, 0))), (1, .inr (.inr (7, 5, 0))), (2, .inl (((0 : Int32), s33.2.1 + (1 : Int32), s33.2.2).1)), (3, .inl (((0 : Int32), s33.2.1 + (1 : Int32), s33.2.2).2.1))]) ⟨rfl, rfl, rfl, rfl, trivial⟩ rfl (h0 ((0 : Int32), s33.2.1 + (1 : Int32), s33.2.2) (Option.some.inj h).symm)
    · refine xq_core (pc' := 43) (ls' := [(0, .inr (.inr (18, 1, 0))), (1, .inr (.inr (7, 5, 0))), (2, .inl s33.1), (3, .inl s33.2.1)]) (st' := []) rfl (if_neg c6) ?_
      refine xq_blk 4 (pc' := 47) (ls' := [(0, .inr (.inr (18, 1, 0))), (1, .inr (.inr (7, 5, 0))), (2, .inl s33.1), (3, .inl s33.2.1)]) (st' := [.inl (0 : Int32), .inl s33.2.1, .inl (0 : Int32), .inr (.inr (7, 5, 0))]) (M' := s33.2.2) rfl ?_
      refine xq_bind h (fun q3 e4 h => ?_)
      refine xq_call (j := 85) (as := [.inr (.inr (7, 5, 0)), .inl (0 : Int32), .inl s33.2.1, .inl (0 : Int32)]) (pc' := 50) (ls' := [(0, .inr (.inr (18, 1, 0))), (1, .inr (.inr (7, 5, 0))), (2, .inl s33.1), (3, .inl s33.2.1)]) (st' := []) rfl rfl (f_X6_use_ok e4) ?_
      refine xq_blk 3 (pc' := 54) (ls' := [(0, .inr (.inr (18, 1, 0))), (1, .inr (.inr (7, 5, 0))), (2, .inl s33.1), (3, .inl s33.2.1)]) (st' := [.inl ((7 : Int32) - s33.2.1), .inl q3.1]) (M' := q3.2) rfl ?_
      refine xq_ite h (fun c5 h => ?_) (fun c5 h => ?_)
      · refine xq_core (pc' := 57) (ls' := [(0, .inr (.inr (18, 1, 0))), (1, .inr (.inr (7, 5, 0))), (2, .inl s33.1), (3, .inl s33.2.1)]) (st' := []) rfl (if_pos c5) ?_
        refine xq_blk 5 (pc' := 33) (ls' := [(3, .inl (s33.2.1 + (1 : Int32))), (2, .inl (1 : Int32)), (0, .inr (.inr (18, 1, 0))), (1, .inr (.inr (7, 5, 0)))]) (st' := []) (M' := q3.2) rfl ?_
        exact xq_sub (a := [(0, .inr (.inr (18, 1, 0))), (1, .inr (.inr (7, 5, 0))), (2, .inl (((1 : Int32), s33.2.1 + (1 : Int32), q3.2).1)), (3, .inl (((1 : Int32), s33.2.1 + (1 : Int32), q3.2).2.1))]) ⟨rfl, rfl, rfl, rfl, trivial⟩ rfl (h0 ((1 : Int32), s33.2.1 + (1 : Int32), q3.2) (Option.some.inj h).symm)
      · refine xq_core (pc' := 61) (ls' := [(0, .inr (.inr (18, 1, 0))), (1, .inr (.inr (7, 5, 0))), (2, .inl s33.1), (3, .inl s33.2.1)]) (st' := []) rfl (if_neg c5) ?_
        refine xq_blk 4 (pc' := 33) (ls' := [(3, .inl (s33.2.1 + (1 : Int32))), (2, .inl (0 : Int32)), (0, .inr (.inr (18, 1, 0))), (1, .inr (.inr (7, 5, 0)))]) (st' := []) (M' := q3.2) rfl ?_
        exact xq_sub (a := [(0, .inr (.inr (18, 1, 0))), (1, .inr (.inr (7, 5, 0))), (2, .inl (((0 : Int32), s33.2.1 + (1 : Int32), q3.2).1)), (3, .inl (((0 : Int32), s33.2.1 + (1 : Int32), q3.2).2.1))]) ⟨rfl, rfl, rfl, rfl, trivial⟩ rfl (h0 ((0 : Int32), s33.2.1 + (1 : Int32), q3.2) (Option.some.inj h).symm)
  · refine xq_core (pc' := 69) (ls' := [(0, .inr (.inr (18, 1, 0))), (1, .inr (.inr (7, 5, 0))), (2, .inl s33.1), (3, .inl s33.2.1)]) (st' := []) rfl (if_neg c83) ?_
    refine xq_map h (fun p h e => ?_)
    replace hr := fun q e' => hr q (e.symm.trans (congrArg Sum.inr e'))
    clear e
    refine xq_blk 2 (pc' := 71) (ls' := [(3, .inl (0 : Int32)), (0, .inr (.inr (18, 1, 0))), (1, .inr (.inr (7, 5, 0))), (2, .inl s33.1)]) (st' := []) (M' := s33.2.2) rfl ?_
    refine xq_sub (a := [(0, .inr (.inr (18, 1, 0))), (1, .inr (.inr (7, 5, 0))), (2, .inl s33.1), (3, .inl (0 : Int32))]) ⟨rfl, rfl, rfl, rfl, trivial⟩ rfl ?_
    exact xlp_ok (P := fun s71 => xq X xe 0 71 [(0, .inr (.inr (18, 1, 0))), (1, .inr (.inr (7, 5, 0))), (2, .inl s71.1), (3, .inl s71.2.1)] [] s71.2.2 r) (fun s p' hb g0 g1 => f_L_law_l71_ok hb g0 (fun q e => hr q (g1 _ e).symm)) 4000 _ h
def f_L_law_j30 (X : List Int32) (t0 : Int32) (M : xM) : Option (Int32 × xM) := xlp (f_L_law_l33 X) 4000 (t0, (0 : Int32), M)
theorem f_L_law_j30_ok {X : List Int32} {t0 : Int32} {M : xM} {p : Int32 × xM} {r : xR} (h : f_L_law_j30 X t0 M = some p) (hr : ∀ q, p = q → ((some (.inl q.1), q.2) : xR) = r) : xq X xe 0 30 [(0, .inr (.inr (18, 1, 0))), (1, .inr (.inr (7, 5, 0)))] [.inl t0] M r := by
  unfold f_L_law_j30 at h
  refine xq_blk 3 (pc' := 33) (ls' := [(3, .inl (0 : Int32)), (2, .inl t0), (0, .inr (.inr (18, 1, 0))), (1, .inr (.inr (7, 5, 0)))]) (st' := []) (M' := M) rfl ?_
  refine xq_sub (a := [(0, .inr (.inr (18, 1, 0))), (1, .inr (.inr (7, 5, 0))), (2, .inl t0), (3, .inl (0 : Int32))]) ⟨rfl, rfl, rfl, rfl, trivial⟩ rfl ?_
  exact xlp_ok (P := fun s33 => xq X xe 0 33 [(0, .inr (.inr (18, 1, 0))), (1, .inr (.inr (7, 5, 0))), (2, .inl s33.1), (3, .inl s33.2.1)] [] s33.2.2 r) (fun s p' hb g0 g1 => f_L_law_l33_ok hb g0 (fun q e => hr q (g1 _ e).symm)) 4000 _ h
def f_L_law_j29 (X : List Int32)  (M : xM) : Option (Int32 × xM) := f_L_law_j30 X (0 : Int32) M
theorem f_L_law_j29_ok {X : List Int32}  {M : xM} {p : Int32 × xM} {r : xR} (h : f_L_law_j29 X  M = some p) (hr : ∀ q, p = q → ((some (.inl q.1), q.2) : xR) = r) : xq X xe 0 29 [(0, .inr (.inr (18, 1, 0))), (1, .inr (.inr (7, 5, 0)))] [] M r := by
  unfold f_L_law_j29 at h
  refine xq_blk 1 (pc' := 30) (ls' := [(0, .inr (.inr (18, 1, 0))), (1, .inr (.inr (7, 5, 0)))]) (st' := [.inl (0 : Int32)]) (M' := M) rfl ?_
  exact xq_sub (a := [(0, .inr (.inr (18, 1, 0))), (1, .inr (.inr (7, 5, 0)))]) ⟨rfl, rfl, trivial⟩ rfl (f_L_law_j30_ok h hr)
def f_L_law (X : List Int32) (M : xM) : Option (Int32 × xM) := (f_L_hangs M).bind (fun q1 => if q1.1 = (0 : Int32) then (f_L_law_j29 X  q1.2) else ((f_X6_set (0 : Int32) (0 : Int32) q1.2).bind (fun q84 => if q84.1 = (1 : Int32) then (f_L_law_j30 X (1 : Int32) q84.2) else (f_L_law_j29 X  q84.2))))
theorem f_L_law_run {X : List Int32} {M : xM} {p : Int32 × xM} {r : xR} (h : f_L_law X M = some p) (hr : ∀ q, p = q → ((some (.inl q.1), q.2) : xR) = r) : xq X xe 0 8 [(1, .inr (.inr (7, 5, 0))), (0, .inr (.inr (18, 1, 0)))] [] M r := by
  unfold f_L_law at h
  refine xq_blk 1 (pc' := 9) (ls' := [(1, .inr (.inr (7, 5, 0))), (0, .inr (.inr (18, 1, 0)))]) (st' := [.inr (.inr (7, 5, 0))]) (M' := M) rfl ?_
  refine xq_bind h (fun q1 e2 h => ?_)
  refine xq_call (j := 103) (as := [.inr (.inr (7, 5, 0))]) (pc' := 12) (ls' := [(1, .inr (.inr (7, 5, 0))), (0, .inr (.inr (18, 1, 0)))]) (st' := []) rfl rfl (f_L_hangs_ok e2) ?_
  refine xq_ite h (fun c87 h => ?_) (fun c87 h => ?_)
  · refine xq_core (pc' := 29) (ls' := [(1, .inr (.inr (7, 5, 0))), (0, .inr (.inr (18, 1, 0)))]) (st' := []) rfl (if_pos c87) ?_
    exact xq_sub (a := [(0, .inr (.inr (18, 1, 0))), (1, .inr (.inr (7, 5, 0)))]) ⟨rfl, rfl, trivial⟩ rfl (f_L_law_j29_ok h hr)
  · refine xq_core (pc' := 15) (ls' := [(1, .inr (.inr (7, 5, 0))), (0, .inr (.inr (18, 1, 0)))]) (st' := []) rfl (if_neg c87) ?_
    refine xq_blk 3 (pc' := 18) (ls' := [(1, .inr (.inr (7, 5, 0))), (0, .inr (.inr (18, 1, 0)))]) (st' := [.inl (0 : Int32), .inl (0 : Int32), .inr (.inr (7, 5, 0))]) (M' := q1.2) rfl ?_
    refine xq_bind h (fun q84 e85 h => ?_)
    refine xq_call (j := 76) (as := [.inr (.inr (7, 5, 0)), .inl (0 : Int32), .inl (0 : Int32)]) (pc' := 21) (ls' := [(1, .inr (.inr (7, 5, 0))), (0, .inr (.inr (18, 1, 0)))]) (st' := []) rfl rfl (f_X6_set_ok e85) ?_
    refine xq_blk 1 (pc' := 22) (ls' := [(1, .inr (.inr (7, 5, 0))), (0, .inr (.inr (18, 1, 0)))]) (st' := [.inl (1 : Int32), .inl q84.1]) (M' := q84.2) rfl ?_
    refine xq_ite h (fun c86 h => ?_) (fun c86 h => ?_)
    · refine xq_core (pc' := 25) (ls' := [(1, .inr (.inr (7, 5, 0))), (0, .inr (.inr (18, 1, 0)))]) (st' := []) rfl (if_pos c86) ?_
      refine xq_blk 2 (pc' := 30) (ls' := [(1, .inr (.inr (7, 5, 0))), (0, .inr (.inr (18, 1, 0)))]) (st' := [.inl (1 : Int32)]) (M' := q84.2) rfl ?_
      exact xq_sub (a := [(0, .inr (.inr (18, 1, 0))), (1, .inr (.inr (7, 5, 0)))]) ⟨rfl, rfl, trivial⟩ rfl (f_L_law_j30_ok h hr)
    · refine xq_core (pc' := 29) (ls' := [(1, .inr (.inr (7, 5, 0))), (0, .inr (.inr (18, 1, 0)))]) (st' := []) rfl (if_neg c86) ?_
      exact xq_sub (a := [(0, .inr (.inr (18, 1, 0))), (1, .inr (.inr (7, 5, 0)))]) ⟨rfl, rfl, trivial⟩ rfl (f_L_law_j29_ok h hr)
