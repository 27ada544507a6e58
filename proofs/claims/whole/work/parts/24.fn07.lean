def f_X6_untilPermit (a1 : Int32) (M : xM) : Option (Int32 × xM) := (f_X6_isPerson a1 M).bind (fun q1 => if q1 = (0 : Int32) then (some (((-1 : Int32), M))) else ((f_X4_waitsForSome 2 a1 M).bind (fun q3 => if q3 = (0 : Int32) then (some (((-5 : Int32), M))) else ((f_X5_passUntilPermit 4 a1 (xe_cp 4 2 M)).bind (fun q5 => some ((q5.1, q5.2)))))))
theorem f_X6_untilPermit_run {X : List Int32} {a1 : Int32} {M : xM} {p : Int32 × xM} {r : xR} (h : f_X6_untilPermit a1 M = some p) (hr : ∀ q, p = q → ((some (.inl q.1), q.2) : xR) = r) : xq X xe 107 0 [(0, .inr (.inr (7, 5, 0))), (1, .inl a1)] [] M r := by
  unfold f_X6_untilPermit at h
  refine xq_blk 1 (pc' := 1) (ls' := [(0, .inr (.inr (7, 5, 0))), (1, .inl a1)]) (st' := [.inl a1]) (M' := M) rfl ?_
  refine xq_bind h (fun q1 e2 h => ?_)
  refine xq_call (j := 61) (as := [.inl a1]) (pc' := 4) (ls' := [(0, .inr (.inr (7, 5, 0))), (1, .inl a1)]) (st' := []) rfl rfl (f_X6_isPerson_ok e2) ?_
  refine xq_ite h (fun c8 h => ?_) (fun c8 h => ?_)
  · refine xq_core (pc' := 7) (ls' := [(0, .inr (.inr (7, 5, 0))), (1, .inl a1)]) (st' := []) rfl (if_pos c8) ?_
    refine xq_blk 1 (pc' := 8) (ls' := [(0, .inr (.inr (7, 5, 0))), (1, .inl a1)]) (st' := [.inl (-1 : Int32)]) (M' := M) rfl ?_
    exact (hr _ (Option.some.inj h).symm) ▸ xq_ret rfl
  · refine xq_core (pc' := 9) (ls' := [(0, .inr (.inr (7, 5, 0))), (1, .inl a1)]) (st' := []) rfl (if_neg c8) ?_
    refine xq_blk 4 (pc' := 17) (ls' := [(0, .inr (.inr (7, 5, 0))), (1, .inl a1)]) (st' := [.inl a1, .inr (.inr (1, 2, 3))]) (M' := M) rfl ?_
    refine xq_bind h (fun q3 e4 h => ?_)
    refine xq_call (j := 50) (as := [.inr (.inr (1, 2, 3)), .inl a1]) (pc' := 20) (ls' := [(0, .inr (.inr (7, 5, 0))), (1, .inl a1)]) (st' := []) rfl rfl (f_X4_waitsForSome_ok e4) ?_
    refine xq_ite h (fun c7 h => ?_) (fun c7 h => ?_)
    · refine xq_core (pc' := 23) (ls' := [(0, .inr (.inr (7, 5, 0))), (1, .inl a1)]) (st' := []) rfl (if_pos c7) ?_
      refine xq_blk 1 (pc' := 25) (ls' := [(0, .inr (.inr (7, 5, 0))), (1, .inl a1)]) (st' := [.inl (-5 : Int32)]) (M' := M) rfl ?_
      exact (hr _ (Option.some.inj h).symm) ▸ xq_ret rfl
    · refine xq_core (pc' := 26) (ls' := [(0, .inr (.inr (7, 5, 0))), (1, .inl a1)]) (st' := []) rfl (if_neg c7) ?_
      refine xq_blk 4 (pc' := 34) (ls' := [(0, .inr (.inr (7, 5, 0))), (1, .inl a1)]) (st' := [.inr (.inr (0, 2, 0)), .inr (.inr (0, 4, 0))]) (M' := M) rfl ?_
      refine xq_ext (j := 37) (as := [.inr (.inr (0, 4, 0)), .inr (.inr (0, 2, 0))]) (pc' := 37) (ls' := [(0, .inr (.inr (7, 5, 0))), (1, .inl a1)]) (st' := []) (q := (none, xe_cp 4 2 M)) rfl rfl rfl ?_
      refine xq_blk 3 (pc' := 42) (ls' := [(0, .inr (.inr (7, 5, 0))), (1, .inl a1)]) (st' := [.inl a1, .inr (.inr (0, 4, 0))]) (M' := xe_cp 4 2 M) rfl ?_
      refine xq_bind h (fun q5 e6 h => ?_)
      refine xq_call (j := 83) (as := [.inr (.inr (0, 4, 0)), .inl a1]) (pc' := 45) (ls' := [(0, .inr (.inr (7, 5, 0))), (1, .inl a1)]) (st' := []) rfl rfl (f_X5_passUntilPermit_ok e6) ?_
      exact (hr _ (Option.some.inj h).symm) ▸ xq_ret rfl
theorem f_X6_untilPermit_ok {X : List Int32} {a1 : Int32} {M : xM} {p : Int32 × xM} (h : f_X6_untilPermit a1 M = some p) : xq X xe 107 0 [(0, .inr (.inr (7, 5, 0))), (1, .inl a1)] [] M ((some (.inl p.1), p.2) : xR) := f_X6_untilPermit_run h (fun q e => by rw [e])
def f_X6_daysToWaitFor (a1 : Int32) (a2 : Int32) (a3 : Int32) (M : xM) : Option (Int32 × xM) := (f_X5_askFor 4 a1 a2 a3 (xe_cp 4 2 M)).bind (fun q1 => if q1.1 = (0 : Int32) then (some (((0 : Int32), q1.2))) else ((f_X5_passUntilPermit 4 a1 q1.2).bind (fun q3 => some ((q3.1, q3.2)))))
theorem f_X6_daysToWaitFor_run {X : List Int32} {a1 : Int32} {a2 : Int32} {a3 : Int32} {M : xM} {p : Int32 × xM} {r : xR} (h : f_X6_daysToWaitFor a1 a2 a3 M = some p) (hr : ∀ q, p = q → ((some (.inl q.1), q.2) : xR) = r) : xq X xe 108 0 [(0, .inr (.inr (7, 5, 0))), (1, .inl a1), (2, .inl a2), (3, .inl a3)] [] M r := by
  unfold f_X6_daysToWaitFor at h
  refine xq_blk 4 (pc' := 8) (ls' := [(0, .inr (.inr (7, 5, 0))), (1, .inl a1), (2, .inl a2), (3, .inl a3)]) (st' := [.inr (.inr (0, 2, 0)), .inr (.inr (0, 4, 0))]) (M' := M) rfl ?_
  refine xq_ext (j := 37) (as := [.inr (.inr (0, 4, 0)), .inr (.inr (0, 2, 0))]) (pc' := 11) (ls' := [(0, .inr (.inr (7, 5, 0))), (1, .inl a1), (2, .inl a2), (3, .inl a3)]) (st' := []) (q := (none, xe_cp 4 2 M)) rfl rfl rfl ?_
  refine xq_blk 5 (pc' := 18) (ls' := [(0, .inr (.inr (7, 5, 0))), (1, .inl a1), (2, .inl a2), (3, .inl a3)]) (st' := [.inl a3, .inl a2, .inl a1, .inr (.inr (0, 4, 0))]) (M' := xe_cp 4 2 M) rfl ?_
  refine xq_bind h (fun q1 e2 h => ?_)
  refine xq_call (j := 67) (as := [.inr (.inr (0, 4, 0)), .inl a1, .inl a2, .inl a3]) (pc' := 21) (ls' := [(0, .inr (.inr (7, 5, 0))), (1, .inl a1), (2, .inl a2), (3, .inl a3)]) (st' := []) rfl rfl (f_X5_askFor_ok e2) ?_
  refine xq_blk 2 (pc' := 25) (ls' := [(4, .inl q1.1), (0, .inr (.inr (7, 5, 0))), (1, .inl a1), (2, .inl a2), (3, .inl a3)]) (st' := [.inl q1.1]) (M' := q1.2) rfl ?_
  refine xq_ite h (fun c5 h => ?_) (fun c5 h => ?_)
  · refine xq_core (pc' := 28) (ls' := [(4, .inl q1.1), (0, .inr (.inr (7, 5, 0))), (1, .inl a1), (2, .inl a2), (3, .inl a3)]) (st' := []) rfl (if_pos c5) ?_
    refine xq_blk 2 (pc' := 40) (ls' := [(4, .inl q1.1), (0, .inr (.inr (7, 5, 0))), (1, .inl a1), (2, .inl a2), (3, .inl a3)]) (st' := [.inl (0 : Int32)]) (M' := q1.2) rfl ?_
    exact (hr _ (Option.some.inj h).symm) ▸ xq_ret rfl
  · refine xq_core (pc' := 32) (ls' := [(4, .inl q1.1), (0, .inr (.inr (7, 5, 0))), (1, .inl a1), (2, .inl a2), (3, .inl a3)]) (st' := []) rfl (if_neg c5) ?_
    refine xq_blk 3 (pc' := 37) (ls' := [(4, .inl q1.1), (0, .inr (.inr (7, 5, 0))), (1, .inl a1), (2, .inl a2), (3, .inl a3)]) (st' := [.inl a1, .inr (.inr (0, 4, 0))]) (M' := q1.2) rfl ?_
    refine xq_bind h (fun q3 e4 h => ?_)
    refine xq_call (j := 83) (as := [.inr (.inr (0, 4, 0)), .inl a1]) (pc' := 40) (ls' := [(4, .inl q1.1), (0, .inr (.inr (7, 5, 0))), (1, .inl a1), (2, .inl a2), (3, .inl a3)]) (st' := []) rfl rfl (f_X5_passUntilPermit_ok e4) ?_
    exact (hr _ (Option.some.inj h).symm) ▸ xq_ret rfl
theorem f_X6_daysToWaitFor_ok {X : List Int32} {a1 : Int32} {a2 : Int32} {a3 : Int32} {M : xM} {p : Int32 × xM} (h : f_X6_daysToWaitFor a1 a2 a3 M = some p) : xq X xe 108 0 [(0, .inr (.inr (7, 5, 0))), (1, .inl a1), (2, .inl a2), (3, .inl a3)] [] M ((some (.inl p.1), p.2) : xR) := f_X6_daysToWaitFor_run h (fun q e => by rw [e])
def f_X6_bestShed_l73 (k73v1 : Int32) (k73v2 : Int32) (k73v3 : Int32) (s73 : Int32 × Int32 × Int32 × xM) : Option ((Int32 × Int32 × Int32 × xM) ⊕ (Int32 × xM)) := if s73.2.2.1 < (3 : Int32) then ((f_X6_daysToWaitFor k73v1 s73.2.2.1 k73v2 s73.2.2.2).bind (fun q11 => if q11.1 = (-6 : Int32) then (some (.inl (s73.1, s73.2.1, s73.2.2.1 + (1 : Int32), q11.2))) else (if s73.1 = (-6 : Int32) then (some (.inl (s73.2.2.1, q11.1, s73.2.2.1 + (1 : Int32), q11.2))) else (if q11.1 < s73.2.1 then (some (.inl (s73.2.2.1, q11.1, s73.2.2.1 + (1 : Int32), q11.2))) else (some (.inl (s73.1, s73.2.1, s73.2.2.1 + (1 : Int32), q11.2))))))) else (Option.map Sum.inr (if k73v3 = (0 : Int32) then (some ((s73.1, s73.2.2.2))) else (some ((s73.2.1, s73.2.2.2)))))
theorem f_X6_bestShed_l73_ok {X : List Int32} {k73v1 : Int32} {k73v2 : Int32} {k73v3 : Int32} {s73 : Int32 × Int32 × Int32 × xM} {p : (Int32 × Int32 × Int32 × xM) ⊕ (Int32 × xM)} {r : xR} (h : f_X6_bestShed_l73 k73v1 k73v2 k73v3 s73 = some p) (h0 : ∀ s', p = .inl s' → xq X xe 109 73 [(0, .inr (.inr (7, 5, 0))), (1, .inl k73v1), (2, .inl k73v2), (3, .inl k73v3), (4, .inl s'.1), (5, .inl s'.2.1), (6, .inl s'.2.2.1)] [] s'.2.2.2 r) (hr : ∀ q, p = .inr (q) → ((some (.inl q.1), q.2) : xR) = r) : xq X xe 109 73 [(0, .inr (.inr (7, 5, 0))), (1, .inl k73v1), (2, .inl k73v2), (3, .inl k73v3), (4, .inl s73.1), (5, .inl s73.2.1), (6, .inl s73.2.2.1)] [] s73.2.2.2 r := by
  unfold f_X6_bestShed_l73 at h
  refine xq_blk 2 (pc' := 76) (ls' := [(0, .inr (.inr (7, 5, 0))), (1, .inl k73v1), (2, .inl k73v2), (3, .inl k73v3), (4, .inl s73.1), (5, .inl s73.2.1), (6, .inl s73.2.2.1)]) (st' := [.inl (3 : Int32), .inl s73.2.2.1]) (M' := s73.2.2.2) rfl ?_
  refine xq_ite h (fun c17 h => ?_) (fun c17 h => ?_)
  · refine xq_core (pc' := 79) (ls' := [(0, .inr (.inr (7, 5, 0))), (1, .inl k73v1), (2, .inl k73v2), (3, .inl k73v3), (4, .inl s73.1), (5, .inl s73.2.1), (6, .inl s73.2.2.1)]) (st' := []) rfl (if_pos c17) ?_
    refine xq_blk 4 (pc' := 84) (ls' := [(0, .inr (.inr (7, 5, 0))), (1, .inl k73v1), (2, .inl k73v2), (3, .inl k73v3), (4, .inl s73.1), (5, .inl s73.2.1), (6, .inl s73.2.2.1)]) (st' := [.inl k73v2, .inl s73.2.2.1, .inl k73v1, .inr (.inr (7, 5, 0))]) (M' := s73.2.2.2) rfl ?_
    refine xq_bind h (fun q11 e12 h => ?_)
    refine xq_call (j := 108) (as := [.inr (.inr (7, 5, 0)), .inl k73v1, .inl s73.2.2.1, .inl k73v2]) (pc' := 87) (ls' := [(0, .inr (.inr (7, 5, 0))), (1, .inl k73v1), (2, .inl k73v2), (3, .inl k73v3), (4, .inl s73.1), (5, .inl s73.2.1), (6, .inl s73.2.2.1)]) (st' := []) rfl rfl (f_X6_daysToWaitFor_ok e12) ?_
    refine xq_blk 3 (pc' := 93) (ls' := [(7, .inl q11.1), (0, .inr (.inr (7, 5, 0))), (1, .inl k73v1), (2, .inl k73v2), (3, .inl k73v3), (4, .inl s73.1), (5, .inl s73.2.1), (6, .inl s73.2.2.1)]) (st' := [.inl (-6 : Int32), .inl q11.1]) (M' := q11.2) rfl ?_
    refine xq_ite h (fun c15 h => ?_) (fun c15 h => ?_)
    · refine xq_core (pc' := 118) (ls' := [(7, .inl q11.1), (0, .inr (.inr (7, 5, 0))), (1, .inl k73v1), (2, .inl k73v2), (3, .inl k73v3), (4, .inl s73.1), (5, .inl s73.2.1), (6, .inl s73.2.2.1)]) (st' := []) rfl (if_pos c15) ?_
      refine xq_blk 2 (pc' := 73) (ls' := [(6, .inl (s73.2.2.1 + (1 : Int32))), (7, .inl q11.1), (0, .inr (.inr (7, 5, 0))), (1, .inl k73v1), (2, .inl k73v2), (3, .inl k73v3), (4, .inl s73.1), (5, .inl s73.2.1)]) (st' := []) (M' := q11.2) rfl ?_
      exact xq_sub (a := [(0, .inr (.inr (7, 5, 0))), (1, .inl k73v1), (2, .inl k73v2), (3, .inl k73v3), (4, .inl ((s73.1, s73.2.1, s73.2.2.1 + (1 : Int32), q11.2).1)), (5, .inl ((s73.1, s73.2.1, s73.2.2.1 + (1 : Int32), q11.2).2.1)), (6, .inl ((s73.1, s73.2.1, s73.2.2.1 + (1 : Int32), q11.2).2.2.1))]) ⟨rfl, rfl, rfl, rfl, rfl, rfl, rfl, trivial⟩ rfl (h0 (s73.1, s73.2.1, s73.2.2.1 + (1 : Int32), q11.2) (Option.some.inj h).symm)
    · refine xq_core (pc' := 96) (ls' := [(7, .inl q11.1), (0, .inr (.inr (7, 5, 0))), (1, .inl k73v1), (2, .inl k73v2), (3, .inl k73v3), (4, .inl s73.1), (5, .inl s73.2.1), (6, .inl s73.2.2.1)]) (st' := []) rfl (if_neg c15) ?_
      refine xq_blk 2 (pc' := 100) (ls' := [(7, .inl q11.1), (0, .inr (.inr (7, 5, 0))), (1, .inl k73v1), (2, .inl k73v2), (3, .inl k73v3), (4, .inl s73.1), (5, .inl s73.2.1), (6, .inl s73.2.2.1)]) (st' := [.inl (-6 : Int32), .inl s73.1]) (M' := q11.2) rfl ?_
      refine xq_ite h (fun c14 h => ?_) (fun c14 h => ?_)
      · refine xq_core (pc' := 110) (ls' := [(7, .inl q11.1), (0, .inr (.inr (7, 5, 0))), (1, .inl k73v1), (2, .inl k73v2), (3, .inl k73v3), (4, .inl s73.1), (5, .inl s73.2.1), (6, .inl s73.2.2.1)]) (st' := []) rfl (if_pos c14) ?_
        refine xq_blk 6 (pc' := 73) (ls' := [(6, .inl (s73.2.2.1 + (1 : Int32))), (5, .inl q11.1), (4, .inl s73.2.2.1), (7, .inl q11.1), (0, .inr (.inr (7, 5, 0))), (1, .inl k73v1), (2, .inl k73v2), (3, .inl k73v3)]) (st' := []) (M' := q11.2) rfl ?_
        exact xq_sub (a := [(0, .inr (.inr (7, 5, 0))), (1, .inl k73v1), (2, .inl k73v2), (3, .inl k73v3), (4, .inl ((s73.2.2.1, q11.1, s73.2.2.1 + (1 : Int32), q11.2).1)), (5, .inl ((s73.2.2.1, q11.1, s73.2.2.1 + (1 : Int32), q11.2).2.1)), (6, .inl ((s73.2.2.1, q11.1, s73.2.2.1 + (1 : Int32), q11.2).2.2.1))]) ⟨rfl, rfl, rfl, rfl, rfl, rfl, rfl, trivial⟩ rfl (h0 (s73.2.2.1, q11.1, s73.2.2.1 + (1 : Int32), q11.2) (Option.some.inj h).symm)
      · refine xq_core (pc' := 103) (ls' := [(7, .inl q11.1), (0, .inr (.inr (7, 5, 0))), (1, .inl k73v1), (2, .inl k73v2), (3, .inl k73v3), (4, .inl s73.1), (5, .inl s73.2.1), (6, .inl s73.2.2.1)]) (st' := []) rfl (if_neg c14) ?_
        refine xq_blk 2 (pc' := 107) (ls' := [(7, .inl q11.1), (0, .inr (.inr (7, 5, 0))), (1, .inl k73v1), (2, .inl k73v2), (3, .inl k73v3), (4, .inl s73.1), (5, .inl s73.2.1), (6, .inl s73.2.2.1)]) (st' := [.inl s73.2.1, .inl q11.1]) (M' := q11.2) rfl ?_
        refine xq_ite h (fun c13 h => ?_) (fun c13 h => ?_)
        · refine xq_core (pc' := 110) (ls' := [(7, .inl q11.1), (0, .inr (.inr (7, 5, 0))), (1, .inl k73v1), (2, .inl k73v2), (3, .inl k73v3), (4, .inl s73.1), (5, .inl s73.2.1), (6, .inl s73.2.2.1)]) (st' := []) rfl (if_pos c13) ?_
          refine xq_blk 6 (pc' := 73) (ls' := [(6, .inl (s73.2.2.1 + (1 : Int32))), (5, .inl q11.1), (4, .inl s73.2.2.1), (7, .inl q11.1), (0, .inr (.inr (7, 5, 0))), (1, .inl k73v1), (2, .inl k73v2), (3, .inl k73v3)]) (st' := []) (M' := q11.2) rfl ?_
          exact xq_sub (a := [(0, .inr (.inr (7, 5, 0))), (1, .inl k73v1), (2, .inl k73v2), (3, .inl k73v3), (4, .inl ((s73.2.2.1, q11.1, s73.2.2.1 + (1 : Int32), q11.2).1)), (5, .inl ((s73.2.2.1, q11.1, s73.2.2.1 + (1 : Int32), q11.2).2.1)), (6, .inl ((s73.2.2.1, q11.1, s73.2.2.1 + (1 : Int32), q11.2).2.2.1))]) ⟨rfl, rfl, rfl, rfl, rfl, rfl, rfl, trivial⟩ rfl (h0 (s73.2.2.1, q11.1, s73.2.2.1 + (1 : Int32), q11.2) (Option.some.inj h).symm)
        · refine xq_core (pc' := 118) (ls' := [(7, .inl q11.1), (0, .inr (.inr (7, 5, 0))), (1, .inl k73v1), (2, .inl k73v2), (3, .inl k73v3), (4, .inl s73.1), (5, .inl s73.2.1), (6, .inl s73.2.2.1)]) (st' := []) rfl (if_neg c13) ?_
          refine xq_blk 2 (pc' := 73) (ls' := [(6, .inl (s73.2.2.1 + (1 : Int32))), (7, .inl q11.1), (0, .inr (.inr (7, 5, 0))), (1, .inl k73v1), (2, .inl k73v2), (3, .inl k73v3), (4, .inl s73.1), (5, .inl s73.2.1)]) (st' := []) (M' := q11.2) rfl ?_
          exact xq_sub (a := [(0, .inr (.inr (7, 5, 0))), (1, .inl k73v1), (2, .inl k73v2), (3, .inl k73v3), (4, .inl ((s73.1, s73.2.1, s73.2.2.1 + (1 : Int32), q11.2).1)), (5, .inl ((s73.1, s73.2.1, s73.2.2.1 + (1 : Int32), q11.2).2.1)), (6, .inl ((s73.1, s73.2.1, s73.2.2.1 + (1 : Int32), q11.2).2.2.1))]) ⟨rfl, rfl, rfl, rfl, rfl, rfl, rfl, trivial⟩ rfl (h0 (s73.1, s73.2.1, s73.2.2.1 + (1 : Int32), q11.2) (Option.some.inj h).symm)
  · refine xq_core (pc' := 124) (ls' := [(0, .inr (.inr (7, 5, 0))), (1, .inl k73v1), (2, .inl k73v2), (3, .inl k73v3), (4, .inl s73.1), (5, .inl s73.2.1), (6, .inl s73.2.2.1)]) (st' := []) rfl (if_neg c17) ?_
    refine xq_map h (fun p h e => ?_)
    replace hr := fun q e' => hr q (e.symm.trans (congrArg Sum.inr e'))
    clear e
    refine xq_blk 1 (pc' := 125) (ls' := [(0, .inr (.inr (7, 5, 0))), (1, .inl k73v1), (2, .inl k73v2), (3, .inl k73v3), (4, .inl s73.1), (5, .inl s73.2.1), (6, .inl s73.2.2.1)]) (st' := [.inl k73v3]) (M' := s73.2.2.2) rfl ?_
    refine xq_ite h (fun c16 h => ?_) (fun c16 h => ?_)
    · refine xq_core (pc' := 128) (ls' := [(0, .inr (.inr (7, 5, 0))), (1, .inl k73v1), (2, .inl k73v2), (3, .inl k73v3), (4, .inl s73.1), (5, .inl s73.2.1), (6, .inl s73.2.2.1)]) (st' := []) rfl (if_pos c16) ?_
      refine xq_blk 2 (pc' := 135) (ls' := [(0, .inr (.inr (7, 5, 0))), (1, .inl k73v1), (2, .inl k73v2), (3, .inl k73v3), (4, .inl s73.1), (5, .inl s73.2.1), (6, .inl s73.2.2.1)]) (st' := [.inl s73.1]) (M' := s73.2.2.2) rfl ?_
      exact (hr _ (Option.some.inj h).symm) ▸ xq_ret rfl
    · refine xq_core (pc' := 133) (ls' := [(0, .inr (.inr (7, 5, 0))), (1, .inl k73v1), (2, .inl k73v2), (3, .inl k73v3), (4, .inl s73.1), (5, .inl s73.2.1), (6, .inl s73.2.2.1)]) (st' := []) rfl (if_neg c16) ?_
      refine xq_blk 1 (pc' := 135) (ls' := [(0, .inr (.inr (7, 5, 0))), (1, .inl k73v1), (2, .inl k73v2), (3, .inl k73v3), (4, .inl s73.1), (5, .inl s73.2.1), (6, .inl s73.2.2.1)]) (st' := [.inl s73.2.1]) (M' := s73.2.2.2) rfl ?_
      exact (hr _ (Option.some.inj h).symm) ▸ xq_ret rfl
def f_X6_bestShed (a1 : Int32) (a2 : Int32) (a3 : Int32) (M : xM) : Option (Int32 × xM) := (f_X6_isPerson a1 M).bind (fun q1 => if q1 = (0 : Int32) then (some (((-1 : Int32), M))) else ((f_X6_isFrom (1 : Int32) a2 (99 : Int32) M).bind (fun q3 => if q3 = (0 : Int32) then (some (((-2 : Int32), M))) else ((f_X6_isFrom (0 : Int32) a3 (1 : Int32) M).bind (fun q5 => if q5 = (0 : Int32) then (some (((-2 : Int32), M))) else ((f_X4_hasPermit 2 a1 M).bind (fun q7 => if q7 = (0 : Int32) then ((f_X4_waitsForSome 2 a1 M).bind (fun q9 => if q9 = (0 : Int32) then (xlp (f_X6_bestShed_l73 a1 a2 a3) 4000 ((-6 : Int32), (-6 : Int32), (0 : Int32), M)) else (some (((-5 : Int32), M))))) else (some (((-5 : Int32), M))))))))))
theorem f_X6_bestShed_run {X : List Int32} {a1 : Int32} {a2 : Int32} {a3 : Int32} {M : xM} {p : Int32 × xM} {r : xR} (h : f_X6_bestShed a1 a2 a3 M = some p) (hr : ∀ q, p = q → ((some (.inl q.1), q.2) : xR) = r) : xq X xe 109 0 [(0, .inr (.inr (7, 5, 0))), (1, .inl a1), (2, .inl a2), (3, .inl a3)] [] M r := by
  unfold f_X6_bestShed at h
  refine xq_blk 1 (pc' := 1) (ls' := [(0, .inr (.inr (7, 5, 0))), (1, .inl a1), (2, .inl a2), (3, .inl a3)]) (st' := [.inl a1]) (M' := M) rfl ?_
  refine xq_bind h (fun q1 e2 h => ?_)
  refine xq_call (j := 61) (as := [.inl a1]) (pc' := 4) (ls' := [(0, .inr (.inr (7, 5, 0))), (1, .inl a1), (2, .inl a2), (3, .inl a3)]) (st' := []) rfl rfl (f_X6_isPerson_ok e2) ?_
  refine xq_ite h (fun c22 h => ?_) (fun c22 h => ?_)
  · refine xq_core (pc' := 7) (ls' := [(0, .inr (.inr (7, 5, 0))), (1, .inl a1), (2, .inl a2), (3, .inl a3)]) (st' := []) rfl (if_pos c22) ?_
    refine xq_blk 1 (pc' := 8) (ls' := [(0, .inr (.inr (7, 5, 0))), (1, .inl a1), (2, .inl a2), (3, .inl a3)]) (st' := [.inl (-1 : Int32)]) (M' := M) rfl ?_
    exact (hr _ (Option.some.inj h).symm) ▸ xq_ret rfl
  · refine xq_core (pc' := 9) (ls' := [(0, .inr (.inr (7, 5, 0))), (1, .inl a1), (2, .inl a2), (3, .inl a3)]) (st' := []) rfl (if_neg c22) ?_
    refine xq_blk 3 (pc' := 13) (ls' := [(0, .inr (.inr (7, 5, 0))), (1, .inl a1), (2, .inl a2), (3, .inl a3)]) (st' := [.inl (99 : Int32), .inl a2, .inl (1 : Int32)]) (M' := M) rfl ?_
    refine xq_bind h (fun q3 e4 h => ?_)
    refine xq_call (j := 42) (as := [.inl (1 : Int32), .inl a2, .inl (99 : Int32)]) (pc' := 16) (ls' := [(0, .inr (.inr (7, 5, 0))), (1, .inl a1), (2, .inl a2), (3, .inl a3)]) (st' := []) rfl rfl (f_X6_isFrom_ok e4) ?_
    refine xq_ite h (fun c21 h => ?_) (fun c21 h => ?_)
    · refine xq_core (pc' := 28) (ls' := [(0, .inr (.inr (7, 5, 0))), (1, .inl a1), (2, .inl a2), (3, .inl a3)]) (st' := []) rfl (if_pos c21) ?_
      refine xq_blk 1 (pc' := 30) (ls' := [(0, .inr (.inr (7, 5, 0))), (1, .inl a1), (2, .inl a2), (3, .inl a3)]) (st' := [.inl (-2 : Int32)]) (M' := M) rfl ?_
      exact (hr _ (Option.some.inj h).symm) ▸ xq_ret rfl
    · refine xq_core (pc' := 19) (ls' := [(0, .inr (.inr (7, 5, 0))), (1, .inl a1), (2, .inl a2), (3, .inl a3)]) (st' := []) rfl (if_neg c21) ?_
      refine xq_blk 3 (pc' := 22) (ls' := [(0, .inr (.inr (7, 5, 0))), (1, .inl a1), (2, .inl a2), (3, .inl a3)]) (st' := [.inl (1 : Int32), .inl a3, .inl (0 : Int32)]) (M' := M) rfl ?_
      refine xq_bind h (fun q5 e6 h => ?_)
      refine xq_call (j := 42) (as := [.inl (0 : Int32), .inl a3, .inl (1 : Int32)]) (pc' := 25) (ls' := [(0, .inr (.inr (7, 5, 0))), (1, .inl a1), (2, .inl a2), (3, .inl a3)]) (st' := []) rfl rfl (f_X6_isFrom_ok e6) ?_
      refine xq_ite h (fun c20 h => ?_) (fun c20 h => ?_)
      · refine xq_core (pc' := 28) (ls' := [(0, .inr (.inr (7, 5, 0))), (1, .inl a1), (2, .inl a2), (3, .inl a3)]) (st' := []) rfl (if_pos c20) ?_
        refine xq_blk 1 (pc' := 30) (ls' := [(0, .inr (.inr (7, 5, 0))), (1, .inl a1), (2, .inl a2), (3, .inl a3)]) (st' := [.inl (-2 : Int32)]) (M' := M) rfl ?_
        exact (hr _ (Option.some.inj h).symm) ▸ xq_ret rfl
      · refine xq_core (pc' := 31) (ls' := [(0, .inr (.inr (7, 5, 0))), (1, .inl a1), (2, .inl a2), (3, .inl a3)]) (st' := []) rfl (if_neg c20) ?_
        refine xq_blk 4 (pc' := 39) (ls' := [(0, .inr (.inr (7, 5, 0))), (1, .inl a1), (2, .inl a2), (3, .inl a3)]) (st' := [.inl a1, .inr (.inr (1, 2, 3))]) (M' := M) rfl ?_
        refine xq_bind h (fun q7 e8 h => ?_)
        refine xq_call (j := 47) (as := [.inr (.inr (1, 2, 3)), .inl a1]) (pc' := 42) (ls' := [(0, .inr (.inr (7, 5, 0))), (1, .inl a1), (2, .inl a2), (3, .inl a3)]) (st' := []) rfl rfl (f_X4_hasPermit_ok e8) ?_
        refine xq_ite h (fun c19 h => ?_) (fun c19 h => ?_)
        · refine xq_core (pc' := 45) (ls' := [(0, .inr (.inr (7, 5, 0))), (1, .inl a1), (2, .inl a2), (3, .inl a3)]) (st' := []) rfl (if_pos c19) ?_
          refine xq_blk 4 (pc' := 53) (ls' := [(0, .inr (.inr (7, 5, 0))), (1, .inl a1), (2, .inl a2), (3, .inl a3)]) (st' := [.inl a1, .inr (.inr (1, 2, 3))]) (M' := M) rfl ?_
          refine xq_bind h (fun q9 e10 h => ?_)
          refine xq_call (j := 50) (as := [.inr (.inr (1, 2, 3)), .inl a1]) (pc' := 56) (ls' := [(0, .inr (.inr (7, 5, 0))), (1, .inl a1), (2, .inl a2), (3, .inl a3)]) (st' := []) rfl rfl (f_X4_waitsForSome_ok e10) ?_
          refine xq_ite h (fun c18 h => ?_) (fun c18 h => ?_)
          · refine xq_core (pc' := 62) (ls' := [(0, .inr (.inr (7, 5, 0))), (1, .inl a1), (2, .inl a2), (3, .inl a3)]) (st' := []) rfl (if_pos c18) ?_
            refine xq_blk 6 (pc' := 73) (ls' := [(6, .inl (0 : Int32)), (5, .inl (-6 : Int32)), (4, .inl (-6 : Int32)), (0, .inr (.inr (7, 5, 0))), (1, .inl a1), (2, .inl a2), (3, .inl a3)]) (st' := []) (M' := M) rfl ?_
            refine xq_sub (a := [(0, .inr (.inr (7, 5, 0))), (1, .inl a1), (2, .inl a2), (3, .inl a3), (4, .inl (-6 : Int32)), (5, .inl (-6 : Int32)), (6, .inl (0 : Int32))]) ⟨rfl, rfl, rfl, rfl, rfl, rfl, rfl, trivial⟩ rfl ?_
            exact xlp_ok (P := fun s73 => xq X xe 109 73 [(0, .inr (.inr (7, 5, 0))), (1, .inl a1), (2, .inl a2), (3, .inl a3), (4, .inl s73.1), (5, .inl s73.2.1), (6, .inl s73.2.2.1)] [] s73.2.2.2 r) (fun s p' hb g0 g1 => f_X6_bestShed_l73_ok hb g0 (fun q e => hr q (g1 _ e).symm)) 4000 _ h
          · refine xq_core (pc' := 59) (ls' := [(0, .inr (.inr (7, 5, 0))), (1, .inl a1), (2, .inl a2), (3, .inl a3)]) (st' := []) rfl (if_neg c18) ?_
            refine xq_blk 1 (pc' := 61) (ls' := [(0, .inr (.inr (7, 5, 0))), (1, .inl a1), (2, .inl a2), (3, .inl a3)]) (st' := [.inl (-5 : Int32)]) (M' := M) rfl ?_
            exact (hr _ (Option.some.inj h).symm) ▸ xq_ret rfl
        · refine xq_core (pc' := 59) (ls' := [(0, .inr (.inr (7, 5, 0))), (1, .inl a1), (2, .inl a2), (3, .inl a3)]) (st' := []) rfl (if_neg c19) ?_
          refine xq_blk 1 (pc' := 61) (ls' := [(0, .inr (.inr (7, 5, 0))), (1, .inl a1), (2, .inl a2), (3, .inl a3)]) (st' := [.inl (-5 : Int32)]) (M' := M) rfl ?_
          exact (hr _ (Option.some.inj h).symm) ▸ xq_ret rfl
theorem f_X6_bestShed_ok {X : List Int32} {a1 : Int32} {a2 : Int32} {a3 : Int32} {M : xM} {p : Int32 × xM} (h : f_X6_bestShed a1 a2 a3 M = some p) : xq X xe 109 0 [(0, .inr (.inr (7, 5, 0))), (1, .inl a1), (2, .inl a2), (3, .inl a3)] [] M ((some (.inl p.1), p.2) : xR) := f_X6_bestShed_run h (fun q e => by rw [e])
def f_X0_countTagged_l5 (k5v0r : Nat) (k5v1 : Int32) (k5v2 : Int32) (M : xM) (s5 : Int32 × Int32) : Option ((Int32 × Int32) ⊕ (Int32)) := if s5.2 < (20 : Int32) then ((f_X0_isDue k5v0r s5.2 k5v1 k5v2 M).bind (fun q1 => if q1 = (0 : Int32) then (some (.inl (s5.1, s5.2 + (1 : Int32)))) else (some (.inl (s5.1 + (1 : Int32), s5.2 + (1 : Int32)))))) else (Option.map Sum.inr (some (s5.1)))
theorem f_X0_countTagged_l5_ok {X : List Int32} {k5v0r : Nat} {k5v1 : Int32} {k5v2 : Int32} {M : xM} {s5 : Int32 × Int32} {p : (Int32 × Int32) ⊕ (Int32)} {r : xR} (h : f_X0_countTagged_l5 k5v0r k5v1 k5v2 M s5 = some p) (h0 : ∀ s', p = .inl s' → xq X xe 10 5 [(0, .inr (.inr (2, k5v0r, 18))), (1, .inl k5v1), (2, .inl k5v2), (3, .inl s'.1), (4, .inl s'.2)] [] M r) (hr : ∀ q, p = .inr (q) → ((some (.inl q), M) : xR) = r) : xq X xe 10 5 [(0, .inr (.inr (2, k5v0r, 18))), (1, .inl k5v1), (2, .inl k5v2), (3, .inl s5.1), (4, .inl s5.2)] [] M r := by
  unfold f_X0_countTagged_l5 at h
  refine xq_blk 2 (pc' := 9) (ls' := [(0, .inr (.inr (2, k5v0r, 18))), (1, .inl k5v1), (2, .inl k5v2), (3, .inl s5.1), (4, .inl s5.2)]) (st' := [.inl (20 : Int32), .inl s5.2]) (M' := M) rfl ?_
  refine xq_ite h (fun c4 h => ?_) (fun c4 h => ?_)
  · refine xq_core (pc' := 12) (ls' := [(0, .inr (.inr (2, k5v0r, 18))), (1, .inl k5v1), (2, .inl k5v2), (3, .inl s5.1), (4, .inl s5.2)]) (st' := []) rfl (if_pos c4) ?_
    refine xq_blk 4 (pc' := 17) (ls' := [(0, .inr (.inr (2, k5v0r, 18))), (1, .inl k5v1), (2, .inl k5v2), (3, .inl s5.1), (4, .inl s5.2)]) (st' := [.inl k5v2, .inl k5v1, .inl s5.2, .inr (.inr (2, k5v0r, 18))]) (M' := M) rfl ?_
    refine xq_bind h (fun q1 e2 h => ?_)
    refine xq_call (j := 9) (as := [.inr (.inr (2, k5v0r, 18)), .inl s5.2, .inl k5v1, .inl k5v2]) (pc' := 20) (ls' := [(0, .inr (.inr (2, k5v0r, 18))), (1, .inl k5v1), (2, .inl k5v2), (3, .inl s5.1), (4, .inl s5.2)]) (st' := []) rfl rfl (f_X0_isDue_ok e2) ?_
    refine xq_ite h (fun c3 h => ?_) (fun c3 h => ?_)
    · refine xq_core (pc' := 26) (ls' := [(0, .inr (.inr (2, k5v0r, 18))), (1, .inl k5v1), (2, .inl k5v2), (3, .inl s5.1), (4, .inl s5.2)]) (st' := []) rfl (if_pos c3) ?_
      refine xq_blk 2 (pc' := 5) (ls' := [(4, .inl (s5.2 + (1 : Int32))), (0, .inr (.inr (2, k5v0r, 18))), (1, .inl k5v1), (2, .inl k5v2), (3, .inl s5.1)]) (st' := []) (M' := M) rfl ?_
      exact xq_sub (a := [(0, .inr (.inr (2, k5v0r, 18))), (1, .inl k5v1), (2, .inl k5v2), (3, .inl ((s5.1, s5.2 + (1 : Int32)).1)), (4, .inl ((s5.1, s5.2 + (1 : Int32)).2))]) ⟨rfl, rfl, rfl, rfl, rfl, trivial⟩ rfl (h0 (s5.1, s5.2 + (1 : Int32)) (Option.some.inj h).symm)
    · refine xq_core (pc' := 23) (ls' := [(0, .inr (.inr (2, k5v0r, 18))), (1, .inl k5v1), (2, .inl k5v2), (3, .inl s5.1), (4, .inl s5.2)]) (st' := []) rfl (if_neg c3) ?_
      refine xq_blk 3 (pc' := 5) (ls' := [(4, .inl (s5.2 + (1 : Int32))), (3, .inl (s5.1 + (1 : Int32))), (0, .inr (.inr (2, k5v0r, 18))), (1, .inl k5v1), (2, .inl k5v2)]) (st' := []) (M' := M) rfl ?_
      exact xq_sub (a := [(0, .inr (.inr (2, k5v0r, 18))), (1, .inl k5v1), (2, .inl k5v2), (3, .inl ((s5.1 + (1 : Int32), s5.2 + (1 : Int32)).1)), (4, .inl ((s5.1 + (1 : Int32), s5.2 + (1 : Int32)).2))]) ⟨rfl, rfl, rfl, rfl, rfl, trivial⟩ rfl (h0 (s5.1 + (1 : Int32), s5.2 + (1 : Int32)) (Option.some.inj h).symm)
  · refine xq_core (pc' := 32) (ls' := [(0, .inr (.inr (2, k5v0r, 18))), (1, .inl k5v1), (2, .inl k5v2), (3, .inl s5.1), (4, .inl s5.2)]) (st' := []) rfl (if_neg c4) ?_
    refine xq_map h (fun p h e => ?_)
    replace hr := fun q e' => hr q (e.symm.trans (congrArg Sum.inr e'))
    clear e
    refine xq_blk 1 (pc' := 33) (ls' := [(0, .inr (.inr (2, k5v0r, 18))), (1, .inl k5v1), (2, .inl k5v2), (3, .inl s5.1), (4, .inl s5.2)]) (st' := [.inl s5.1]) (M' := M) rfl ?_
    exact (hr _ (Option.some.inj h).symm) ▸ xq_ret rfl
def f_X0_countTagged (a0r : Nat) (a1 : Int32) (a2 : Int32) (M : xM) : Option (Int32) := xlp (f_X0_countTagged_l5 a0r a1 a2 M) 4000 ((0 : Int32), (0 : Int32))
theorem f_X0_countTagged_run {X : List Int32} {a0r : Nat} {a1 : Int32} {a2 : Int32} {M : xM} {p : Int32} {r : xR} (h : f_X0_countTagged a0r a1 a2 M = some p) (hr : ∀ q, p = q → ((some (.inl q), M) : xR) = r) : xq X xe 10 0 [(0, .inr (.inr (2, a0r, 18))), (1, .inl a1), (2, .inl a2)] [] M r := by
  unfold f_X0_countTagged at h
  refine xq_blk 4 (pc' := 5) (ls' := [(4, .inl (0 : Int32)), (3, .inl (0 : Int32)), (0, .inr (.inr (2, a0r, 18))), (1, .inl a1), (2, .inl a2)]) (st' := []) (M' := M) rfl ?_
  refine xq_sub (a := [(0, .inr (.inr (2, a0r, 18))), (1, .inl a1), (2, .inl a2), (3, .inl (0 : Int32)), (4, .inl (0 : Int32))]) ⟨rfl, rfl, rfl, rfl, rfl, trivial⟩ rfl ?_
  exact xlp_ok (P := fun s5 => xq X xe 10 5 [(0, .inr (.inr (2, a0r, 18))), (1, .inl a1), (2, .inl a2), (3, .inl s5.1), (4, .inl s5.2)] [] M r) (fun s p' hb g0 g1 => f_X0_countTagged_l5_ok hb g0 (fun q e => hr q (g1 _ e).symm)) 4000 _ h
theorem f_X0_countTagged_ok {X : List Int32} {a0r : Nat} {a1 : Int32} {a2 : Int32} {M : xM} {p : Int32} (h : f_X0_countTagged a0r a1 a2 M = some p) : xq X xe 10 0 [(0, .inr (.inr (2, a0r, 18))), (1, .inl a1), (2, .inl a2)] [] M ((some (.inl p), M) : xR) := f_X0_countTagged_run h (fun q e => by rw [e])
def f_X6_ifSwept (a1 : Int32) (a2 : Int32) (M : xM) : Option (Int32) := (f_X6_isShed a1 M).bind (fun q1 => if q1 = (0 : Int32) then (some ((-1 : Int32))) else ((f_X6_isFrom (0 : Int32) a2 (99 : Int32) M).bind (fun q3 => if q3 = (0 : Int32) then (some ((-2 : Int32))) else ((f_X5_latestDueTag 2 a2 M).bind (fun q5 => (f_X0_countTagged 2 a1 q5 M).bind (fun q7 => some (q7)))))))
theorem f_X6_ifSwept_run {X : List Int32} {a1 : Int32} {a2 : Int32} {M : xM} {p : Int32} {r : xR} (h : f_X6_ifSwept a1 a2 M = some p) (hr : ∀ q, p = q → ((some (.inl q), M) : xR) = r) : xq X xe 110 0 [(0, .inr (.inr (7, 5, 0))), (1, .inl a1), (2, .inl a2)] [] M r := by
  unfold f_X6_ifSwept at h
  refine xq_blk 1 (pc' := 1) (ls' := [(0, .inr (.inr (7, 5, 0))), (1, .inl a1), (2, .inl a2)]) (st' := [.inl a1]) (M' := M) rfl ?_
  refine xq_bind h (fun q1 e2 h => ?_)
  refine xq_call (j := 46) (as := [.inl a1]) (pc' := 4) (ls' := [(0, .inr (.inr (7, 5, 0))), (1, .inl a1), (2, .inl a2)]) (st' := []) rfl rfl (f_X6_isShed_ok e2) ?_
  refine xq_ite h (fun c10 h => ?_) (fun c10 h => ?_)
  · refine xq_core (pc' := 7) (ls' := [(0, .inr (.inr (7, 5, 0))), (1, .inl a1), (2, .inl a2)]) (st' := []) rfl (if_pos c10) ?_
    refine xq_blk 1 (pc' := 8) (ls' := [(0, .inr (.inr (7, 5, 0))), (1, .inl a1), (2, .inl a2)]) (st' := [.inl (-1 : Int32)]) (M' := M) rfl ?_
    exact (hr _ (Option.some.inj h).symm) ▸ xq_ret rfl
  · refine xq_core (pc' := 9) (ls' := [(0, .inr (.inr (7, 5, 0))), (1, .inl a1), (2, .inl a2)]) (st' := []) rfl (if_neg c10) ?_
    refine xq_blk 3 (pc' := 13) (ls' := [(0, .inr (.inr (7, 5, 0))), (1, .inl a1), (2, .inl a2)]) (st' := [.inl (99 : Int32), .inl a2, .inl (0 : Int32)]) (M' := M) rfl ?_
    refine xq_bind h (fun q3 e4 h => ?_)
    refine xq_call (j := 42) (as := [.inl (0 : Int32), .inl a2, .inl (99 : Int32)]) (pc' := 16) (ls' := [(0, .inr (.inr (7, 5, 0))), (1, .inl a1), (2, .inl a2)]) (st' := []) rfl rfl (f_X6_isFrom_ok e4) ?_
    refine xq_ite h (fun c9 h => ?_) (fun c9 h => ?_)
    · refine xq_core (pc' := 19) (ls' := [(0, .inr (.inr (7, 5, 0))), (1, .inl a1), (2, .inl a2)]) (st' := []) rfl (if_pos c9) ?_
      refine xq_blk 1 (pc' := 21) (ls' := [(0, .inr (.inr (7, 5, 0))), (1, .inl a1), (2, .inl a2)]) (st' := [.inl (-2 : Int32)]) (M' := M) rfl ?_
      exact (hr _ (Option.some.inj h).symm) ▸ xq_ret rfl
    · refine xq_core (pc' := 22) (ls' := [(0, .inr (.inr (7, 5, 0))), (1, .inl a1), (2, .inl a2)]) (st' := []) rfl (if_neg c9) ?_
      refine xq_blk 7 (pc' := 35) (ls' := [(0, .inr (.inr (7, 5, 0))), (1, .inl a1), (2, .inl a2)]) (st' := [.inl a2, .inr (.inr (0, 2, 0)), .inl a1, .inr (.inr (2, 2, 18))]) (M' := M) rfl ?_
      refine xq_bind h (fun q5 e6 h => ?_)
      refine xq_call (j := 77) (as := [.inr (.inr (0, 2, 0)), .inl a2]) (pc' := 38) (ls' := [(0, .inr (.inr (7, 5, 0))), (1, .inl a1), (2, .inl a2)]) (st' := [.inl a1, .inr (.inr (2, 2, 18))]) rfl rfl (f_X5_latestDueTag_ok e6) ?_
      refine xq_bind h (fun q7 e8 h => ?_)
      refine xq_call (j := 10) (as := [.inr (.inr (2, 2, 18)), .inl a1, .inl q5]) (pc' := 41) (ls' := [(0, .inr (.inr (7, 5, 0))), (1, .inl a1), (2, .inl a2)]) (st' := []) rfl rfl (f_X0_countTagged_ok e8) ?_
      exact (hr _ (Option.some.inj h).symm) ▸ xq_ret rfl
theorem f_X6_ifSwept_ok {X : List Int32} {a1 : Int32} {a2 : Int32} {M : xM} {p : Int32} (h : f_X6_ifSwept a1 a2 M = some p) : xq X xe 110 0 [(0, .inr (.inr (7, 5, 0))), (1, .inl a1), (2, .inl a2)] [] M ((some (.inl p), M) : xR) := f_X6_ifSwept_run h (fun q e => by rw [e])
def f_X3_codeAt (a0 : Int64) (a2 : Int32) (M : xM) : Option (Int32) := some (((((a0.toUInt64 >>> (((8 : Int32) * a2).toInt64.toUInt64 &&& Int64.toUInt64 (63 : Int64))).toInt64) &&& (255 : Int64)).toInt32))
theorem f_X3_codeAt_run {X : List Int32} {a0 : Int64} {a2 : Int32} {M : xM} {p : Int32} {r : xR} (h : f_X3_codeAt a0 a2 M = some p) (hr : ∀ q, p = q → ((some (.inl q), M) : xR) = r) : xq X xe 41 0 [(0, .inr (.inl a0)), (2, .inl a2)] [] M r := by
  unfold f_X3_codeAt at h
  refine xq_blk 8 (pc' := 11) (ls' := [(0, .inr (.inl a0)), (2, .inl a2)]) (st' := [.inl ((((a0.toUInt64 >>> (((8 : Int32) * a2).toInt64.toUInt64 &&& Int64.toUInt64 (63 : Int64))).toInt64) &&& (255 : Int64)).toInt32)]) (M' := M) rfl ?_
  exact (hr _ (Option.some.inj h).symm) ▸ xq_ret rfl
theorem f_X3_codeAt_ok {X : List Int32} {a0 : Int64} {a2 : Int32} {M : xM} {p : Int32} (h : f_X3_codeAt a0 a2 M = some p) : xq X xe 41 0 [(0, .inr (.inl a0)), (2, .inl a2)] [] M ((some (.inl p), M) : xR) := f_X3_codeAt_run h (fun q e => by rw [e])
def f_X3_countCharacters_j51 (v2 : Int32) (t0 : Int32) (M : xM) : Option (Int32) := if t0 = (0 : Int32) then (some ((0 : Int32))) else (some (v2))
theorem f_X3_countCharacters_j51_ok {X : List Int32} {v2 : Int32} {t0 : Int32} {M : xM} {p : Int32} {r : xR} (h : f_X3_countCharacters_j51 v2 t0 M = some p) (hr : ∀ q, p = q → ((some (.inl q), M) : xR) = r) : xq X xe 43 51 [(2, .inl v2)] [.inl t0] M r := by
  unfold f_X3_countCharacters_j51 at h
  refine xq_blk 2 (pc' := 53) (ls' := [(3, .inl t0), (2, .inl v2)]) (st' := [.inl t0]) (M' := M) rfl ?_
  refine xq_ite h (fun c5 h => ?_) (fun c5 h => ?_)
  · refine xq_core (pc' := 60) (ls' := [(3, .inl t0), (2, .inl v2)]) (st' := []) rfl (if_pos c5) ?_
    refine xq_blk 1 (pc' := 61) (ls' := [(3, .inl t0), (2, .inl v2)]) (st' := [.inl (0 : Int32)]) (M' := M) rfl ?_
    exact (hr _ (Option.some.inj h).symm) ▸ xq_ret rfl
  · refine xq_core (pc' := 56) (ls' := [(3, .inl t0), (2, .inl v2)]) (st' := []) rfl (if_neg c5) ?_
    refine xq_blk 2 (pc' := 61) (ls' := [(3, .inl t0), (2, .inl v2)]) (st' := [.inl v2]) (M' := M) rfl ?_
    exact (hr _ (Option.some.inj h).symm) ▸ xq_ret rfl
def f_X3_countCharacters_j46 (v2 : Int32) (M : xM) : Option (Int32) := f_X3_countCharacters_j51 v2 (1 : Int32) M
theorem f_X3_countCharacters_j46_ok {X : List Int32} {v2 : Int32} {M : xM} {p : Int32} {r : xR} (h : f_X3_countCharacters_j46 v2 M = some p) (hr : ∀ q, p = q → ((some (.inl q), M) : xR) = r) : xq X xe 43 46 [(2, .inl v2)] [] M r := by
  unfold f_X3_countCharacters_j46 at h
  refine xq_blk 2 (pc' := 51) (ls' := [(2, .inl v2)]) (st' := [.inl (1 : Int32)]) (M' := M) rfl ?_
  exact xq_sub (a := [(2, .inl v2)]) ⟨rfl, trivial⟩ rfl (f_X3_countCharacters_j51_ok h hr)
def f_X3_countCharacters_j29 (v0 : Int64) (v2 : Int32) (M : xM) : Option (Int32) := if v2 = (8 : Int32) then (f_X3_countCharacters_j46 v2 M) else (if (lg_cmp ((v0.toUInt64 >>> (((8 : Int32) * v2).toInt64.toUInt64 &&& Int64.toUInt64 (63 : Int64))).toInt64) (0 : Int64)) = (0 : Int32) then (f_X3_countCharacters_j46 v2 M) else (f_X3_countCharacters_j51 v2 (0 : Int32) M))
theorem f_X3_countCharacters_j29_ok {X : List Int32} {v0 : Int64} {v2 : Int32} {M : xM} {p : Int32} {r : xR} (h : f_X3_countCharacters_j29 v0 v2 M = some p) (hr : ∀ q, p = q → ((some (.inl q), M) : xR) = r) : xq X xe 43 29 [(0, .inr (.inl v0)), (2, .inl v2)] [] M r := by
  unfold f_X3_countCharacters_j29 at h
  refine xq_blk 2 (pc' := 32) (ls' := [(0, .inr (.inl v0)), (2, .inl v2)]) (st' := [.inl (8 : Int32), .inl v2]) (M' := M) rfl ?_
  refine xq_ite h (fun c7 h => ?_) (fun c7 h => ?_)
  · refine xq_core (pc' := 46) (ls' := [(0, .inr (.inl v0)), (2, .inl v2)]) (st' := []) rfl (if_pos c7) ?_
    exact xq_sub (a := [(2, .inl v2)]) ⟨rfl, trivial⟩ rfl (f_X3_countCharacters_j46_ok h hr)
  · refine xq_core (pc' := 35) (ls' := [(0, .inr (.inl v0)), (2, .inl v2)]) (st' := []) rfl (if_neg c7) ?_
    refine xq_blk 7 (pc' := 43) (ls' := [(0, .inr (.inl v0)), (2, .inl v2)]) (st' := [.inl (lg_cmp ((v0.toUInt64 >>> (((8 : Int32) * v2).toInt64.toUInt64 &&& Int64.toUInt64 (63 : Int64))).toInt64) (0 : Int64))]) (M' := M) rfl ?_
    refine xq_ite h (fun c6 h => ?_) (fun c6 h => ?_)
    · refine xq_core (pc' := 46) (ls' := [(0, .inr (.inl v0)), (2, .inl v2)]) (st' := []) rfl (if_pos c6) ?_
      exact xq_sub (a := [(2, .inl v2)]) ⟨rfl, trivial⟩ rfl (f_X3_countCharacters_j46_ok h hr)
    · refine xq_core (pc' := 50) (ls' := [(0, .inr (.inl v0)), (2, .inl v2)]) (st' := []) rfl (if_neg c6) ?_
      refine xq_blk 1 (pc' := 51) (ls' := [(0, .inr (.inl v0)), (2, .inl v2)]) (st' := [.inl (0 : Int32)]) (M' := M) rfl ?_
      exact xq_sub (a := [(2, .inl v2)]) ⟨rfl, trivial⟩ rfl (f_X3_countCharacters_j51_ok h hr)
def f_X3_countCharacters_l2 (k2v0 : Int64) (M : xM) (s2 : Int32) : Option ((Int32) ⊕ (Int32)) := if s2 < (8 : Int32) then ((f_X3_codeAt k2v0 s2 M).bind (fun q1 => (f_X6_isFrom (33 : Int32) q1 (126 : Int32) M).bind (fun q3 => if q3 = (0 : Int32) then (Option.map Sum.inr (f_X3_countCharacters_j29 k2v0 s2 M)) else (some (.inl (s2 + (1 : Int32))))))) else (Option.map Sum.inr (f_X3_countCharacters_j29 k2v0 s2 M))
theorem f_X3_countCharacters_l2_ok {X : List Int32} {k2v0 : Int64} {M : xM} {s2 : Int32} {p : (Int32) ⊕ (Int32)} {r : xR} (h : f_X3_countCharacters_l2 k2v0 M s2 = some p) (h0 : ∀ s', p = .inl s' → xq X xe 43 2 [(0, .inr (.inl k2v0)), (2, .inl s')] [] M r) (hr : ∀ q, p = .inr (q) → ((some (.inl q), M) : xR) = r) : xq X xe 43 2 [(0, .inr (.inl k2v0)), (2, .inl s2)] [] M r := by
  unfold f_X3_countCharacters_l2 at h
  refine xq_blk 2 (pc' := 5) (ls' := [(0, .inr (.inl k2v0)), (2, .inl s2)]) (st' := [.inl (8 : Int32), .inl s2]) (M' := M) rfl ?_
  refine xq_ite h (fun c9 h => ?_) (fun c9 h => ?_)
  · refine xq_core (pc' := 8) (ls' := [(0, .inr (.inl k2v0)), (2, .inl s2)]) (st' := []) rfl (if_pos c9) ?_
    refine xq_blk 3 (pc' := 12) (ls' := [(0, .inr (.inl k2v0)), (2, .inl s2)]) (st' := [.inl s2, .inr (.inl k2v0), .inl (33 : Int32)]) (M' := M) rfl ?_
    refine xq_bind h (fun q1 e2 h => ?_)
    refine xq_call (j := 41) (as := [.inr (.inl k2v0), .inl s2]) (pc' := 15) (ls' := [(0, .inr (.inl k2v0)), (2, .inl s2)]) (st' := [.inl (33 : Int32)]) rfl rfl (f_X3_codeAt_ok e2) ?_
    refine xq_blk 1 (pc' := 17) (ls' := [(0, .inr (.inl k2v0)), (2, .inl s2)]) (st' := [.inl (126 : Int32), .inl q1, .inl (33 : Int32)]) (M' := M) rfl ?_
    refine xq_bind h (fun q3 e4 h => ?_)
    refine xq_call (j := 42) (as := [.inl (33 : Int32), .inl q1, .inl (126 : Int32)]) (pc' := 20) (ls' := [(0, .inr (.inl k2v0)), (2, .inl s2)]) (st' := []) rfl rfl (f_X6_isFrom_ok e4) ?_
    refine xq_ite h (fun c8 h => ?_) (fun c8 h => ?_)
    · refine xq_core (pc' := 29) (ls' := [(0, .inr (.inl k2v0)), (2, .inl s2)]) (st' := []) rfl (if_pos c8) ?_
      refine xq_map h (fun p h e => ?_)
      replace hr := fun q e' => hr q (e.symm.trans (congrArg Sum.inr e'))
      clear e
      exact xq_sub (a := [(0, .inr (.inl k2v0)), (2, .inl s2)]) ⟨rfl, rfl, trivial⟩ rfl (f_X3_countCharacters_j29_ok h hr)
    · refine xq_core (pc' := 23) (ls' := [(0, .inr (.inl k2v0)), (2, .inl s2)]) (st' := []) rfl (if_neg c8) ?_
      refine xq_blk 2 (pc' := 2) (ls' := [(2, .inl (s2 + (1 : Int32))), (0, .inr (.inl k2v0))]) (st' := []) (M' := M) rfl ?_
      exact xq_sub (a := [(0, .inr (.inl k2v0)), (2, .inl (s2 + (1 : Int32)))]) ⟨rfl, rfl, trivial⟩ rfl (h0 (s2 + (1 : Int32)) (Option.some.inj h).symm)
  · refine xq_core (pc' := 29) (ls' := [(0, .inr (.inl k2v0)), (2, .inl s2)]) (st' := []) rfl (if_neg c9) ?_
    refine xq_map h (fun p h e => ?_)
    replace hr := fun q e' => hr q (e.symm.trans (congrArg Sum.inr e'))
    clear e
    exact xq_sub (a := [(0, .inr (.inl k2v0)), (2, .inl s2)]) ⟨rfl, rfl, trivial⟩ rfl (f_X3_countCharacters_j29_ok h hr)
def f_X3_countCharacters (a0 : Int64) (M : xM) : Option (Int32) := xlp (f_X3_countCharacters_l2 a0 M) 4000 (0 : Int32)
theorem f_X3_countCharacters_run {X : List Int32} {a0 : Int64} {M : xM} {p : Int32} {r : xR} (h : f_X3_countCharacters a0 M = some p) (hr : ∀ q, p = q → ((some (.inl q), M) : xR) = r) : xq X xe 43 0 [(0, .inr (.inl a0))] [] M r := by
  unfold f_X3_countCharacters at h
  refine xq_blk 2 (pc' := 2) (ls' := [(2, .inl (0 : Int32)), (0, .inr (.inl a0))]) (st' := []) (M' := M) rfl ?_
  refine xq_sub (a := [(0, .inr (.inl a0)), (2, .inl (0 : Int32))]) ⟨rfl, rfl, trivial⟩ rfl ?_
  exact xlp_ok (P := fun s2 => xq X xe 43 2 [(0, .inr (.inl a0)), (2, .inl s2)] [] M r) (fun s p' hb g0 g1 => f_X3_countCharacters_l2_ok hb g0 (fun q e => hr q (g1 _ e).symm)) 4000 _ h
theorem f_X3_countCharacters_ok {X : List Int32} {a0 : Int64} {M : xM} {p : Int32} (h : f_X3_countCharacters a0 M = some p) : xq X xe 43 0 [(0, .inr (.inl a0))] [] M ((some (.inl p), M) : xR) := f_X3_countCharacters_run h (fun q e => by rw [e])
def f_X3_append_l31 (k31v1 : Int64) (s31 : Int32 × xM) : Option ((Int32 × xM) ⊕ (Int32 × xM)) := if s31.1 < (0 : Int32) then (Option.map Sum.inr (some ((s31.2.1 5 80 1, s31.2)))) else ((f_X3_codeAt k31v1 s31.1 s31.2).bind (fun q3 => if xp_in (s31.2.1 5 80 1) 60 = true then (some (.inl (s31.1 + (-1 : Int32), xd_up (xd_up s31.2 5 81 (s31.2.1 5 80 1).toNatClampNeg (vp_nar .char ((q3.toUInt32 % 65536).toInt32))) 5 80 1 (((xd_up s31.2 5 81 (s31.2.1 5 80 1).toNatClampNeg (vp_nar .char ((q3.toUInt32 % 65536).toInt32))).1 5 80 1) + (1 : Int32))))) else none))
theorem f_X3_append_l31_ok {X : List Int32} {k31v1 : Int64} {s31 : Int32 × xM} {p : (Int32 × xM) ⊕ (Int32 × xM)} {r : xR} (h : f_X3_append_l31 k31v1 s31 = some p) (h0 : ∀ s', p = .inl s' → xq X xe 44 31 [(0, .inr (.inr (12, 5, 80))), (1, .inr (.inl k31v1)), (4, .inl s'.1)] [] s'.2 r) (hr : ∀ q, p = .inr (q) → ((some (.inl q.1), q.2) : xR) = r) : xq X xe 44 31 [(0, .inr (.inr (12, 5, 80))), (1, .inr (.inl k31v1)), (4, .inl s31.1)] [] s31.2 r := by
  unfold f_X3_append_l31 at h
  refine xq_blk 1 (pc' := 33) (ls' := [(0, .inr (.inr (12, 5, 80))), (1, .inr (.inl k31v1)), (4, .inl s31.1)]) (st' := [.inl s31.1]) (M' := s31.2) rfl ?_
  refine xq_ite h (fun c6 h => ?_) (fun c6 h => ?_)
  · refine xq_core (pc' := 68) (ls' := [(0, .inr (.inr (12, 5, 80))), (1, .inr (.inl k31v1)), (4, .inl s31.1)]) (st' := []) rfl (if_pos c6) ?_
    refine xq_map h (fun p h e => ?_)
    replace hr := fun q e' => hr q (e.symm.trans (congrArg Sum.inr e'))
    clear e
    refine xq_blk 2 (pc' := 72) (ls' := [(0, .inr (.inr (12, 5, 80))), (1, .inr (.inl k31v1)), (4, .inl s31.1)]) (st' := [.inl (s31.2.1 5 80 1)]) (M' := s31.2) rfl ?_
    exact (hr _ (Option.some.inj h).symm) ▸ xq_ret rfl
  · refine xq_core (pc' := 36) (ls' := [(0, .inr (.inr (12, 5, 80))), (1, .inr (.inl k31v1)), (4, .inl s31.1)]) (st' := []) rfl (if_neg c6) ?_
    refine xq_blk 6 (pc' := 47) (ls' := [(0, .inr (.inr (12, 5, 80))), (1, .inr (.inl k31v1)), (4, .inl s31.1)]) (st' := [.inl s31.1, .inr (.inl k31v1), .inl (s31.2.1 5 80 1), .inr (.inr (13, 5, 81))]) (M' := s31.2) rfl ?_
    refine xq_bind h (fun q3 e4 h => ?_)
    refine xq_call (j := 41) (as := [.inr (.inl k31v1), .inl s31.1]) (pc' := 50) (ls' := [(0, .inr (.inr (12, 5, 80))), (1, .inr (.inl k31v1)), (4, .inl s31.1)]) (st' := [.inl (s31.2.1 5 80 1), .inr (.inr (13, 5, 81))]) rfl rfl (f_X3_codeAt_ok e4) ?_
    refine xq_blk 1 (pc' := 51) (ls' := [(0, .inr (.inr (12, 5, 80))), (1, .inr (.inl k31v1)), (4, .inl s31.1)]) (st' := [.inl ((q3.toUInt32 % 65536).toInt32), .inl (s31.2.1 5 80 1), .inr (.inr (13, 5, 81))]) (M' := s31.2) rfl ?_
    refine xq_guard h (fun g5 h => ?_)
    refine xq_prim (st' := []) (M' := xd_up s31.2 5 81 (s31.2.1 5 80 1).toNatClampNeg (vp_nar .char ((q3.toUInt32 % 65536).toInt32))) rfl rfl rfl (xg_ast2 rfl g5) ?_
    refine xq_blk 8 (pc' := 31) (ls' := [(4, .inl (s31.1 + (-1 : Int32))), (0, .inr (.inr (12, 5, 80))), (1, .inr (.inl k31v1))]) (st' := []) (M' := xd_up (xd_up s31.2 5 81 (s31.2.1 5 80 1).toNatClampNeg (vp_nar .char ((q3.toUInt32 % 65536).toInt32))) 5 80 1 (((xd_up s31.2 5 81 (s31.2.1 5 80 1).toNatClampNeg (vp_nar .char ((q3.toUInt32 % 65536).toInt32))).1 5 80 1) + (1 : Int32))) rfl ?_
    exact xq_sub (a := [(0, .inr (.inr (12, 5, 80))), (1, .inr (.inl k31v1)), (4, .inl ((s31.1 + (-1 : Int32), xd_up (xd_up s31.2 5 81 (s31.2.1 5 80 1).toNatClampNeg (vp_nar .char ((q3.toUInt32 % 65536).toInt32))) 5 80 1 (((xd_up s31.2 5 81 (s31.2.1 5 80 1).toNatClampNeg (vp_nar .char ((q3.toUInt32 % 65536).toInt32))).1 5 80 1) + (1 : Int32))).1))]) ⟨rfl, rfl, rfl, trivial⟩ rfl (h0 (s31.1 + (-1 : Int32), xd_up (xd_up s31.2 5 81 (s31.2.1 5 80 1).toNatClampNeg (vp_nar .char ((q3.toUInt32 % 65536).toInt32))) 5 80 1 (((xd_up s31.2 5 81 (s31.2.1 5 80 1).toNatClampNeg (vp_nar .char ((q3.toUInt32 % 65536).toInt32))).1 5 80 1) + (1 : Int32))) (Option.some.inj h).symm)
def f_X3_append (a1 : Int64) (M : xM) : Option (Int32 × xM) := (f_X3_countCharacters a1 M).bind (fun q1 => if q1 = (0 : Int32) then (some (((-2 : Int32), M))) else (if (60 : Int32) < ((M.1 5 80 1) + q1) then (some (((-4 : Int32), M))) else (xlp (f_X3_append_l31 a1) 4000 (q1 - (1 : Int32), M))))
theorem f_X3_append_run {X : List Int32} {a1 : Int64} {M : xM} {p : Int32 × xM} {r : xR} (h : f_X3_append a1 M = some p) (hr : ∀ q, p = q → ((some (.inl q.1), q.2) : xR) = r) : xq X xe 44 0 [(0, .inr (.inr (12, 5, 80))), (1, .inr (.inl a1))] [] M r := by
  unfold f_X3_append at h
  refine xq_blk 1 (pc' := 1) (ls' := [(0, .inr (.inr (12, 5, 80))), (1, .inr (.inl a1))]) (st' := [.inr (.inl a1)]) (M' := M) rfl ?_
  refine xq_bind h (fun q1 e2 h => ?_)
  refine xq_call (j := 43) (as := [.inr (.inl a1)]) (pc' := 4) (ls' := [(0, .inr (.inr (12, 5, 80))), (1, .inr (.inl a1))]) (st' := []) rfl rfl (f_X3_countCharacters_ok e2) ?_
  refine xq_blk 2 (pc' := 6) (ls' := [(3, .inl q1), (0, .inr (.inr (12, 5, 80))), (1, .inr (.inl a1))]) (st' := [.inl q1]) (M' := M) rfl ?_
  refine xq_ite h (fun c8 h => ?_) (fun c8 h => ?_)
  · refine xq_core (pc' := 9) (ls' := [(3, .inl q1), (0, .inr (.inr (12, 5, 80))), (1, .inr (.inl a1))]) (st' := []) rfl (if_pos c8) ?_
    refine xq_blk 1 (pc' := 11) (ls' := [(3, .inl q1), (0, .inr (.inr (12, 5, 80))), (1, .inr (.inl a1))]) (st' := [.inl (-2 : Int32)]) (M' := M) rfl ?_
    exact (hr _ (Option.some.inj h).symm) ▸ xq_ret rfl
  · refine xq_core (pc' := 12) (ls' := [(3, .inl q1), (0, .inr (.inr (12, 5, 80))), (1, .inr (.inl a1))]) (st' := []) rfl (if_neg c8) ?_
    refine xq_blk 5 (pc' := 20) (ls' := [(3, .inl q1), (0, .inr (.inr (12, 5, 80))), (1, .inr (.inl a1))]) (st' := [.inl (60 : Int32), .inl ((M.1 5 80 1) + q1)]) (M' := M) rfl ?_
    refine xq_ite h (fun c7 h => ?_) (fun c7 h => ?_)
    · refine xq_core (pc' := 23) (ls' := [(3, .inl q1), (0, .inr (.inr (12, 5, 80))), (1, .inr (.inl a1))]) (st' := []) rfl (if_pos c7) ?_
      refine xq_blk 1 (pc' := 25) (ls' := [(3, .inl q1), (0, .inr (.inr (12, 5, 80))), (1, .inr (.inl a1))]) (st' := [.inl (-4 : Int32)]) (M' := M) rfl ?_
      exact (hr _ (Option.some.inj h).symm) ▸ xq_ret rfl
    · refine xq_core (pc' := 26) (ls' := [(3, .inl q1), (0, .inr (.inr (12, 5, 80))), (1, .inr (.inl a1))]) (st' := []) rfl (if_neg c7) ?_
      refine xq_blk 4 (pc' := 31) (ls' := [(4, .inl (q1 - (1 : Int32))), (3, .inl q1), (0, .inr (.inr (12, 5, 80))), (1, .inr (.inl a1))]) (st' := []) (M' := M) rfl ?_
      refine xq_sub (a := [(0, .inr (.inr (12, 5, 80))), (1, .inr (.inl a1)), (4, .inl (q1 - (1 : Int32)))]) ⟨rfl, rfl, rfl, trivial⟩ rfl ?_
      exact xlp_ok (P := fun s31 => xq X xe 44 31 [(0, .inr (.inr (12, 5, 80))), (1, .inr (.inl a1)), (4, .inl s31.1)] [] s31.2 r) (fun s p' hb g0 g1 => f_X3_append_l31_ok hb g0 (fun q e => hr q (g1 _ e).symm)) 4000 _ h
theorem f_X3_append_ok {X : List Int32} {a1 : Int64} {M : xM} {p : Int32 × xM} (h : f_X3_append a1 M = some p) : xq X xe 44 0 [(0, .inr (.inr (12, 5, 80))), (1, .inr (.inl a1))] [] M ((some (.inl p.1), p.2) : xR) := f_X3_append_run h (fun q e => by rw [e])
def f_X6_put (a1 : Int64) (M : xM) : Option (Int32 × xM) := (f_X3_append a1 M).bind (fun q1 => some ((q1.1, q1.2)))
theorem f_X6_put_run {X : List Int32} {a1 : Int64} {M : xM} {p : Int32 × xM} {r : xR} (h : f_X6_put a1 M = some p) (hr : ∀ q, p = q → ((some (.inl q.1), q.2) : xR) = r) : xq X xe 111 0 [(0, .inr (.inr (7, 5, 0))), (1, .inr (.inl a1))] [] M r := by
  unfold f_X6_put at h
  refine xq_blk 4 (pc' := 8) (ls' := [(0, .inr (.inr (7, 5, 0))), (1, .inr (.inl a1))]) (st' := [.inr (.inl a1), .inr (.inr (12, 5, 80))]) (M' := M) rfl ?_
  refine xq_bind h (fun q1 e2 h => ?_)
  refine xq_call (j := 44) (as := [.inr (.inr (12, 5, 80)), .inr (.inl a1)]) (pc' := 11) (ls' := [(0, .inr (.inr (7, 5, 0))), (1, .inr (.inl a1))]) (st' := []) rfl rfl (f_X3_append_ok e2) ?_
  exact (hr _ (Option.some.inj h).symm) ▸ xq_ret rfl
theorem f_X6_put_ok {X : List Int32} {a1 : Int64} {M : xM} {p : Int32 × xM} (h : f_X6_put a1 M = some p) : xq X xe 111 0 [(0, .inr (.inr (7, 5, 0))), (1, .inr (.inl a1))] [] M ((some (.inl p.1), p.2) : xR) := f_X6_put_run h (fun q e => by rw [e])
def f_X6_wipe  (M : xM) : Option (Int32 × xM) := (f_X3_clear M).bind (fun q1 => some ((q1.1, q1.2)))
theorem f_X6_wipe_run {X : List Int32}  {M : xM} {p : Int32 × xM} {r : xR} (h : f_X6_wipe  M = some p) (hr : ∀ q, p = q → ((some (.inl q.1), q.2) : xR) = r) : xq X xe 112 0 [(0, .inr (.inr (7, 5, 0)))] [] M r := by
  unfold f_X6_wipe at h
  refine xq_blk 3 (pc' := 7) (ls' := [(0, .inr (.inr (7, 5, 0)))]) (st' := [.inr (.inr (12, 5, 80))]) (M' := M) rfl ?_
  refine xq_bind h (fun q1 e2 h => ?_)
  refine xq_call (j := 45) (as := [.inr (.inr (12, 5, 80))]) (pc' := 10) (ls' := [(0, .inr (.inr (7, 5, 0)))]) (st' := []) rfl rfl (f_X3_clear_ok e2) ?_
  exact (hr _ (Option.some.inj h).symm) ▸ xq_ret rfl
theorem f_X6_wipe_ok {X : List Int32}  {M : xM} {p : Int32 × xM} (h : f_X6_wipe  M = some p) : xq X xe 112 0 [(0, .inr (.inr (7, 5, 0)))] [] M ((some (.inl p.1), p.2) : xR) := f_X6_wipe_run h (fun q e => by rw [e])
def f_X6_fault  (M : xM) : Option (Int32 × xM) := (f_X1_findFault M).bind (fun q1 => some ((q1.1, q1.2)))
theorem f_X6_fault_run {X : List Int32}  {M : xM} {p : Int32 × xM} {r : xR} (h : f_X6_fault  M = some p) (hr : ∀ q, p = q → ((some (.inl q.1), q.2) : xR) = r) : xq X xe 113 0 [(0, .inr (.inr (7, 5, 0)))] [] M r := by
  unfold f_X6_fault at h
  refine xq_blk 2 (pc' := 4) (ls' := [(0, .inr (.inr (7, 5, 0)))]) (st' := [.inr (.inr (11, 5, 79))]) (M' := M) rfl ?_
  refine xq_bind h (fun q1 e2 h => ?_)
  refine xq_call (j := 31) (as := [.inr (.inr (11, 5, 79))]) (pc' := 7) (ls' := [(0, .inr (.inr (7, 5, 0)))]) (st' := []) rfl rfl (f_X1_findFault_ok e2) ?_
  exact (hr _ (Option.some.inj h).symm) ▸ xq_ret rfl
theorem f_X6_fault_ok {X : List Int32}  {M : xM} {p : Int32 × xM} (h : f_X6_fault  M = some p) : xq X xe 113 0 [(0, .inr (.inr (7, 5, 0)))] [] M ((some (.inl p.1), p.2) : xR) := f_X6_fault_run h (fun q e => by rw [e])
def f_X2_takeBack (a1r : Nat) (M : xM) : Option (Int32 × xM) := if (M.1 5 76 1) = (0 : Int32) then (some ((vp_nar .boolean (0 : Int32), M))) else (if xp_in ((M.1 5 76 1) - (1 : Int32)) 6 = true then (if xd_nul (20, (M.1 5 77 ((M.1 5 76 1) - (1 : Int32)).toNatClampNeg).toNatClampNeg, 0) = true then (some ((vp_nar .boolean (0 : Int32), M))) else (if ((M.1 5 77 ((M.1 5 76 1) - (1 : Int32)).toNatClampNeg).toNatClampNeg != 0) = true then (some ((vp_nar .boolean (1 : Int32), xd_up (xe_cp a1r (M.1 5 77 ((M.1 5 76 1) - (1 : Int32)).toNatClampNeg).toNatClampNeg M) 5 76 1 (((xe_cp a1r (M.1 5 77 ((M.1 5 76 1) - (1 : Int32)).toNatClampNeg).toNatClampNeg M).1 5 76 1) - (1 : Int32))))) else none)) else none)
theorem f_X2_takeBack_run {X : List Int32} {a1r : Nat} {M : xM} {p : Int32 × xM} {r : xR} (h : f_X2_takeBack a1r M = some p) (hr : ∀ q, p = q → ((some (.inl q.1), q.2) : xR) = r) : xq X xe 40 0 [(0, .inr (.inr (8, 5, 76))), (1, .inr (.inr (0, a1r, 0)))] [] M r := by
  unfold f_X2_takeBack at h
  refine xq_blk 2 (pc' := 4) (ls' := [(0, .inr (.inr (8, 5, 76))), (1, .inr (.inr (0, a1r, 0)))]) (st' := [.inl (M.1 5 76 1)]) (M' := M) rfl ?_
  refine xq_ite h (fun c4 h => ?_) (fun c4 h => ?_)
  · refine xq_core (pc' := 7) (ls' := [(0, .inr (.inr (8, 5, 76))), (1, .inr (.inr (0, a1r, 0)))]) (st' := []) rfl (if_pos c4) ?_
    refine xq_blk 1 (pc' := 8) (ls' := [(0, .inr (.inr (8, 5, 76))), (1, .inr (.inr (0, a1r, 0)))]) (st' := [.inl (0 : Int32)]) (M' := M) rfl ?_
    exact (hr _ (Option.some.inj h).symm) ▸ xq_ret rfl
  · refine xq_core (pc' := 9) (ls' := [(0, .inr (.inr (8, 5, 76))), (1, .inr (.inr (0, a1r, 0)))]) (st' := []) rfl (if_neg c4) ?_
    refine xq_blk 6 (pc' := 19) (ls' := [(0, .inr (.inr (8, 5, 76))), (1, .inr (.inr (0, a1r, 0)))]) (st' := [.inl ((M.1 5 76 1) - (1 : Int32)), .inr (.inr (9, 5, 77))]) (M' := M) rfl ?_
    refine xq_guard h (fun g1 h => ?_)
    refine xq_prim (st' := [.inr (.inr (20, (M.1 5 77 ((M.1 5 76 1) - (1 : Int32)).toNatClampNeg).toNatClampNeg, 0))]) (M' := M) rfl rfl rfl (xg_aald (by decide) rfl g1) ?_
    refine xq_blk 2 (pc' := 22) (ls' := [(2, .inr (.inr (20, (M.1 5 77 ((M.1 5 76 1) - (1 : Int32)).toNatClampNeg).toNatClampNeg, 0))), (0, .inr (.inr (8, 5, 76))), (1, .inr (.inr (0, a1r, 0)))]) (st' := [.inr (.inr (20, (M.1 5 77 ((M.1 5 76 1) - (1 : Int32)).toNatClampNeg).toNatClampNeg, 0))]) (M' := M) rfl ?_
    refine xq_ite h (fun c3 h => ?_) (fun c3 h => ?_)
    · refine xq_core (pc' := 25) (ls' := [(2, .inr (.inr (20, (M.1 5 77 ((M.1 5 76 1) - (1 : Int32)).toNatClampNeg).toNatClampNeg, 0))), (0, .inr (.inr (8, 5, 76))), (1, .inr (.inr (0, a1r, 0)))]) (st' := []) rfl (if_pos c3) ?_
      refine xq_blk 1 (pc' := 26) (ls' := [(2, .inr (.inr (20, (M.1 5 77 ((M.1 5 76 1) - (1 : Int32)).toNatClampNeg).toNatClampNeg, 0))), (0, .inr (.inr (8, 5, 76))), (1, .inr (.inr (0, a1r, 0)))]) (st' := [.inl (0 : Int32)]) (M' := M) rfl ?_
      exact (hr _ (Option.some.inj h).symm) ▸ xq_ret rfl
    · refine xq_core (pc' := 27) (ls' := [(2, .inr (.inr (20, (M.1 5 77 ((M.1 5 76 1) - (1 : Int32)).toNatClampNeg).toNatClampNeg, 0))), (0, .inr (.inr (8, 5, 76))), (1, .inr (.inr (0, a1r, 0)))]) (st' := []) rfl (if_neg c3) ?_
      refine xq_blk 2 (pc' := 29) (ls' := [(2, .inr (.inr (20, (M.1 5 77 ((M.1 5 76 1) - (1 : Int32)).toNatClampNeg).toNatClampNeg, 0))), (0, .inr (.inr (8, 5, 76))), (1, .inr (.inr (0, a1r, 0)))]) (st' := [.inr (.inr (20, (M.1 5 77 ((M.1 5 76 1) - (1 : Int32)).toNatClampNeg).toNatClampNeg, 0)), .inr (.inr (0, a1r, 0))]) (M' := M) rfl ?_
      refine xq_guard h (fun g2 h => ?_)
      refine xq_ext (j := 37) (as := [.inr (.inr (0, a1r, 0)), .inr (.inr (20, (M.1 5 77 ((M.1 5 76 1) - (1 : Int32)).toNatClampNeg).toNatClampNeg, 0))]) (pc' := 32) (ls' := [(2, .inr (.inr (20, (M.1 5 77 ((M.1 5 76 1) - (1 : Int32)).toNatClampNeg).toNatClampNeg, 0))), (0, .inr (.inr (8, 5, 76))), (1, .inr (.inr (0, a1r, 0)))]) (st' := []) (q := (none, xe_cp a1r (M.1 5 77 ((M.1 5 76 1) - (1 : Int32)).toNatClampNeg).toNatClampNeg M)) rfl rfl (if_pos g2) ?_
      refine xq_blk 7 (pc' := 43) (ls' := [(2, .inr (.inr (20, (M.1 5 77 ((M.1 5 76 1) - (1 : Int32)).toNatClampNeg).toNatClampNeg, 0))), (0, .inr (.inr (8, 5, 76))), (1, .inr (.inr (0, a1r, 0)))]) (st' := [.inl (1 : Int32)]) (M' := xd_up (xe_cp a1r (M.1 5 77 ((M.1 5 76 1) - (1 : Int32)).toNatClampNeg).toNatClampNeg M) 5 76 1 (((xe_cp a1r (M.1 5 77 ((M.1 5 76 1) - (1 : Int32)).toNatClampNeg).toNatClampNeg M).1 5 76 1) - (1 : Int32))) rfl ?_
      exact (hr _ (Option.some.inj h).symm) ▸ xq_ret rfl
theorem f_X2_takeBack_ok {X : List Int32} {a1r : Nat} {M : xM} {p : Int32 × xM} (h : f_X2_takeBack a1r M = some p) : xq X xe 40 0 [(0, .inr (.inr (8, 5, 76))), (1, .inr (.inr (0, a1r, 0)))] [] M ((some (.inl p.1), p.2) : xR) := f_X2_takeBack_run h (fun q e => by rw [e])
def f_X6_undo  (M : xM) : Option (Int32 × xM) := (f_X2_takeBack 2 M).bind (fun q1 => if q1.1 = (0 : Int32) then (some (((-5 : Int32), q1.2))) else (some ((q1.2.1 5 76 1, q1.2))))
theorem f_X6_undo_run {X : List Int32}  {M : xM} {p : Int32 × xM} {r : xR} (h : f_X6_undo  M = some p) (hr : ∀ q, p = q → ((some (.inl q.1), q.2) : xR) = r) : xq X xe 114 0 [(0, .inr (.inr (7, 5, 0)))] [] M r := by
  unfold f_X6_undo at h
  refine xq_blk 4 (pc' := 8) (ls' := [(0, .inr (.inr (7, 5, 0)))]) (st' := [.inr (.inr (0, 2, 0)), .inr (.inr (8, 5, 76))]) (M' := M) rfl ?_
  refine xq_bind h (fun q1 e2 h => ?_)
  refine xq_call (j := 40) (as := [.inr (.inr (8, 5, 76)), .inr (.inr (0, 2, 0))]) (pc' := 11) (ls' := [(0, .inr (.inr (7, 5, 0)))]) (st' := []) rfl rfl (f_X2_takeBack_ok e2) ?_
  refine xq_ite h (fun c3 h => ?_) (fun c3 h => ?_)
  · refine xq_core (pc' := 14) (ls' := [(0, .inr (.inr (7, 5, 0)))]) (st' := []) rfl (if_pos c3) ?_
    refine xq_blk 1 (pc' := 16) (ls' := [(0, .inr (.inr (7, 5, 0)))]) (st' := [.inl (-5 : Int32)]) (M' := q1.2) rfl ?_
    exact (hr _ (Option.some.inj h).symm) ▸ xq_ret rfl
  · refine xq_core (pc' := 17) (ls' := [(0, .inr (.inr (7, 5, 0)))]) (st' := []) rfl (if_neg c3) ?_
    refine xq_blk 3 (pc' := 24) (ls' := [(0, .inr (.inr (7, 5, 0)))]) (st' := [.inl (q1.2.1 5 76 1)]) (M' := q1.2) rfl ?_
    exact (hr _ (Option.some.inj h).symm) ▸ xq_ret rfl
theorem f_X6_undo_ok {X : List Int32}  {M : xM} {p : Int32 × xM} (h : f_X6_undo  M = some p) : xq X xe 114 0 [(0, .inr (.inr (7, 5, 0)))] [] M ((some (.inl p.1), p.2) : xR) := f_X6_undo_run h (fun q e => by rw [e])
def f_X6_save (a1 : Int32) (M : xM) : Option (Int32 × xM) := (f_X6_isFrom (0 : Int32) a1 (1 : Int32) M).bind (fun q1 => if q1 = (0 : Int32) then (some (((-2 : Int32), M))) else (if xp_in a1 2 = true then ((xe_ci ((M.1 5 78 a1.toNatClampNeg).toNatClampNeg) 2 M).bind (fun q4 => if xp_in a1 2 = true then (some (((xd_up q4.2 5 78 a1.toNatClampNeg (Int32.ofNat q4.1)).1 2 0 4, xd_up q4.2 5 78 a1.toNatClampNeg (Int32.ofNat q4.1)))) else none)) else none))
theorem f_X6_save_run {X : List Int32} {a1 : Int32} {M : xM} {p : Int32 × xM} {r : xR} (h : f_X6_save a1 M = some p) (hr : ∀ q, p = q → ((some (.inl q.1), q.2) : xR) = r) : xq X xe 115 0 [(0, .inr (.inr (7, 5, 0))), (1, .inl a1)] [] M r := by
  unfold f_X6_save at h
  refine xq_blk 3 (pc' := 3) (ls' := [(0, .inr (.inr (7, 5, 0))), (1, .inl a1)]) (st' := [.inl (1 : Int32), .inl a1, .inl (0 : Int32)]) (M' := M) rfl ?_
  refine xq_bind h (fun q1 e2 h => ?_)
  refine xq_call (j := 42) (as := [.inl (0 : Int32), .inl a1, .inl (1 : Int32)]) (pc' := 6) (ls' := [(0, .inr (.inr (7, 5, 0))), (1, .inl a1)]) (st' := []) rfl rfl (f_X6_isFrom_ok e2) ?_
  refine xq_ite h (fun c8 h => ?_) (fun c8 h => ?_)
  · refine xq_core (pc' := 9) (ls' := [(0, .inr (.inr (7, 5, 0))), (1, .inl a1)]) (st' := []) rfl (if_pos c8) ?_
    refine xq_blk 1 (pc' := 11) (ls' := [(0, .inr (.inr (7, 5, 0))), (1, .inl a1)]) (st' := [.inl (-2 : Int32)]) (M' := M) rfl ?_
    exact (hr _ (Option.some.inj h).symm) ▸ xq_ret rfl
  · refine xq_core (pc' := 12) (ls' := [(0, .inr (.inr (7, 5, 0))), (1, .inl a1)]) (st' := []) rfl (if_neg c8) ?_
    refine xq_blk 6 (pc' := 22) (ls' := [(0, .inr (.inr (7, 5, 0))), (1, .inl a1)]) (st' := [.inl a1, .inr (.inr (10, 5, 78)), .inl a1, .inr (.inr (10, 5, 78))]) (M' := M) rfl ?_
    refine xq_guard h (fun g3 h => ?_)
    refine xq_prim (st' := [.inr (.inr (20, (M.1 5 78 a1.toNatClampNeg).toNatClampNeg, 0)), .inl a1, .inr (.inr (10, 5, 78))]) (M' := M) rfl rfl rfl (xg_aald (by decide) rfl g3) ?_
    refine xq_blk 2 (pc' := 27) (ls' := [(0, .inr (.inr (7, 5, 0))), (1, .inl a1)]) (st' := [.inr (.inr (0, 2, 0)), .inr (.inr (20, (M.1 5 78 a1.toNatClampNeg).toNatClampNeg, 0)), .inl a1, .inr (.inr (10, 5, 78))]) (M' := M) rfl ?_
    refine xq_bind h (fun q4 e7 h => ?_)
    refine xq_ext (j := 38) (as := [.inr (.inr (20, (M.1 5 78 a1.toNatClampNeg).toNatClampNeg, 0)), .inr (.inr (0, 2, 0))]) (pc' := 30) (ls' := [(0, .inr (.inr (7, 5, 0))), (1, .inl a1)]) (st' := [.inl a1, .inr (.inr (10, 5, 78))]) (q := (some (.inr (.inr (0, q4.1, 0))), q4.2)) rfl rfl (xe_ci_ok e7) ?_
    refine xq_guard h (fun g5 h => ?_)
    refine xq_prim (st' := []) (M' := xd_up q4.2 5 78 a1.toNatClampNeg (Int32.ofNat q4.1)) rfl rfl rfl (xg_aast (by decide) rfl rfl g5) ?_
    refine xq_blk 3 (pc' := 38) (ls' := [(0, .inr (.inr (7, 5, 0))), (1, .inl a1)]) (st' := [.inl ((xd_up q4.2 5 78 a1.toNatClampNeg (Int32.ofNat q4.1)).1 2 0 4)]) (M' := xd_up q4.2 5 78 a1.toNatClampNeg (Int32.ofNat q4.1)) rfl ?_
    exact (hr _ (Option.some.inj h).symm) ▸ xq_ret rfl
theorem f_X6_save_ok {X : List Int32} {a1 : Int32} {M : xM} {p : Int32 × xM} (h : f_X6_save a1 M = some p) : xq X xe 115 0 [(0, .inr (.inr (7, 5, 0))), (1, .inl a1)] [] M ((some (.inl p.1), p.2) : xR) := f_X6_save_run h (fun q e => by rw [e])
def f_X6_restore (a1 : Int32) (M : xM) : Option (Int32 × xM) := (f_X6_isFrom (0 : Int32) a1 (1 : Int32) M).bind (fun q1 => if q1 = (0 : Int32) then (some (((-2 : Int32), M))) else (if xp_in a1 2 = true then (if xd_nul (20, (M.1 5 78 a1.toNatClampNeg).toNatClampNeg, 0) = true then (some (((-5 : Int32), M))) else (if ((M.1 5 78 a1.toNatClampNeg).toNatClampNeg != 0) = true then ((f_X6_recorded ((xe_cp 2 (M.1 5 78 a1.toNatClampNeg).toNatClampNeg (xe_cp 3 2 M)).1 2 0 4) (xe_cp 2 (M.1 5 78 a1.toNatClampNeg).toNatClampNeg (xe_cp 3 2 M))).bind (fun q5 => some ((q5.1, q5.2)))) else none)) else none))
theorem f_X6_restore_run {X : List Int32} {a1 : Int32} {M : xM} {p : Int32 × xM} {r : xR} (h : f_X6_restore a1 M = some p) (hr : ∀ q, p = q → ((some (.inl q.1), q.2) : xR) = r) : xq X xe 116 0 [(0, .inr (.inr (7, 5, 0))), (1, .inl a1)] [] M r := by
  unfold f_X6_restore at h
  refine xq_blk 3 (pc' := 3) (ls' := [(0, .inr (.inr (7, 5, 0))), (1, .inl a1)]) (st' := [.inl (1 : Int32), .inl a1, .inl (0 : Int32)]) (M' := M) rfl ?_
  refine xq_bind h (fun q1 e2 h => ?_)
  refine xq_call (j := 42) (as := [.inl (0 : Int32), .inl a1, .inl (1 : Int32)]) (pc' := 6) (ls' := [(0, .inr (.inr (7, 5, 0))), (1, .inl a1)]) (st' := []) rfl rfl (f_X6_isFrom_ok e2) ?_
  refine xq_ite h (fun c8 h => ?_) (fun c8 h => ?_)
  · refine xq_core (pc' := 9) (ls' := [(0, .inr (.inr (7, 5, 0))), (1, .inl a1)]) (st' := []) rfl (if_pos c8) ?_
    refine xq_blk 1 (pc' := 11) (ls' := [(0, .inr (.inr (7, 5, 0))), (1, .inl a1)]) (st' := [.inl (-2 : Int32)]) (M' := M) rfl ?_
    exact (hr _ (Option.some.inj h).symm) ▸ xq_ret rfl
  · refine xq_core (pc' := 12) (ls' := [(0, .inr (.inr (7, 5, 0))), (1, .inl a1)]) (st' := []) rfl (if_neg c8) ?_
    refine xq_blk 3 (pc' := 17) (ls' := [(0, .inr (.inr (7, 5, 0))), (1, .inl a1)]) (st' := [.inl a1, .inr (.inr (10, 5, 78))]) (M' := M) rfl ?_
    refine xq_guard h (fun g3 h => ?_)
    refine xq_prim (st' := [.inr (.inr (20, (M.1 5 78 a1.toNatClampNeg).toNatClampNeg, 0))]) (M' := M) rfl rfl rfl (xg_aald (by decide) rfl g3) ?_
    refine xq_blk 2 (pc' := 20) (ls' := [(2, .inr (.inr (20, (M.1 5 78 a1.toNatClampNeg).toNatClampNeg, 0))), (0, .inr (.inr (7, 5, 0))), (1, .inl a1)]) (st' := [.inr (.inr (20, (M.1 5 78 a1.toNatClampNeg).toNatClampNeg, 0))]) (M' := M) rfl ?_
    refine xq_ite h (fun c7 h => ?_) (fun c7 h => ?_)
    · refine xq_core (pc' := 23) (ls' := [(2, .inr (.inr (20, (M.1 5 78 a1.toNatClampNeg).toNatClampNeg, 0))), (0, .inr (.inr (7, 5, 0))), (1, .inl a1)]) (st' := []) rfl (if_pos c7) ?_
      refine xq_blk 1 (pc' := 25) (ls' := [(2, .inr (.inr (20, (M.1 5 78 a1.toNatClampNeg).toNatClampNeg, 0))), (0, .inr (.inr (7, 5, 0))), (1, .inl a1)]) (st' := [.inl (-5 : Int32)]) (M' := M) rfl ?_
      exact (hr _ (Option.some.inj h).symm) ▸ xq_ret rfl
    · refine xq_core (pc' := 26) (ls' := [(2, .inr (.inr (20, (M.1 5 78 a1.toNatClampNeg).toNatClampNeg, 0))), (0, .inr (.inr (7, 5, 0))), (1, .inl a1)]) (st' := []) rfl (if_neg c7) ?_
      refine xq_blk 4 (pc' := 34) (ls' := [(2, .inr (.inr (20, (M.1 5 78 a1.toNatClampNeg).toNatClampNeg, 0))), (0, .inr (.inr (7, 5, 0))), (1, .inl a1)]) (st' := [.inr (.inr (0, 2, 0)), .inr (.inr (0, 3, 0))]) (M' := M) rfl ?_
      refine xq_ext (j := 37) (as := [.inr (.inr (0, 3, 0)), .inr (.inr (0, 2, 0))]) (pc' := 37) (ls' := [(2, .inr (.inr (20, (M.1 5 78 a1.toNatClampNeg).toNatClampNeg, 0))), (0, .inr (.inr (7, 5, 0))), (1, .inl a1)]) (st' := []) (q := (none, xe_cp 3 2 M)) rfl rfl rfl ?_
      refine xq_blk 3 (pc' := 42) (ls' := [(2, .inr (.inr (20, (M.1 5 78 a1.toNatClampNeg).toNatClampNeg, 0))), (0, .inr (.inr (7, 5, 0))), (1, .inl a1)]) (st' := [.inr (.inr (20, (M.1 5 78 a1.toNatClampNeg).toNatClampNeg, 0)), .inr (.inr (0, 2, 0))]) (M' := xe_cp 3 2 M) rfl ?_
      refine xq_guard h (fun g4 h => ?_)
      refine xq_ext (j := 37) (as := [.inr (.inr (0, 2, 0)), .inr (.inr (20, (M.1 5 78 a1.toNatClampNeg).toNatClampNeg, 0))]) (pc' := 45) (ls' := [(2, .inr (.inr (20, (M.1 5 78 a1.toNatClampNeg).toNatClampNeg, 0))), (0, .inr (.inr (7, 5, 0))), (1, .inl a1)]) (st' := []) (q := (none, xe_cp 2 (M.1 5 78 a1.toNatClampNeg).toNatClampNeg (xe_cp 3 2 M))) rfl rfl (if_pos g4) ?_
      refine xq_blk 4 (pc' := 53) (ls' := [(2, .inr (.inr (20, (M.1 5 78 a1.toNatClampNeg).toNatClampNeg, 0))), (0, .inr (.inr (7, 5, 0))), (1, .inl a1)]) (st' := [.inl ((xe_cp 2 (M.1 5 78 a1.toNatClampNeg).toNatClampNeg (xe_cp 3 2 M)).1 2 0 4), .inr (.inr (7, 5, 0))]) (M' := xe_cp 2 (M.1 5 78 a1.toNatClampNeg).toNatClampNeg (xe_cp 3 2 M)) rfl ?_
      refine xq_bind h (fun q5 e6 h => ?_)
      refine xq_call (j := 89) (as := [.inr (.inr (7, 5, 0)), .inl ((xe_cp 2 (M.1 5 78 a1.toNatClampNeg).toNatClampNeg (xe_cp 3 2 M)).1 2 0 4)]) (pc' := 56) (ls' := [(2, .inr (.inr (20, (M.1 5 78 a1.toNatClampNeg).toNatClampNeg, 0))), (0, .inr (.inr (7, 5, 0))), (1, .inl a1)]) (st' := []) rfl rfl (f_X6_recorded_ok e6) ?_
      exact (hr _ (Option.some.inj h).symm) ▸ xq_ret rfl
theorem f_X6_restore_ok {X : List Int32} {a1 : Int32} {M : xM} {p : Int32 × xM} (h : f_X6_restore a1 M = some p) : xq X xe 116 0 [(0, .inr (.inr (7, 5, 0))), (1, .inl a1)] [] M ((some (.inl p.1), p.2) : xR) := f_X6_restore_run h (fun q e => by rw [e])
