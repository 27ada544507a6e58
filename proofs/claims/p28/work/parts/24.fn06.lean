def f_X6_count (a1 : Int32) (M : xM) : Option (Int32) := if a1 = (13 : Int32) then (some ((M.1 5 80 1))) else (if a1 = (14 : Int32) then (some ((M.1 5 76 1))) else ((f_X5_aboutAll 2 a1 M).bind (fun q3 => some (q3))))
theorem f_X6_count_run {X : List Int32} {a1 : Int32} {M : xM} {p : Int32} {r : xR} (h : f_X6_count a1 M = some p) (hr : ∀ q, p = q → ((some (.inl q), M) : xR) = r) : xq X xe 90 0 [(0, .inr (.inr (7, 5, 0))), (1, .inl a1)] [] M r := by
  unfold f_X6_count at h
  refine xq_blk 1 (pc' := 1) (ls' := [(0, .inr (.inr (7, 5, 0))), (1, .inl a1)]) (st' := [.inl a1]) (M' := M) rfl ?_
  refine xq_ite h (fun c1 h => ?_) (fun c1 h => ?_)
  · refine xq_lsw (pc' := 28) (ls' := [(0, .inr (.inr (7, 5, 0))), (1, .inl a1)]) (st' := []) rfl rfl (if_pos c1) ?_
    refine xq_blk 4 (pc' := 38) (ls' := [(0, .inr (.inr (7, 5, 0))), (1, .inl a1)]) (st' := [.inl (M.1 5 80 1)]) (M' := M) rfl ?_
    exact (hr _ (Option.some.inj h).symm) ▸ xq_ret rfl
  · refine xq_ite h (fun c2 h => ?_) (fun c2 h => ?_)
    · refine xq_lsw (pc' := 39) (ls' := [(0, .inr (.inr (7, 5, 0))), (1, .inl a1)]) (st' := []) rfl rfl (Eq.trans (if_neg c1) (if_pos c2)) ?_
      refine xq_blk 3 (pc' := 46) (ls' := [(0, .inr (.inr (7, 5, 0))), (1, .inl a1)]) (st' := [.inl (M.1 5 76 1)]) (M' := M) rfl ?_
      exact (hr _ (Option.some.inj h).symm) ▸ xq_ret rfl
    · refine xq_lsw (pc' := 47) (ls' := [(0, .inr (.inr (7, 5, 0))), (1, .inl a1)]) (st' := []) rfl rfl (Eq.trans (if_neg c1) (Eq.trans (if_neg c2) (rfl))) ?_
      refine xq_blk 3 (pc' := 52) (ls' := [(0, .inr (.inr (7, 5, 0))), (1, .inl a1)]) (st' := [.inl a1, .inr (.inr (0, 2, 0))]) (M' := M) rfl ?_
      refine xq_bind h (fun q3 e4 h => ?_)
      refine xq_call (j := 73) (as := [.inr (.inr (0, 2, 0)), .inl a1]) (pc' := 55) (ls' := [(0, .inr (.inr (7, 5, 0))), (1, .inl a1)]) (st' := []) rfl rfl (f_X5_aboutAll_ok e4) ?_
      exact (hr _ (Option.some.inj h).symm) ▸ xq_ret rfl
theorem f_X6_count_ok {X : List Int32} {a1 : Int32} {M : xM} {p : Int32} (h : f_X6_count a1 M = some p) : xq X xe 90 0 [(0, .inr (.inr (7, 5, 0))), (1, .inl a1)] [] M ((some (.inl p), M) : xR) := f_X6_count_run h (fun q e => by rw [e])
def f_X5_passUntilPermit_l2 (k2v0r : Nat) (k2v1 : Int32) (s2 : Int32 × xM) : Option ((Int32 × xM) ⊕ (Int32 × xM)) := if (300 : Int32) < s2.1 then (Option.map Sum.inr (some (((-6 : Int32), s2.2)))) else ((f_X5_beginDay k2v0r s2.2).bind (fun q1 => (f_X4_hasPermit k2v0r k2v1 q1).bind (fun q3 => if q3 = (0 : Int32) then (some (.inl (s2.1 + (1 : Int32), q1))) else (Option.map Sum.inr (some ((s2.1, q1)))))))
theorem f_X5_passUntilPermit_l2_ok {X : List Int32} {k2v0r : Nat} {k2v1 : Int32} {s2 : Int32 × xM} {p : (Int32 × xM) ⊕ (Int32 × xM)} {r : xR} (h : f_X5_passUntilPermit_l2 k2v0r k2v1 s2 = some p) (h0 : ∀ s', p = .inl s' → xq X xe 69 2 [(0, .inr (.inr (0, k2v0r, 0))), (1, .inl k2v1), (2, .inl s'.1)] [] s'.2 r) (hr : ∀ q, p = .inr (q) → ((some (.inl q.1), q.2) : xR) = r) : xq X xe 69 2 [(0, .inr (.inr (0, k2v0r, 0))), (1, .inl k2v1), (2, .inl s2.1)] [] s2.2 r := by
  unfold f_X5_passUntilPermit_l2 at h
  refine xq_blk 2 (pc' := 6) (ls' := [(0, .inr (.inr (0, k2v0r, 0))), (1, .inl k2v1), (2, .inl s2.1)]) (st' := [.inl (300 : Int32), .inl s2.1]) (M' := s2.2) rfl ?_
  refine xq_ite h (fun c6 h => ?_) (fun c6 h => ?_)
  · refine xq_core (pc' := 32) (ls' := [(0, .inr (.inr (0, k2v0r, 0))), (1, .inl k2v1), (2, .inl s2.1)]) (st' := []) rfl (if_pos c6) ?_
    refine xq_map h (fun p h e => ?_)
    replace hr := fun q e' => hr q (e.symm.trans (congrArg Sum.inr e'))
    clear e
    refine xq_blk 1 (pc' := 34) (ls' := [(0, .inr (.inr (0, k2v0r, 0))), (1, .inl k2v1), (2, .inl s2.1)]) (st' := [.inl (-6 : Int32)]) (M' := s2.2) rfl ?_
    exact (hr _ (Option.some.inj h).symm) ▸ xq_ret rfl
  · refine xq_core (pc' := 9) (ls' := [(0, .inr (.inr (0, k2v0r, 0))), (1, .inl k2v1), (2, .inl s2.1)]) (st' := []) rfl (if_neg c6) ?_
    refine xq_blk 1 (pc' := 10) (ls' := [(0, .inr (.inr (0, k2v0r, 0))), (1, .inl k2v1), (2, .inl s2.1)]) (st' := [.inr (.inr (0, k2v0r, 0))]) (M' := s2.2) rfl ?_
    refine xq_bind h (fun q1 e2 h => ?_)
    refine xq_call (j := 67) (as := [.inr (.inr (0, k2v0r, 0))]) (pc' := 13) (ls' := [(0, .inr (.inr (0, k2v0r, 0))), (1, .inl k2v1), (2, .inl s2.1)]) (st' := []) rfl rfl (f_X5_beginDay_ok e2) ?_
    refine xq_blk 3 (pc' := 18) (ls' := [(0, .inr (.inr (0, k2v0r, 0))), (1, .inl k2v1), (2, .inl s2.1)]) (st' := [.inl k2v1, .inr (.inr (1, k2v0r, 3))]) (M' := q1) rfl ?_
    refine xq_bind h (fun q3 e4 h => ?_)
    refine xq_call (j := 32) (as := [.inr (.inr (1, k2v0r, 3)), .inl k2v1]) (pc' := 21) (ls' := [(0, .inr (.inr (0, k2v0r, 0))), (1, .inl k2v1), (2, .inl s2.1)]) (st' := []) rfl rfl (f_X4_hasPermit_ok e4) ?_
    refine xq_ite h (fun c5 h => ?_) (fun c5 h => ?_)
    · refine xq_core (pc' := 26) (ls' := [(0, .inr (.inr (0, k2v0r, 0))), (1, .inl k2v1), (2, .inl s2.1)]) (st' := []) rfl (if_pos c5) ?_
      refine xq_blk 2 (pc' := 2) (ls' := [(2, .inl (s2.1 + (1 : Int32))), (0, .inr (.inr (0, k2v0r, 0))), (1, .inl k2v1)]) (st' := []) (M' := q1) rfl ?_
      exact xq_sub (a := [(0, .inr (.inr (0, k2v0r, 0))), (1, .inl k2v1), (2, .inl ((s2.1 + (1 : Int32), q1).1))]) ⟨rfl, rfl, rfl, trivial⟩ rfl (h0 (s2.1 + (1 : Int32), q1) (Option.some.inj h).symm)
    · refine xq_core (pc' := 24) (ls' := [(0, .inr (.inr (0, k2v0r, 0))), (1, .inl k2v1), (2, .inl s2.1)]) (st' := []) rfl (if_neg c5) ?_
      refine xq_map h (fun p h e => ?_)
      replace hr := fun q e' => hr q (e.symm.trans (congrArg Sum.inr e'))
      clear e
      refine xq_blk 1 (pc' := 25) (ls' := [(0, .inr (.inr (0, k2v0r, 0))), (1, .inl k2v1), (2, .inl s2.1)]) (st' := [.inl s2.1]) (M' := q1) rfl ?_
      exact (hr _ (Option.some.inj h).symm) ▸ xq_ret rfl
def f_X5_passUntilPermit (a0r : Nat) (a1 : Int32) (M : xM) : Option (Int32 × xM) := xlp (f_X5_passUntilPermit_l2 a0r a1) 4000 ((1 : Int32), M)
theorem f_X5_passUntilPermit_run {X : List Int32} {a0r : Nat} {a1 : Int32} {M : xM} {p : Int32 × xM} {r : xR} (h : f_X5_passUntilPermit a0r a1 M = some p) (hr : ∀ q, p = q → ((some (.inl q.1), q.2) : xR) = r) : xq X xe 69 0 [(0, .inr (.inr (0, a0r, 0))), (1, .inl a1)] [] M r := by
  unfold f_X5_passUntilPermit at h
  refine xq_blk 2 (pc' := 2) (ls' := [(2, .inl (1 : Int32)), (0, .inr (.inr (0, a0r, 0))), (1, .inl a1)]) (st' := []) (M' := M) rfl ?_
  refine xq_sub (a := [(0, .inr (.inr (0, a0r, 0))), (1, .inl a1), (2, .inl (1 : Int32))]) ⟨rfl, rfl, rfl, trivial⟩ rfl ?_
  exact xlp_ok (P := fun s2 => xq X xe 69 2 [(0, .inr (.inr (0, a0r, 0))), (1, .inl a1), (2, .inl s2.1)] [] s2.2 r) (fun s p' hb g0 g1 => f_X5_passUntilPermit_l2_ok hb g0 (fun q e => hr q (g1 _ e).symm)) 4000 _ h
theorem f_X5_passUntilPermit_ok {X : List Int32} {a0r : Nat} {a1 : Int32} {M : xM} {p : Int32 × xM} (h : f_X5_passUntilPermit a0r a1 M = some p) : xq X xe 69 0 [(0, .inr (.inr (0, a0r, 0))), (1, .inl a1)] [] M ((some (.inl p.1), p.2) : xR) := f_X5_passUntilPermit_run h (fun q e => by rw [e])
def f_X6_untilPermit (a1 : Int32) (M : xM) : Option (Int32 × xM) := (f_X6_isPerson a1 M).bind (fun q1 => if q1 = (0 : Int32) then (some (((-1 : Int32), M))) else ((f_X4_waitsForSome 2 a1 M).bind (fun q3 => if q3 = (0 : Int32) then (some (((-5 : Int32), M))) else ((f_X5_passUntilPermit 4 a1 (xe_cp 4 2 M)).bind (fun q5 => some ((q5.1, q5.2)))))))
theorem f_X6_untilPermit_run {X : List Int32} {a1 : Int32} {M : xM} {p : Int32 × xM} {r : xR} (h : f_X6_untilPermit a1 M = some p) (hr : ∀ q, p = q → ((some (.inl q.1), q.2) : xR) = r) : xq X xe 91 0 [(0, .inr (.inr (7, 5, 0))), (1, .inl a1)] [] M r := by
  unfold f_X6_untilPermit at h
  refine xq_blk 1 (pc' := 1) (ls' := [(0, .inr (.inr (7, 5, 0))), (1, .inl a1)]) (st' := [.inl a1]) (M' := M) rfl ?_
  refine xq_bind h (fun q1 e2 h => ?_)
  refine xq_call (j := 46) (as := [.inl a1]) (pc' := 4) (ls' := [(0, .inr (.inr (7, 5, 0))), (1, .inl a1)]) (st' := []) rfl rfl (f_X6_isPerson_ok e2) ?_
  refine xq_ite h (fun c8 h => ?_) (fun c8 h => ?_)
  · refine xq_core (pc' := 7) (ls' := [(0, .inr (.inr (7, 5, 0))), (1, .inl a1)]) (st' := []) rfl (if_pos c8) ?_
    refine xq_blk 1 (pc' := 8) (ls' := [(0, .inr (.inr (7, 5, 0))), (1, .inl a1)]) (st' := [.inl (-1 : Int32)]) (M' := M) rfl ?_
    exact (hr _ (Option.some.inj h).symm) ▸ xq_ret rfl
  · refine xq_core (pc' := 9) (ls' := [(0, .inr (.inr (7, 5, 0))), (1, .inl a1)]) (st' := []) rfl (if_neg c8) ?_
    refine xq_blk 4 (pc' := 17) (ls' := [(0, .inr (.inr (7, 5, 0))), (1, .inl a1)]) (st' := [.inl a1, .inr (.inr (1, 2, 3))]) (M' := M) rfl ?_
    refine xq_bind h (fun q3 e4 h => ?_)
    refine xq_call (j := 35) (as := [.inr (.inr (1, 2, 3)), .inl a1]) (pc' := 20) (ls' := [(0, .inr (.inr (7, 5, 0))), (1, .inl a1)]) (st' := []) rfl rfl (f_X4_waitsForSome_ok e4) ?_
    refine xq_ite h (fun c7 h => ?_) (fun c7 h => ?_)
    · refine xq_core (pc' := 23) (ls' := [(0, .inr (.inr (7, 5, 0))), (1, .inl a1)]) (st' := []) rfl (if_pos c7) ?_
      refine xq_blk 1 (pc' := 25) (ls' := [(0, .inr (.inr (7, 5, 0))), (1, .inl a1)]) (st' := [.inl (-5 : Int32)]) (M' := M) rfl ?_
      exact (hr _ (Option.some.inj h).symm) ▸ xq_ret rfl
    · refine xq_core (pc' := 26) (ls' := [(0, .inr (.inr (7, 5, 0))), (1, .inl a1)]) (st' := []) rfl (if_neg c7) ?_
      refine xq_blk 4 (pc' := 34) (ls' := [(0, .inr (.inr (7, 5, 0))), (1, .inl a1)]) (st' := [.inr (.inr (0, 2, 0)), .inr (.inr (0, 4, 0))]) (M' := M) rfl ?_
      refine xq_ext (j := 27) (as := [.inr (.inr (0, 4, 0)), .inr (.inr (0, 2, 0))]) (pc' := 37) (ls' := [(0, .inr (.inr (7, 5, 0))), (1, .inl a1)]) (st' := []) (q := (none, xe_cp 4 2 M)) rfl rfl rfl ?_
      refine xq_blk 3 (pc' := 42) (ls' := [(0, .inr (.inr (7, 5, 0))), (1, .inl a1)]) (st' := [.inl a1, .inr (.inr (0, 4, 0))]) (M' := xe_cp 4 2 M) rfl ?_
      refine xq_bind h (fun q5 e6 h => ?_)
      refine xq_call (j := 69) (as := [.inr (.inr (0, 4, 0)), .inl a1]) (pc' := 45) (ls' := [(0, .inr (.inr (7, 5, 0))), (1, .inl a1)]) (st' := []) rfl rfl (f_X5_passUntilPermit_ok e6) ?_
      exact (hr _ (Option.some.inj h).symm) ▸ xq_ret rfl
theorem f_X6_untilPermit_ok {X : List Int32} {a1 : Int32} {M : xM} {p : Int32 × xM} (h : f_X6_untilPermit a1 M = some p) : xq X xe 91 0 [(0, .inr (.inr (7, 5, 0))), (1, .inl a1)] [] M ((some (.inl p.1), p.2) : xR) := f_X6_untilPermit_run h (fun q e => by rw [e])
def f_X6_daysToWaitFor (a1 : Int32) (a2 : Int32) (a3 : Int32) (M : xM) : Option (Int32 × xM) := (f_X5_askFor 4 a1 a2 a3 (xe_cp 4 2 M)).bind (fun q1 => if q1.1 = (0 : Int32) then (some (((0 : Int32), q1.2))) else ((f_X5_passUntilPermit 4 a1 q1.2).bind (fun q3 => some ((q3.1, q3.2)))))
theorem f_X6_daysToWaitFor_run {X : List Int32} {a1 : Int32} {a2 : Int32} {a3 : Int32} {M : xM} {p : Int32 × xM} {r : xR} (h : f_X6_daysToWaitFor a1 a2 a3 M = some p) (hr : ∀ q, p = q → ((some (.inl q.1), q.2) : xR) = r) : xq X xe 92 0 [(0, .inr (.inr (7, 5, 0))), (1, .inl a1), (2, .inl a2), (3, .inl a3)] [] M r := by
  unfold f_X6_daysToWaitFor at h
  refine xq_blk 4 (pc' := 8) (ls' := [(0, .inr (.inr (7, 5, 0))), (1, .inl a1), (2, .inl a2), (3, .inl a3)]) (st' := [.inr (.inr (0, 2, 0)), .inr (.inr (0, 4, 0))]) (M' := M) rfl ?_
  refine xq_ext (j := 27) (as := [.inr (.inr (0, 4, 0)), .inr (.inr (0, 2, 0))]) (pc' := 11) (ls' := [(0, .inr (.inr (7, 5, 0))), (1, .inl a1), (2, .inl a2), (3, .inl a3)]) (st' := []) (q := (none, xe_cp 4 2 M)) rfl rfl rfl ?_
  refine xq_blk 5 (pc' := 18) (ls' := [(0, .inr (.inr (7, 5, 0))), (1, .inl a1), (2, .inl a2), (3, .inl a3)]) (st' := [.inl a3, .inl a2, .inl a1, .inr (.inr (0, 4, 0))]) (M' := xe_cp 4 2 M) rfl ?_
  refine xq_bind h (fun q1 e2 h => ?_)
  refine xq_call (j := 53) (as := [.inr (.inr (0, 4, 0)), .inl a1, .inl a2, .inl a3]) (pc' := 21) (ls' := [(0, .inr (.inr (7, 5, 0))), (1, .inl a1), (2, .inl a2), (3, .inl a3)]) (st' := []) rfl rfl (f_X5_askFor_ok e2) ?_
  refine xq_blk 2 (pc' := 25) (ls' := [(4, .inl q1.1), (0, .inr (.inr (7, 5, 0))), (1, .inl a1), (2, .inl a2), (3, .inl a3)]) (st' := [.inl q1.1]) (M' := q1.2) rfl ?_
  refine xq_ite h (fun c5 h => ?_) (fun c5 h => ?_)
  · refine xq_core (pc' := 28) (ls' := [(4, .inl q1.1), (0, .inr (.inr (7, 5, 0))), (1, .inl a1), (2, .inl a2), (3, .inl a3)]) (st' := []) rfl (if_pos c5) ?_
    refine xq_blk 2 (pc' := 40) (ls' := [(4, .inl q1.1), (0, .inr (.inr (7, 5, 0))), (1, .inl a1), (2, .inl a2), (3, .inl a3)]) (st' := [.inl (0 : Int32)]) (M' := q1.2) rfl ?_
    exact (hr _ (Option.some.inj h).symm) ▸ xq_ret rfl
  · refine xq_core (pc' := 32) (ls' := [(4, .inl q1.1), (0, .inr (.inr (7, 5, 0))), (1, .inl a1), (2, .inl a2), (3, .inl a3)]) (st' := []) rfl (if_neg c5) ?_
    refine xq_blk 3 (pc' := 37) (ls' := [(4, .inl q1.1), (0, .inr (.inr (7, 5, 0))), (1, .inl a1), (2, .inl a2), (3, .inl a3)]) (st' := [.inl a1, .inr (.inr (0, 4, 0))]) (M' := q1.2) rfl ?_
    refine xq_bind h (fun q3 e4 h => ?_)
    refine xq_call (j := 69) (as := [.inr (.inr (0, 4, 0)), .inl a1]) (pc' := 40) (ls' := [(4, .inl q1.1), (0, .inr (.inr (7, 5, 0))), (1, .inl a1), (2, .inl a2), (3, .inl a3)]) (st' := []) rfl rfl (f_X5_passUntilPermit_ok e4) ?_
    exact (hr _ (Option.some.inj h).symm) ▸ xq_ret rfl
theorem f_X6_daysToWaitFor_ok {X : List Int32} {a1 : Int32} {a2 : Int32} {a3 : Int32} {M : xM} {p : Int32 × xM} (h : f_X6_daysToWaitFor a1 a2 a3 M = some p) : xq X xe 92 0 [(0, .inr (.inr (7, 5, 0))), (1, .inl a1), (2, .inl a2), (3, .inl a3)] [] M ((some (.inl p.1), p.2) : xR) := f_X6_daysToWaitFor_run h (fun q e => by rw [e])
def f_X6_bestShed_l73 (k73v1 : Int32) (k73v2 : Int32) (k73v3 : Int32) (s73 : Int32 × Int32 × Int32 × xM) : Option ((Int32 × Int32 × Int32 × xM) ⊕ (Int32 × xM)) := if s73.2.2.1 < (3 : Int32) then ((f_X6_daysToWaitFor k73v1 s73.2.2.1 k73v2 s73.2.2.2).bind (fun q11 => if q11.1 = (-6 : Int32) then (some (.inl (s73.1, s73.2.1, s73.2.2.1 + (1 : Int32), q11.2))) else (if s73.1 = (-6 : Int32) then (some (.inl (s73.2.2.1, q11.1, s73.2.2.1 + (1 : Int32), q11.2))) else (if q11.1 < s73.2.1 then (some (.inl (s73.2.2.1, q11.1, s73.2.2.1 + (1 : Int32), q11.2))) else (some (.inl (s73.1, s73.2.1, s73.2.2.1 + (1 : Int32), q11.2))))))) else (Option.map Sum.inr (if k73v3 = (0 : Int32) then (some ((s73.1, s73.2.2.2))) else (some ((s73.2.1, s73.2.2.2)))))
theorem f_X6_bestShed_l73_ok {X : List Int32} {k73v1 : Int32} {k73v2 : Int32} {k73v3 : Int32} {s73 : Int32 × Int32 × Int32 × xM} {p : (Int32 × Int32 × Int32 × xM) ⊕ (Int32 × xM)} {r : xR} (h : f_X6_bestShed_l73 k73v1 k73v2 k73v3 s73 = some p) (h0 : ∀ s', p = .inl s' → xq X xe 93 73 [(0, .inr (.inr (7, 5, 0))), (1, .inl k73v1), (2, .inl k73v2), (3, .inl k73v3), (4, .inl s'.1), (5, .inl s'.2.1), (6, .inl s'.2.2.1)] [] s'.2.2.2 r) (hr : ∀ q, p = .inr (q) → ((some (.inl q.1), q.2) : xR) = r) : xq X xe 93 73 [(0, .inr (.inr (7, 5, 0))), (1, .inl k73v1), (2, .inl k73v2), (3, .inl k73v3), (4, .inl s73.1), (5, .inl s73.2.1), (6, .inl s73.2.2.1)] [] s73.2.2.2 r := by
  unfold f_X6_bestShed_l73 at h
  refine xq_blk 2 (pc' := 76) (ls' := [(0, .inr (.inr (7, 5, 0))), (1, .inl k73v1), (2, .inl k73v2), (3, .inl k73v3), (4, .inl s73.1), (5, .inl s73.2.1), (6, .inl s73.2.2.1)]) (st' := [.inl (3 : Int32), .inl s73.2.2.1]) (M' := s73.2.2.2) rfl ?_
  refine xq_ite h (fun c17 h => ?_) (fun c17 h => ?_)
  · refine xq_core (pc' := 79) (ls' := [(0, .inr (.inr (7, 5, 0))), (1, .inl k73v1), (2, .inl k73v2), (3, .inl k73v3), (4, .inl s73.1), (5, .inl s73.2.1), (6, .inl s73.2.2.1)]) (st' := []) rfl (if_pos c17) ?_
    refine xq_blk 4 (pc' := 84) (ls' := [(0, .inr (.inr (7, 5, 0))), (1, .inl k73v1), (2, .inl k73v2), (3, .inl k73v3), (4, .inl s73.1), (5, .inl s73.2.1), (6, .inl s73.2.2.1)]) (st' := [.inl k73v2, .inl s73.2.2.1, .inl k73v1, .inr (.inr (7, 5, 0))]) (M' := s73.2.2.2) rfl ?_
    refine xq_bind h (fun q11 e12 h => ?_)
    refine xq_call (j := 92) (as := [.inr (.inr (7, 5, 0)), .inl k73v1, .inl s73.2.2.1, .inl k73v2]) (pc' := 87) (ls' := [(0, .inr (.inr (7, 5, 0))), (1, .inl k73v1), (2, .inl k73v2), (3, .inl k73v3), (4, .inl s73.1), (5, .inl s73.2.1), (6, .inl s73.2.2.1)]) (st' := []) rfl rfl (f_X6_daysToWaitFor_ok e12) ?_
    refine xq_blk 3 (pc' := 93) (ls' := [(7, .inl q11.1), (0, .inr (.inr (7, 5, 0))), (1, .inl k73v1), (2, .inl k73v2), (3, .inl k73v3), (4, .inl s73.1), (5, .inl s73.2.1), (6, .inl s73.2.2.1)]) (st' := [.inl (-6 : Int32), .inl q11.1]) (M' := q11.2) rfl ?_
    refine xq_ite h (fun c15 h => ?_) (fun c15 h => ?_)
    · refine xq_core (pc' := 118) (ls' := [(7, .inl q11.1), (0, .inr (.inr (7, 5, 0))), (1, .inl k73v1), (2, .inl k73v2), (3, .inl k73v3), (4, .inl s73.1), (5, .inl s73.2.1), (6, .inl s73.2.2.1)]) (st' := []) rfl (if_pos c15) ?_
      refine xq_blk 2 (pc' := 73) (ls' := [(6, .inl (s73.2.2.1 + (1 : Int32))), (7, .inl q11.1), (0, .inr (.inr (7, 5, 0))), (1, .inl k73v1), (2, .inl k73v2), (3, .inl k73v3), (4, .inl s73.1), (5, .inl s73.2.1)]) (st' := []) (M' := q11.2) rfl ?_
      exact xq_sub (a := [(0, .inr (.inr (7, 5, 0))), (1, .inl k73v1), (2, .inl k73v2), (3, .inl k73v3), (4, .inl ((s73.1, s73.2.1, s73.2.2.1 + (1 : Int32), q11.2).1)), (5, .inl ((s73.1, s73.2.1, s73.2.2.1 + (1 : Int32), q11.2).2.1)), (6, .inl ((s73.1, s73.2.1, s73.2.2.1 + (1 : Int32), q11.2).2.2.1))]) ⟨rfl, rfl, rfl, rfl, rfl, rfl, rfl, trivial⟩ rfl (h0 (s73.1, s73.2.1, s73.2.2.1 + (1 : Int32), q11.2) (Option.some.inj h).symm)
    · refine xq_core (pc' := 96) (ls' := [(7, .inl q11.1), (0, .inr (.inr (7, 5, 0))), (1, .inl k73v1), (2, .inl k73v2), (3, .inl k73v3), (4, .inl s73.1), (5, .inl s73.2.1), (6, .inl s73.2.2.1)]) (st' := []) rfl (if_neg c15) ?_
      refine xq_blk 2 (pc' := 100) (ls' := [(7, .inl q11.1), (0, .inr (.inr (7, 5, 0))), (1, .inl k73v1), (2, .inl k73v2), (3, .inl k73v3), (4, .inl s73.1), (5, .inl s73.2.1), (6, .inl s73.2.2.1)]) (st' := [.inl (-6 : Int32), .inl s73.1]) (M' := q11.2) rfl ?_
      refine xq_ite h (fun c14 h => ?_) (fun c14 h => ?_)
      · refine xq_core (pc' := 110) (ls' := [(7, .inl q11.1), (0, .inr (.inr (7, 5, 0))), (1, .inl k73v1), (2, .inl k73v2), (3, .inl k73v3), (4, .inl s73.1), (5, .inl s73.2.1), (6, .inl s73.2.2.1)]) (st' := []) rfl (if_pos c14) ?_
        refine xq_blk 6 (pc' := 73) (ls' := [(6, .inl (s73.2.2.1 + (1 : Int32))), (5, .inl q11.1), (4, .inl s73.2.2.1), (7, .inl q11.1), (0, .inr (.inr (7, 5, 0))), (1, .inl k73v1), (2, .inl k73v2), (3, .inl k73v3)]) (st' := []) (M' := q11.2) rfl ?_
        exact xq_sub (a := [(0, .inr (.inr (7, 5, 0))), (1, .inl k73v1), (2, .inl k73v2), (3, .inl k73v3), (4, .inl ((s73.2.2.1, q11.1, s73.2.2.1 + (1 : Int32), q11.2).1)), (5, .inl ((s73.2.2.1, q11.1, s73.2.2.1 + (1 : Int32), q11.2).2.1)), (6, .inl ((s73.2.2.1, q11.1, s73.2.2.1 + (1 : Int32), q11.2).2.2.1))]) ⟨rfl, rfl, rfl, rfl, rfl, rfl, rfl, trivial⟩ rfl (h0 (s73.2.2.1, q11.1, s73.2.2.1 + (1 : Int32), q11.2) (Option.some.inj h).symm)
      · refine xq_core (pc' := 103) (ls' := [(7, .inl q11.1), (0, .inr (.inr (7, 5, 0))), (1, .inl k73v1), (2, .inl k73v2), (3, .inl k73v3), (4, .inl s73.1), (5, .inl s73.2.1), (6, .inl s73.2.2.1)]) (st' := []) rfl (if_neg c14) ?_
        refine xq_blk 2 (pc' := 107) (ls' := [(7, .inl q11.1), (0, .inr (.inr (7, 5, 0))), (1, .inl k73v1), (2, .inl k73v2), (3, .inl k73v3), (4, .inl s73.1), (5, .inl s73.2.1), (6, .inl s73.2.2.1)]) (st' := [.inl s73.2.1, .inl q11.1]) (M' := q11.2) rfl ?_
        refine xq_ite h (fun c13 h => ?_) (fun c13 h => ?_)
        · refine xq_core (pc' := 110) (ls' := [(7, .inl q11.1), (0, .inr (.inr (7, 5, 0))), (1, .inl k73v1), (2, .inl k73v2), (3, .inl k73v3), (4, .inl s73.1), (5, .inl s73.2.1), (6, .inl s73.2.2.1)]) (st' := []) rfl (if_pos c13) ?_
          refine xq_blk 6 (pc' := 73) (ls' := [(6, .inl (s73.2.2.1 + (1 : Int32))), (5, .inl q11.1), (4, .inl s73.2.2.1), (7, .inl q11.1), (0, .inr (.inr (7, 5, 0))), (1, .inl k73v1), (2, .inl k73v2), (3, .inl k73v3)]) (st' := []) (M' := q11.2) rfl ?_
          exact xq_sub (a := [(0, .inr (.inr (7, 5, 0))), (1, .inl k73v1), (2, .inl k73v2), (3, .inl k73v3), (4, .inl ((s73.2.2.1, q11.1, s73.2.2.1 + (1 : Int32), q11.2).1)), (5, .inl ((s73.2.2.1, q11.1, s73.2.2.1 + (1 : Int32), q11.2).2.1)), (6, .inl ((s73.2.2.1, q11.1, s73.2.2.1 + (1 : Int32), q11.2).2.2.1))]) ⟨rfl, rfl, rfl, rfl, rfl, rfl, rfl, trivial⟩ rfl (h0 (s73.2.2.1, q11.1, s73.2.2.1 + (1 : Int32), q11.2) (Option.some.inj h).symm)
        · refine xq_core (pc' := 118) (ls' := [(7, .inl q11.1), (0, .inr (.inr (7, 5, 0))), (1, .inl k73v1), (2, .inl k73v2), (3, .inl k73v3), (4, .inl s73.1), (5, .inl s73.2.1), (6, .inl s73.2.2.1)]) (st' := []) rfl (if_neg c13) ?_
          refine xq_blk 2 (pc' := 73) (ls' := [(6, .inl (s73.2.2.1 + (1 : Int32))), (7, .inl q11.1), (0, .inr (.inr (7, 5, 0))), (1, .inl k73v1), (2, .inl k73v2), (3, .inl k73v3), (4, .inl s73.1), (5, .inl s73.2.1)]) (st' := []) (M' := q11.2) rfl ?_
          exact xq_sub (a := [(0, .inr (.inr (7, 5, 0))), (1, .inl k73v1), (2, .inl k73v2), (3, .inl k73v3), (4, .inl ((s73.1, s73.2.1, s73.2.2.1 + (1 : Int32), q11.2).1)), (5, .inl ((s73.1, s73.2.1, s73.2.2.1 + (1 : Int32), q11.2).2.1)), (6, .inl ((s73.1, s73.2.1, s73.2.2.1 + (1 : Int32), q11.2).2.2.1))]) ⟨rfl, rfl, rfl, rfl, rfl, rfl, rfl, trivial⟩ rfl (h0 (s73.1, s73.2.1, s73.2.2.1 + (1 : Int32), q11.2) (Option.some.inj h).symm)
  · refine xq_core (pc' := 124) (ls' := [(0, .inr (.inr (7, 5, 0))), (1, .inl k73v1), (2, .inl k73v2), (3, .inl k73v3), (4, .inl s73.1), (5, .inl s73.2.1), (6, .inl s73.2.2.1)]) (st' := []) rfl (if_neg c17) ?_
    refine xq_map h (fun p h e => ?_)
    replace hr := fun q e' => hr q (e.symm.trans (congrArg Sum.inr e'))
    clear e
    refine xq_blk 1 (pc' := 125) (ls' := [(0, .inr (.inr (7, 5, 0))), (1, .inl k73v1), (2, .inl k73v2), (3, .inl k73v3), (4, .inl s73.1), (5, .inl s73.2.1), (6, .inl s73.2.2.1)]) (st' := [.inl k73v3]) (M' := s73.2.2.2) rfl ?_
    refine xq_ite h (fun c16 h => ?_) (fun c16 h => ?_)
    · refine xq_core (pc' := 128) (ls' := [(0, .inr (.inr (7, 5, 0))), (1, .inl k73v1), (2, .inl k73v2), (3, .inl k73v3), (4, .inl s73.1), (5, .inl s73.2.1), (6, .inl s73.2.2.1)]) (st' := []) rfl (if_pos c16) ?_
      refine xq_blk 2 (pc' := 135) (ls' := [(0, .inr (.inr (7, 5, 0))), (1, .inl k73v1), (2, .inl k73v2), (3, .inl k73v3), (4, .inl s73.1), (5, .inl s73.2.1), (6, .inl s73.2.2.1)]) (st' := [.inl s73.1]) (M' := s73.2.2.2) rfl ?_
      exact (hr _ (Option.some.inj h).symm) ▸ xq_ret rfl
    · refine xq_core (pc' := 133) (ls' := [(0, .inr (.inr (7, 5, 0))), (1, .inl k73v1), (2, .inl k73v2), (3, .inl k73v3), (4, .inl s73.1), (5, .inl s73.2.1), (6, .inl s73.2.2.1)]) (st' := []) rfl (if_neg c16) ?_
      refine xq_blk 1 (pc' := 135) (ls' := [(0, .inr (.inr (7, 5, 0))), (1, .inl k73v1), (2, .inl k73v2), (3, .inl k73v3), (4, .inl s73.1), (5, .inl s73.2.1), (6, .inl s73.2.2.1)]) (st' := [.inl s73.2.1]) (M' := s73.2.2.2) rfl ?_
      exact (hr _ (Option.some.inj h).symm) ▸ xq_ret rfl
def f_X6_bestShed (a1 : Int32) (a2 : Int32) (a3 : Int32) (M : xM) : Option (Int32 × xM) := (f_X6_isPerson a1 M).bind (fun q1 => if q1 = (0 : Int32) then (some (((-1 : Int32), M))) else ((f_X6_isFrom (1 : Int32) a2 (99 : Int32) M).bind (fun q3 => if q3 = (0 : Int32) then (some (((-2 : Int32), M))) else ((f_X6_isFrom (0 : Int32) a3 (1 : Int32) M).bind (fun q5 => if q5 = (0 : Int32) then (some (((-2 : Int32), M))) else ((f_X4_hasPermit 2 a1 M).bind (fun q7 => if q7 = (0 : Int32) then ((f_X4_waitsForSome 2 a1 M).bind (fun q9 => if q9 = (0 : Int32) then (xlp (f_X6_bestShed_l73 a1 a2 a3) 4000 ((-6 : Int32), (-6 : Int32), (0 : Int32), M)) else (some (((-5 : Int32), M))))) else (some (((-5 : Int32), M))))))))))
theorem f_X6_bestShed_run {X : List Int32} {a1 : Int32} {a2 : Int32} {a3 : Int32} {M : xM} {p : Int32 × xM} {r : xR} (h : f_X6_bestShed a1 a2 a3 M = some p) (hr : ∀ q, p = q → ((some (.inl q.1), q.2) : xR) = r) : xq X xe 93 0 [(0, .inr (.inr (7, 5, 0))), (1, .inl a1), (2, .inl a2), (3, .inl a3)] [] M r := by
  unfold f_X6_bestShed at h
  refine xq_blk 1 (pc' := 1) (ls' := [(0, .inr (.inr (7, 5, 0))), (1, .inl a1), (2, .inl a2), (3, .inl a3)]) (st' := [.inl a1]) (M' := M) rfl ?_
  refine xq_bind h (fun q1 e2 h => ?_)
  refine xq_call (j := 46) (as := [.inl a1]) (pc' := 4) (ls' := [(0, .inr (.inr (7, 5, 0))), (1, .inl a1), (2, .inl a2), (3, .inl a3)]) (st' := []) rfl rfl (f_X6_isPerson_ok e2) ?_
  refine xq_ite h (fun c22 h => ?_) (fun c22 h => ?_)
  · refine xq_core (pc' := 7) (ls' := [(0, .inr (.inr (7, 5, 0))), (1, .inl a1), (2, .inl a2), (3, .inl a3)]) (st' := []) rfl (if_pos c22) ?_
    refine xq_blk 1 (pc' := 8) (ls' := [(0, .inr (.inr (7, 5, 0))), (1, .inl a1), (2, .inl a2), (3, .inl a3)]) (st' := [.inl (-1 : Int32)]) (M' := M) rfl ?_
    exact (hr _ (Option.some.inj h).symm) ▸ xq_ret rfl
  · refine xq_core (pc' := 9) (ls' := [(0, .inr (.inr (7, 5, 0))), (1, .inl a1), (2, .inl a2), (3, .inl a3)]) (st' := []) rfl (if_neg c22) ?_
    refine xq_blk 3 (pc' := 13) (ls' := [(0, .inr (.inr (7, 5, 0))), (1, .inl a1), (2, .inl a2), (3, .inl a3)]) (st' := [.inl (99 : Int32), .inl a2, .inl (1 : Int32)]) (M' := M) rfl ?_
    refine xq_bind h (fun q3 e4 h => ?_)
    refine xq_call (j := 48) (as := [.inl (1 : Int32), .inl a2, .inl (99 : Int32)]) (pc' := 16) (ls' := [(0, .inr (.inr (7, 5, 0))), (1, .inl a1), (2, .inl a2), (3, .inl a3)]) (st' := []) rfl rfl (f_X6_isFrom_ok e4) ?_
    refine xq_ite h (fun c21 h => ?_) (fun c21 h => ?_)
    · refine xq_core (pc' := 28) (ls' := [(0, .inr (.inr (7, 5, 0))), (1, .inl a1), (2, .inl a2), (3, .inl a3)]) (st' := []) rfl (if_pos c21) ?_
      refine xq_blk 1 (pc' := 30) (ls' := [(0, .inr (.inr (7, 5, 0))), (1, .inl a1), (2, .inl a2), (3, .inl a3)]) (st' := [.inl (-2 : Int32)]) (M' := M) rfl ?_
      exact (hr _ (Option.some.inj h).symm) ▸ xq_ret rfl
    · refine xq_core (pc' := 19) (ls' := [(0, .inr (.inr (7, 5, 0))), (1, .inl a1), (2, .inl a2), (3, .inl a3)]) (st' := []) rfl (if_neg c21) ?_
      refine xq_blk 3 (pc' := 22) (ls' := [(0, .inr (.inr (7, 5, 0))), (1, .inl a1), (2, .inl a2), (3, .inl a3)]) (st' := [.inl (1 : Int32), .inl a3, .inl (0 : Int32)]) (M' := M) rfl ?_
      refine xq_bind h (fun q5 e6 h => ?_)
      refine xq_call (j := 48) (as := [.inl (0 : Int32), .inl a3, .inl (1 : Int32)]) (pc' := 25) (ls' := [(0, .inr (.inr (7, 5, 0))), (1, .inl a1), (2, .inl a2), (3, .inl a3)]) (st' := []) rfl rfl (f_X6_isFrom_ok e6) ?_
      refine xq_ite h (fun c20 h => ?_) (fun c20 h => ?_)
      · refine xq_core (pc' := 28) (ls' := [(0, .inr (.inr (7, 5, 0))), (1, .inl a1), (2, .inl a2), (3, .inl a3)]) (st' := []) rfl (if_pos c20) ?_
        refine xq_blk 1 (pc' := 30) (ls' := [(0, .inr (.inr (7, 5, 0))), (1, .inl a1), (2, .inl a2), (3, .inl a3)]) (st' := [.inl (-2 : Int32)]) (M' := M) rfl ?_
        exact (hr _ (Option.some.inj h).symm) ▸ xq_ret rfl
      · refine xq_core (pc' := 31) (ls' := [(0, .inr (.inr (7, 5, 0))), (1, .inl a1), (2, .inl a2), (3, .inl a3)]) (st' := []) rfl (if_neg c20) ?_
        refine xq_blk 4 (pc' := 39) (ls' := [(0, .inr (.inr (7, 5, 0))), (1, .inl a1), (2, .inl a2), (3, .inl a3)]) (st' := [.inl a1, .inr (.inr (1, 2, 3))]) (M' := M) rfl ?_
        refine xq_bind h (fun q7 e8 h => ?_)
        refine xq_call (j := 32) (as := [.inr (.inr (1, 2, 3)), .inl a1]) (pc' := 42) (ls' := [(0, .inr (.inr (7, 5, 0))), (1, .inl a1), (2, .inl a2), (3, .inl a3)]) (st' := []) rfl rfl (f_X4_hasPermit_ok e8) ?_
        refine xq_ite h (fun c19 h => ?_) (fun c19 h => ?_)
        · refine xq_core (pc' := 45) (ls' := [(0, .inr (.inr (7, 5, 0))), (1, .inl a1), (2, .inl a2), (3, .inl a3)]) (st' := []) rfl (if_pos c19) ?_
          refine xq_blk 4 (pc' := 53) (ls' := [(0, .inr (.inr (7, 5, 0))), (1, .inl a1), (2, .inl a2), (3, .inl a3)]) (st' := [.inl a1, .inr (.inr (1, 2, 3))]) (M' := M) rfl ?_
          refine xq_bind h (fun q9 e10 h => ?_)
          refine xq_call (j := 35) (as := [.inr (.inr (1, 2, 3)), .inl a1]) (pc' := 56) (ls' := [(0, .inr (.inr (7, 5, 0))), (1, .inl a1), (2, .inl a2), (3, .inl a3)]) (st' := []) rfl rfl (f_X4_waitsForSome_ok e10) ?_
          refine xq_ite h (fun c18 h => ?_) (fun c18 h => ?_)
          · refine xq_core (pc' := 62) (ls' := [(0, .inr (.inr (7, 5, 0))), (1, .inl a1), (2, .inl a2), (3, .inl a3)]) (st' := []) rfl (if_pos c18) ?_
            refine xq_blk 6 (pc' := 73) (ls' := [(6, .inl (0 : Int32)), (5, .inl (-6 : Int32)), (4, .inl (-6 : Int32)), (0, .inr (.inr (7, 5, 0))), (1, .inl a1), (2, .inl a2), (3, .inl a3)]) (st' := []) (M' := M) rfl ?_
            refine xq_sub (a := [(0, .inr (.inr (7, 5, 0))), (1, .inl a1), (2, .inl a2), (3, .inl a3), (4, .inl (-6 : Int32)), (5, .inl (-6 : Int32)), (6, .inl (0 : Int32))]) ⟨rfl, rfl, rfl, rfl, rfl, rfl, rfl, trivial⟩ rfl ?_
            exact xlp_ok (P := fun s73 => xq X xe 93 73 [(0, .inr (.inr (7, 5, 0))), (1, .inl a1), (2, .inl a2), (3, .inl a3), (4, .inl s73.1), (5, .inl s73.2.1), (6, .inl s73.2.2.1)] [] s73.2.2.2 r) (fun s p' hb g0 g1 => f_X6_bestShed_l73_ok hb g0 (fun q e => hr q (g1 _ e).symm)) 4000 _ h
          · refine xq_core (pc' := 59) (ls' := [(0, .inr (.inr (7, 5, 0))), (1, .inl a1), (2, .inl a2), (3, .inl a3)]) (st' := []) rfl (if_neg c18) ?_
            refine xq_blk 1 (pc' := 61) (ls' := [(0, .inr (.inr (7, 5, 0))), (1, .inl a1), (2, .inl a2), (3, .inl a3)]) (st' := [.inl (-5 : Int32)]) (M' := M) rfl ?_
            exact (hr _ (Option.some.inj h).symm) ▸ xq_ret rfl
        · refine xq_core (pc' := 59) (ls' := [(0, .inr (.inr (7, 5, 0))), (1, .inl a1), (2, .inl a2), (3, .inl a3)]) (st' := []) rfl (if_neg c19) ?_
          refine xq_blk 1 (pc' := 61) (ls' := [(0, .inr (.inr (7, 5, 0))), (1, .inl a1), (2, .inl a2), (3, .inl a3)]) (st' := [.inl (-5 : Int32)]) (M' := M) rfl ?_
          exact (hr _ (Option.some.inj h).symm) ▸ xq_ret rfl
theorem f_X6_bestShed_ok {X : List Int32} {a1 : Int32} {a2 : Int32} {a3 : Int32} {M : xM} {p : Int32 × xM} (h : f_X6_bestShed a1 a2 a3 M = some p) : xq X xe 93 0 [(0, .inr (.inr (7, 5, 0))), (1, .inl a1), (2, .inl a2), (3, .inl a3)] [] M ((some (.inl p.1), p.2) : xR) := f_X6_bestShed_run h (fun q e => by rw [e])
def f_X0_countTagged_l5 (k5v0r : Nat) (k5v1 : Int32) (k5v2 : Int32) (M : xM) (s5 : Int32 × Int32) : Option ((Int32 × Int32) ⊕ (Int32)) := if s5.2 < (20 : Int32) then ((f_X0_isDue k5v0r s5.2 k5v1 k5v2 M).bind (fun q1 => if q1 = (0 : Int32) then (some (.inl (s5.1, s5.2 + (1 : Int32)))) else (some (.inl (s5.1 + (1 : Int32), s5.2 + (1 : Int32)))))) else (Option.map Sum.inr (some (s5.1)))
theorem f_X0_countTagged_l5_ok {X : List Int32} {k5v0r : Nat} {k5v1 : Int32} {k5v2 : Int32} {M : xM} {s5 : Int32 × Int32} {p : (Int32 × Int32) ⊕ (Int32)} {r : xR} (h : f_X0_countTagged_l5 k5v0r k5v1 k5v2 M s5 = some p) (h0 : ∀ s', p = .inl s' → xq X xe 10 5 [(0, .inr (.inr (2, k5v0r, 18))), (1, .inl k5v1), (2, .inl k5v2), (3, .inl s'.1), (4, .inl s'.2)] [] M r) (hr : ∀ q, p = .inr (q) → ((some (.inl q), M) : xR) = r) : xq X xe 10 5 [(0, .inr (.inr (2, k5v0r, 18))), (1, .inl k5v1), (2, .inl k5v2), (3, .inl s5.1), (4, .inl s5.2)] [] M r := by
  unfold f_X0_countTagged_l5 at h
  refine xq_blk 2 (pc' := 9) (ls' := [(0, .inr (.inr (2, k5v0r, 18))), (1, .inl k5v1), (2, .inl k5v2), (3, .inl s5.1), (4, .inl s5.2)]) (st' := [.inl (20 : Int32), .inl s5.2]) (M' := M) rfl ?_
  refine xq_ite h (fun c4 h => ?_) (fun c4 h => ?_)
  · refine xq_core (pc' := 12) (ls' := [(0, .inr (.inr (2, k5v0r, 18))), (1, .inl k5v1), (2, .inl k5v2), (3, .inl s5.1), (4, .inl s5.2)]) (st' := []) rfl (if_pos c4) ?_
    refine xq_blk 4 (pc' := 17) (ls' := [(0, .inr (.inr (2, k5v0r, 18))), (1, .inl k5v1), (2, .inl k5v2), (3, .inl s5.1), (4, .inl s5.2)]) (st' := [.inl k5v2, .inl k5v1, .inl s5.2, .inr (.inr (2, k5v0r, 18))]) (M' := M) rfl ?_
    refine xq_bind h (fun q1 e2 h => ?_)
    refine xq_call (j := 9) (as := [.inr (.inr (2, k5v0r, 18)), .inl s5.2, .inl k5v1, .inl k5v2]) (pc' := 20) (ls' := [(0, .inr (.inr (2, k5v0r, 18))), (1, .inl k5v1), (2, .inl k5v2), (3, .inl s5.1), (4, .inl s5.2)]) (st' := []) rfl rfl (f_X0_isDue_ok e2) ?_
    refine xq_ite h (fun c3 h => ?_) (fun c3 h => ?_)
    · refine xq_core (pc' := 26) (ls' := [(0, .inr (.inr (2, k5v0r, 18))), (1, .inl k5v1), (2, .inl k5v2), (3, .inl s5.1), (4, .inl s5.2)]) (st' := []) rfl (if_pos c3) ?_
      refine xq_blk 2 (pc' := 5) (ls' := [(4, .inl (s5.2 + (1 : Int32))), (0, .inr (.inr (2, k5v0r, 18))), (1, .inl k5v1), (2, .inl k5v2), (3, .inl s5.1)]) (st' := []) (M' := M) rfl ?_
      exact xq_sub (a := [(0, .inr (.inr (2, k5v0r, 18))), (1, .inl k5v1), (2, .inl k5v2), (3, .inl ((s5.1, s5.2 + (1 : Int32)).1)), (4, .inl ((s5.1, s5.2 + (1 : Int32)).2))]) ⟨rfl, rfl, rfl, rfl, rfl, trivial⟩ rfl (h0 (s5.1, s5.2 + (1 : Int32)) (Option.some.inj h).symm)
    · refine xq_core (pc' := 23) (ls' := [(0, .inr (.inr (2, k5v0r, 18))), (1, .inl k5v1), (2, .inl k5v2), (3, .inl s5.1), (4, .inl s5.2)]) (st' := []) rfl (if_neg c3) ?_
      refine xq_blk 3 (pc' := 5) (ls' := [(4, .inl (s5.2 + (1 : Int32))), (3, .inl (s5.1 + (1 : Int32))), (0, .inr (.inr (2, k5v0r, 18))), (1, .inl k5v1), (2, .inl k5v2)]) (st' := []) (M' := M) rfl ?_
      exact xq_sub (a := [(0, .inr (.inr (2, k5v0r, 18))), (1, .inl k5v1), (2, .inl k5v2), (3, .inl ((s5.1 + (1 : Int32), s5.2 + (1 : Int32)).1)), (4, .inl ((s5.1 + (1 : Int32), s5.2 + (1 : Int32)).2))]) ⟨rfl, rfl, rfl, rfl, rfl, trivial⟩ rfl (h0 (s5.1 + (1 : Int32), s5.2 + (1 : Int32)) (Option.some.inj h).symm)
  · refine xq_core (pc' := 32) (ls' := [(0, .inr (.inr (2, k5v0r, 18))), (1, .inl k5v1), (2, .inl k5v2), (3, .inl s5.1), (4, .inl s5.2)]) (st' := []) rfl (if_neg c4) ?_
    refine xq_map h (fun p h e => ?_)
    replace hr := fun q e' => hr q (e.symm.trans (congrArg Sum.inr e'))
    clear e
    refine xq_blk 1 (pc' := 33) (ls' := [(0, .inr (.inr (2, k5v0r, 18))), (1, .inl k5v1), (2, .inl k5v2), (3, .inl s5.1), (4, .inl s5.2)]) (st' := [.inl s5.1]) (M' := M) rfl ?_
    exact (hr _ (Option.some.inj h).symm) ▸ xq_ret rfl
def f_X0_countTagged (a0r : Nat) (a1 : Int32) (a2 : Int32) (M : xM) : Option (Int32) := xlp (f_X0_countTagged_l5 a0r a1 a2 M) 4000 ((0 : Int32), (0 : Int32))
theorem f_X0_countTagged_run {X : List Int32} {a0r : Nat} {a1 : Int32} {a2 : Int32} {M : xM} {p : Int32} {r : xR} (h : f_X0_countTagged a0r a1 a2 M = some p) (hr : ∀ q, p = q → ((some (.inl q), M) : xR) = r) : xq X xe 10 0 [(0, .inr (.inr (2, a0r, 18))), (1, .inl a1), (2, .inl a2)] [] M r := by
  unfold f_X0_countTagged at h
  refine xq_blk 4 (pc' := 5) (ls' := [(4, .inl (0 : Int32)), (3, .inl (0 : Int32)), (0, .inr (.inr (2, a0r, 18))), (1, .inl a1), (2, .inl a2)]) (st' := []) (M' := M) rfl ?_
  refine xq_sub (a := [(0, .inr (.inr (2, a0r, 18))), (1, .inl a1), (2, .inl a2), (3, .inl (0 : Int32)), (4, .inl (0 : Int32))]) ⟨rfl, rfl, rfl, rfl, rfl, trivial⟩ rfl ?_
  exact xlp_ok (P := fun s5 => xq X xe 10 5 [(0, .inr (.inr (2, a0r, 18))), (1, .inl a1), (2, .inl a2), (3, .inl s5.1), (4, .inl s5.2)] [] M r) (fun s p' hb g0 g1 => f_X0_countTagged_l5_ok hb g0 (fun q e => hr q (g1 _ e).symm)) 4000 _ h
theorem f_X0_countTagged_ok {X : List Int32} {a0r : Nat} {a1 : Int32} {a2 : Int32} {M : xM} {p : Int32} (h : f_X0_countTagged a0r a1 a2 M = some p) : xq X xe 10 0 [(0, .inr (.inr (2, a0r, 18))), (1, .inl a1), (2, .inl a2)] [] M ((some (.inl p), M) : xR) := f_X0_countTagged_run h (fun q e => by rw [e])
def f_X6_ifSwept (a1 : Int32) (a2 : Int32) (M : xM) : Option (Int32) := (f_X6_isShed a1 M).bind (fun q1 => if q1 = (0 : Int32) then (some ((-1 : Int32))) else ((f_X6_isFrom (0 : Int32) a2 (99 : Int32) M).bind (fun q3 => if q3 = (0 : Int32) then (some ((-2 : Int32))) else ((f_X5_latestDueTag 2 a2 M).bind (fun q5 => (f_X0_countTagged 2 a1 q5 M).bind (fun q7 => some (q7)))))))
theorem f_X6_ifSwept_run {X : List Int32} {a1 : Int32} {a2 : Int32} {M : xM} {p : Int32} {r : xR} (h : f_X6_ifSwept a1 a2 M = some p) (hr : ∀ q, p = q → ((some (.inl q), M) : xR) = r) : xq X xe 94 0 [(0, .inr (.inr (7, 5, 0))), (1, .inl a1), (2, .inl a2)] [] M r := by
  unfold f_X6_ifSwept at h
  refine xq_blk 1 (pc' := 1) (ls' := [(0, .inr (.inr (7, 5, 0))), (1, .inl a1), (2, .inl a2)]) (st' := [.inl a1]) (M' := M) rfl ?_
  refine xq_bind h (fun q1 e2 h => ?_)
  refine xq_call (j := 31) (as := [.inl a1]) (pc' := 4) (ls' := [(0, .inr (.inr (7, 5, 0))), (1, .inl a1), (2, .inl a2)]) (st' := []) rfl rfl (f_X6_isShed_ok e2) ?_
  refine xq_ite h (fun c10 h => ?_) (fun c10 h => ?_)
  · refine xq_core (pc' := 7) (ls' := [(0, .inr (.inr (7, 5, 0))), (1, .inl a1), (2, .inl a2)]) (st' := []) rfl (if_pos c10) ?_
    refine xq_blk 1 (pc' := 8) (ls' := [(0, .inr (.inr (7, 5, 0))), (1, .inl a1), (2, .inl a2)]) (st' := [.inl (-1 : Int32)]) (M' := M) rfl ?_
    exact (hr _ (Option.some.inj h).symm) ▸ xq_ret rfl
  · refine xq_core (pc' := 9) (ls' := [(0, .inr (.inr (7, 5, 0))), (1, .inl a1), (2, .inl a2)]) (st' := []) rfl (if_neg c10) ?_
    refine xq_blk 3 (pc' := 13) (ls' := [(0, .inr (.inr (7, 5, 0))), (1, .inl a1), (2, .inl a2)]) (st' := [.inl (99 : Int32), .inl a2, .inl (0 : Int32)]) (M' := M) rfl ?_
    refine xq_bind h (fun q3 e4 h => ?_)
    refine xq_call (j := 48) (as := [.inl (0 : Int32), .inl a2, .inl (99 : Int32)]) (pc' := 16) (ls' := [(0, .inr (.inr (7, 5, 0))), (1, .inl a1), (2, .inl a2)]) (st' := []) rfl rfl (f_X6_isFrom_ok e4) ?_
    refine xq_ite h (fun c9 h => ?_) (fun c9 h => ?_)
    · refine xq_core (pc' := 19) (ls' := [(0, .inr (.inr (7, 5, 0))), (1, .inl a1), (2, .inl a2)]) (st' := []) rfl (if_pos c9) ?_
      refine xq_blk 1 (pc' := 21) (ls' := [(0, .inr (.inr (7, 5, 0))), (1, .inl a1), (2, .inl a2)]) (st' := [.inl (-2 : Int32)]) (M' := M) rfl ?_
      exact (hr _ (Option.some.inj h).symm) ▸ xq_ret rfl
    · refine xq_core (pc' := 22) (ls' := [(0, .inr (.inr (7, 5, 0))), (1, .inl a1), (2, .inl a2)]) (st' := []) rfl (if_neg c9) ?_
      refine xq_blk 7 (pc' := 35) (ls' := [(0, .inr (.inr (7, 5, 0))), (1, .inl a1), (2, .inl a2)]) (st' := [.inl a2, .inr (.inr (0, 2, 0)), .inl a1, .inr (.inr (2, 2, 18))]) (M' := M) rfl ?_
      refine xq_bind h (fun q5 e6 h => ?_)
      refine xq_call (j := 63) (as := [.inr (.inr (0, 2, 0)), .inl a2]) (pc' := 38) (ls' := [(0, .inr (.inr (7, 5, 0))), (1, .inl a1), (2, .inl a2)]) (st' := [.inl a1, .inr (.inr (2, 2, 18))]) rfl rfl (f_X5_latestDueTag_ok e6) ?_
      refine xq_bind h (fun q7 e8 h => ?_)
      refine xq_call (j := 10) (as := [.inr (.inr (2, 2, 18)), .inl a1, .inl q5]) (pc' := 41) (ls' := [(0, .inr (.inr (7, 5, 0))), (1, .inl a1), (2, .inl a2)]) (st' := []) rfl rfl (f_X0_countTagged_ok e8) ?_
      exact (hr _ (Option.some.inj h).symm) ▸ xq_ret rfl
theorem f_X6_ifSwept_ok {X : List Int32} {a1 : Int32} {a2 : Int32} {M : xM} {p : Int32} (h : f_X6_ifSwept a1 a2 M = some p) : xq X xe 94 0 [(0, .inr (.inr (7, 5, 0))), (1, .inl a1), (2, .inl a2)] [] M ((some (.inl p), M) : xR) := f_X6_ifSwept_run h (fun q e => by rw [e])
def f_X2_takeBack (a1r : Nat) (M : xM) : Option (Int32 × xM) := if (M.1 5 76 1) = (0 : Int32) then (some ((vp_nar .boolean (0 : Int32), M))) else (if xp_in ((M.1 5 76 1) - (1 : Int32)) 6 = true then (if xd_nul (20, (M.1 5 77 ((M.1 5 76 1) - (1 : Int32)).toNatClampNeg).toNatClampNeg, 0) = true then (some ((vp_nar .boolean (0 : Int32), M))) else (if ((M.1 5 77 ((M.1 5 76 1) - (1 : Int32)).toNatClampNeg).toNatClampNeg != 0) = true then (some ((vp_nar .boolean (1 : Int32), xd_up (xe_cp a1r (M.1 5 77 ((M.1 5 76 1) - (1 : Int32)).toNatClampNeg).toNatClampNeg M) 5 76 1 (((xe_cp a1r (M.1 5 77 ((M.1 5 76 1) - (1 : Int32)).toNatClampNeg).toNatClampNeg M).1 5 76 1) - (1 : Int32))))) else none)) else none)
theorem f_X2_takeBack_run {X : List Int32} {a1r : Nat} {M : xM} {p : Int32 × xM} {r : xR} (h : f_X2_takeBack a1r M = some p) (hr : ∀ q, p = q → ((some (.inl q.1), q.2) : xR) = r) : xq X xe 30 0 [(0, .inr (.inr (8, 5, 76))), (1, .inr (.inr (0, a1r, 0)))] [] M r := by
  unfold f_X2_takeBack at h
  refine xq_blk 2 (pc' := 4) (ls' := [(0, .inr (.inr (8, 5, 76))), (1, .inr (.inr (0, a1r, 0)))]) (st' := [.inl (M.1 5 76 1)]) (M' := M) rfl ?_
  refine xq_ite h (fun c4 h => ?_) (fun c4 h => ?_)
  · refine xq_core (pc' := 7) (ls' := [(0, .inr (.inr (8, 5, 76))), (1, .inr (.inr (0, a1r, 0)))]) (st' := []) rfl (if_pos c4) ?_
    refine xq_blk 1 (pc' := 8) (ls' := [(0, .inr (.inr (8, 5, 76))), (1, .inr (.inr (0, a1r, 0)))]) (st' := [.inl (0 : Int32)]) (M' := M) rfl ?_
    exact (hr _ (Option.some.inj h).symm) ▸ xq_ret rfl
  · refine xq_core (pc' := 9) (ls' := [(0, .inr (.inr (8, 5, 76))), (1, .inr (.inr (0, a1r, 0)))]) (st' := []) rfl (if_neg c4) ?_
    refine xq_blk 6 (pc' := 19) (ls' := [(0, .inr (.inr (8, 5, 76))), (1, .inr (.inr (0, a1r, 0)))]) (st' := [.inl ((M.1 5 76 1) - (1 : Int32)), .inr (.inr (9, 5, 77))]) (M' := M) rfl ?_
    refine xq_guard h (fun g1 h => ?_)
    refine xq_prim (st' := [.inr (.inr (20, (M.1 5 77 ((M.1 5 76 1) - (1 : Int32)).toNatClampNeg).toNatClampNeg, 0))]) (M' := M) rfl rfl rfl (xg_aald (by decide) rfl g1) ?_
    refine xq_blk 2 (pc' := 22) (ls' := [(2, .inr (.inr (20, (M.1 5 77 ((M.1 5 76 1) - (1 : Int32)).toNatClampNeg).toNatClampNeg, 0))), (0, .inr (.inr (8, 5, 76))), (1, .inr (.inr (0, a1r, 0)))]) (st' := [.inr (.inr (20, (M.1 5 77 ((M.1 5 76 1) - (1 : Int32)).toNatClampNeg).toNatClampNeg, 0))]) (M' := M) rfl ?_
    refine xq_ite h (fun c3 h => ?_) (fun c3 h => ?_)
    · refine xq_core (pc' := 25) (ls' := [(2, .inr (.inr (20, (M.1 5 77 ((M.1 5 76 1) - (1 : Int32)).toNatClampNeg).toNatClampNeg, 0))), (0, .inr (.inr (8, 5, 76))), (1, .inr (.inr (0, a1r, 0)))]) (st' := []) rfl (if_pos c3) ?_
      refine xq_blk 1 (pc' := 26) (ls' := [(2, .inr (.inr (20, (M.1 5 77 ((M.1 5 76 1) - (1 : Int32)).toNatClampNeg).toNatClampNeg, 0))), (0, .inr (.inr (8, 5, 76))), (1, .inr (.inr (0, a1r, 0)))]) (st' := [.inl (0 : Int32)]) (M' := M) rfl ?_
      exact (hr _ (Option.some.inj h).symm) ▸ xq_ret rfl
    · refine xq_core (pc' := 27) (ls' := [(2, .inr (.inr (20, (M.1 5 77 ((M.1 5 76 1) - (1 : Int32)).toNatClampNeg).toNatClampNeg, 0))), (0, .inr (.inr (8, 5, 76))), (1, .inr (.inr (0, a1r, 0)))]) (st' := []) rfl (if_neg c3) ?_
      refine xq_blk 2 (pc' := 29) (ls' := [(2, .inr (.inr (20, (M.1 5 77 ((M.1 5 76 1) - (1 : Int32)).toNatClampNeg).toNatClampNeg, 0))), (0, .inr (.inr (8, 5, 76))), (1, .inr (.inr (0, a1r, 0)))]) (st' := [.inr (.inr (20, (M.1 5 77 ((M.1 5 76 1) - (1 : Int32)).toNatClampNeg).toNatClampNeg, 0)), .inr (.inr (0, a1r, 0))]) (M' := M) rfl ?_
      refine xq_guard h (fun g2 h => ?_)
      refine xq_ext (j := 27) (as := [.inr (.inr (0, a1r, 0)), .inr (.inr (20, (M.1 5 77 ((M.1 5 76 1) - (1 : Int32)).toNatClampNeg).toNatClampNeg, 0))]) (pc' := 32) (ls' := [(2, .inr (.inr (20, (M.1 5 77 ((M.1 5 76 1) - (1 : Int32)).toNatClampNeg).toNatClampNeg, 0))), (0, .inr (.inr (8, 5, 76))), (1, .inr (.inr (0, a1r, 0)))]) (st' := []) (q := (none, xe_cp a1r (M.1 5 77 ((M.1 5 76 1) - (1 : Int32)).toNatClampNeg).toNatClampNeg M)) rfl rfl (if_pos g2) ?_
      refine xq_blk 7 (pc' := 43) (ls' := [(2, .inr (.inr (20, (M.1 5 77 ((M.1 5 76 1) - (1 : Int32)).toNatClampNeg).toNatClampNeg, 0))), (0, .inr (.inr (8, 5, 76))), (1, .inr (.inr (0, a1r, 0)))]) (st' := [.inl (1 : Int32)]) (M' := xd_up (xe_cp a1r (M.1 5 77 ((M.1 5 76 1) - (1 : Int32)).toNatClampNeg).toNatClampNeg M) 5 76 1 (((xe_cp a1r (M.1 5 77 ((M.1 5 76 1) - (1 : Int32)).toNatClampNeg).toNatClampNeg M).1 5 76 1) - (1 : Int32))) rfl ?_
      exact (hr _ (Option.some.inj h).symm) ▸ xq_ret rfl
theorem f_X2_takeBack_ok {X : List Int32} {a1r : Nat} {M : xM} {p : Int32 × xM} (h : f_X2_takeBack a1r M = some p) : xq X xe 30 0 [(0, .inr (.inr (8, 5, 76))), (1, .inr (.inr (0, a1r, 0)))] [] M ((some (.inl p.1), p.2) : xR) := f_X2_takeBack_run h (fun q e => by rw [e])
def f_X6_undo  (M : xM) : Option (Int32 × xM) := (f_X2_takeBack 2 M).bind (fun q1 => if q1.1 = (0 : Int32) then (some (((-5 : Int32), q1.2))) else (some ((q1.2.1 5 76 1, q1.2))))
theorem f_X6_undo_run {X : List Int32}  {M : xM} {p : Int32 × xM} {r : xR} (h : f_X6_undo  M = some p) (hr : ∀ q, p = q → ((some (.inl q.1), q.2) : xR) = r) : xq X xe 95 0 [(0, .inr (.inr (7, 5, 0)))] [] M r := by
  unfold f_X6_undo at h
  refine xq_blk 4 (pc' := 8) (ls' := [(0, .inr (.inr (7, 5, 0)))]) (st' := [.inr (.inr (0, 2, 0)), .inr (.inr (8, 5, 76))]) (M' := M) rfl ?_
  refine xq_bind h (fun q1 e2 h => ?_)
  refine xq_call (j := 30) (as := [.inr (.inr (8, 5, 76)), .inr (.inr (0, 2, 0))]) (pc' := 11) (ls' := [(0, .inr (.inr (7, 5, 0)))]) (st' := []) rfl rfl (f_X2_takeBack_ok e2) ?_
  refine xq_ite h (fun c3 h => ?_) (fun c3 h => ?_)
  · refine xq_core (pc' := 14) (ls' := [(0, .inr (.inr (7, 5, 0)))]) (st' := []) rfl (if_pos c3) ?_
    refine xq_blk 1 (pc' := 16) (ls' := [(0, .inr (.inr (7, 5, 0)))]) (st' := [.inl (-5 : Int32)]) (M' := q1.2) rfl ?_
    exact (hr _ (Option.some.inj h).symm) ▸ xq_ret rfl
  · refine xq_core (pc' := 17) (ls' := [(0, .inr (.inr (7, 5, 0)))]) (st' := []) rfl (if_neg c3) ?_
    refine xq_blk 3 (pc' := 24) (ls' := [(0, .inr (.inr (7, 5, 0)))]) (st' := [.inl (q1.2.1 5 76 1)]) (M' := q1.2) rfl ?_
    exact (hr _ (Option.some.inj h).symm) ▸ xq_ret rfl
theorem f_X6_undo_ok {X : List Int32}  {M : xM} {p : Int32 × xM} (h : f_X6_undo  M = some p) : xq X xe 95 0 [(0, .inr (.inr (7, 5, 0)))] [] M ((some (.inl p.1), p.2) : xR) := f_X6_undo_run h (fun q e => by rw [e])
def f_X6_save (a1 : Int32) (M : xM) : Option (Int32 × xM) := (f_X6_isFrom (0 : Int32) a1 (1 : Int32) M).bind (fun q1 => if q1 = (0 : Int32) then (some (((-2 : Int32), M))) else (if xp_in a1 2 = true then ((xe_ci ((M.1 5 78 a1.toNatClampNeg).toNatClampNeg) 2 M).bind (fun q4 => if xp_in a1 2 = true then (some (((xd_up q4.2 5 78 a1.toNatClampNeg (Int32.ofNat q4.1)).1 2 0 4, xd_up q4.2 5 78 a1.toNatClampNeg (Int32.ofNat q4.1)))) else none)) else none))
theorem f_X6_save_run {X : List Int32} {a1 : Int32} {M : xM} {p : Int32 × xM} {r : xR} (h : f_X6_save a1 M = some p) (hr : ∀ q, p = q → ((some (.inl q.1), q.2) : xR) = r) : xq X xe 96 0 [(0, .inr (.inr (7, 5, 0))), (1, .inl a1)] [] M r := by
  unfold f_X6_save at h
  refine xq_blk 3 (pc' := 3) (ls' := [(0, .inr (.inr (7, 5, 0))), (1, .inl a1)]) (st' := [.inl (1 : Int32), .inl a1, .inl (0 : Int32)]) (M' := M) rfl ?_
  refine xq_bind h (fun q1 e2 h => ?_)
  refine xq_call (j := 48) (as := [.inl (0 : Int32), .inl a1, .inl (1 : Int32)]) (pc' := 6) (ls' := [(0, .inr (.inr (7, 5, 0))), (1, .inl a1)]) (st' := []) rfl rfl (f_X6_isFrom_ok e2) ?_
  refine xq_ite h (fun c8 h => ?_) (fun c8 h => ?_)
  · refine xq_core (pc' := 9) (ls' := [(0, .inr (.inr (7, 5, 0))), (1, .inl a1)]) (st' := []) rfl (if_pos c8) ?_
    refine xq_blk 1 (pc' := 11) (ls' := [(0, .inr (.inr (7, 5, 0))), (1, .inl a1)]) (st' := [.inl (-2 : Int32)]) (M' := M) rfl ?_
    exact (hr _ (Option.some.inj h).symm) ▸ xq_ret rfl
  · refine xq_core (pc' := 12) (ls' := [(0, .inr (.inr (7, 5, 0))), (1, .inl a1)]) (st' := []) rfl (if_neg c8) ?_
    refine xq_blk 6 (pc' := 22) (ls' := [(0, .inr (.inr (7, 5, 0))), (1, .inl a1)]) (st' := [.inl a1, .inr (.inr (10, 5, 78)), .inl a1, .inr (.inr (10, 5, 78))]) (M' := M) rfl ?_
    refine xq_guard h (fun g3 h => ?_)
    refine xq_prim (st' := [.inr (.inr (20, (M.1 5 78 a1.toNatClampNeg).toNatClampNeg, 0)), .inl a1, .inr (.inr (10, 5, 78))]) (M' := M) rfl rfl rfl (xg_aald (by decide) rfl g3) ?_
    refine xq_blk 2 (pc' := 27) (ls' := [(0, .inr (.inr (7, 5, 0))), (1, .inl a1)]) (st' := [.inr (.inr (0, 2, 0)), .inr (.inr (20, (M.1 5 78 a1.toNatClampNeg).toNatClampNeg, 0)), .inl a1, .inr (.inr (10, 5, 78))]) (M' := M) rfl ?_
    refine xq_bind h (fun q4 e7 h => ?_)
    refine xq_ext (j := 28) (as := [.inr (.inr (20, (M.1 5 78 a1.toNatClampNeg).toNatClampNeg, 0)), .inr (.inr (0, 2, 0))]) (pc' := 30) (ls' := [(0, .inr (.inr (7, 5, 0))), (1, .inl a1)]) (st' := [.inl a1, .inr (.inr (10, 5, 78))]) (q := (some (.inr (.inr (0, q4.1, 0))), q4.2)) rfl rfl (xe_ci_ok e7) ?_
    refine xq_guard h (fun g5 h => ?_)
    refine xq_prim (st' := []) (M' := xd_up q4.2 5 78 a1.toNatClampNeg (Int32.ofNat q4.1)) rfl rfl rfl (xg_aast (by decide) rfl rfl g5) ?_
    refine xq_blk 3 (pc' := 38) (ls' := [(0, .inr (.inr (7, 5, 0))), (1, .inl a1)]) (st' := [.inl ((xd_up q4.2 5 78 a1.toNatClampNeg (Int32.ofNat q4.1)).1 2 0 4)]) (M' := xd_up q4.2 5 78 a1.toNatClampNeg (Int32.ofNat q4.1)) rfl ?_
    exact (hr _ (Option.some.inj h).symm) ▸ xq_ret rfl
theorem f_X6_save_ok {X : List Int32} {a1 : Int32} {M : xM} {p : Int32 × xM} (h : f_X6_save a1 M = some p) : xq X xe 96 0 [(0, .inr (.inr (7, 5, 0))), (1, .inl a1)] [] M ((some (.inl p.1), p.2) : xR) := f_X6_save_run h (fun q e => by rw [e])
def f_X6_restore (a1 : Int32) (M : xM) : Option (Int32 × xM) := (f_X6_isFrom (0 : Int32) a1 (1 : Int32) M).bind (fun q1 => if q1 = (0 : Int32) then (some (((-2 : Int32), M))) else (if xp_in a1 2 = true then (if xd_nul (20, (M.1 5 78 a1.toNatClampNeg).toNatClampNeg, 0) = true then (some (((-5 : Int32), M))) else (if ((M.1 5 78 a1.toNatClampNeg).toNatClampNeg != 0) = true then ((f_X6_recorded ((xe_cp 2 (M.1 5 78 a1.toNatClampNeg).toNatClampNeg (xe_cp 3 2 M)).1 2 0 4) (xe_cp 2 (M.1 5 78 a1.toNatClampNeg).toNatClampNeg (xe_cp 3 2 M))).bind (fun q5 => some ((q5.1, q5.2)))) else none)) else none))
theorem f_X6_restore_run {X : List Int32} {a1 : Int32} {M : xM} {p : Int32 × xM} {r : xR} (h : f_X6_restore a1 M = some p) (hr : ∀ q, p = q → ((some (.inl q.1), q.2) : xR) = r) : xq X xe 97 0 [(0, .inr (.inr (7, 5, 0))), (1, .inl a1)] [] M r := by
  unfold f_X6_restore at h
  refine xq_blk 3 (pc' := 3) (ls' := [(0, .inr (.inr (7, 5, 0))), (1, .inl a1)]) (st' := [.inl (1 : Int32), .inl a1, .inl (0 : Int32)]) (M' := M) rfl ?_
  refine xq_bind h (fun q1 e2 h => ?_)
  refine xq_call (j := 48) (as := [.inl (0 : Int32), .inl a1, .inl (1 : Int32)]) (pc' := 6) (ls' := [(0, .inr (.inr (7, 5, 0))), (1, .inl a1)]) (st' := []) rfl rfl (f_X6_isFrom_ok e2) ?_
  refine xq_ite h (fun c8 h => ?_) (fun c8 h => ?_)
  · refine xq_core (pc' := 9) (ls' := [(0, .inr (.inr (7, 5, 0))), (1, .inl a1)]) (st' := []) rfl (if_pos c8) ?_
    refine xq_blk 1 (pc' := 11) (ls' := [(0, .inr (.inr (7, 5, 0))), (1, .inl a1)]) (st' := [.inl (-2 : Int32)]) (M' := M) rfl ?_
    exact (hr _ (Option.some.inj h).symm) ▸ xq_ret rfl
  · refine xq_core (pc' := 12) (ls' := [(0, .inr (.inr (7, 5, 0))), (1, .inl a1)]) (st' := []) rfl (if_neg c8) ?_
    refine xq_blk 3 (pc' := 17) (ls' := [(0, .inr (.inr (7, 5, 0))), (1, .inl a1)]) (st' := [.inl a1, .inr (.inr (10, 5, 78))]) (M' := M) rfl ?_
    refine xq_guard h (fun g3 h => ?_)
    refine xq_prim (st' := [.inr (.inr (20, (M.1 5 78 a1.toNatClampNeg).toNatClampNeg, 0))]) (M' := M) rfl rfl rfl (xg_aald (by decide) rfl g3) ?_
    refine xq_blk 2 (pc' := 20) (ls' := [(2, .inr (.inr (20, (M.1 5 78 a1.toNatClampNeg).toNatClampNeg, 0))), (0, .inr (.inr (7, 5, 0))), (1, .inl a1)]) (st' := [.inr (.inr (20, (M.1 5 78 a1.toNatClampNeg).toNatClampNeg, 0))]) (M' := M) rfl ?_
    refine xq_ite h (fun c7 h => ?_) (fun c7 h => ?_)
    · refine xq_core (pc' := 23) (ls' := [(2, .inr (.inr (20, (M.1 5 78 a1.toNatClampNeg).toNatClampNeg, 0))), (0, .inr (.inr (7, 5, 0))), (1, .inl a1)]) (st' := []) rfl (if_pos c7) ?_
      refine xq_blk 1 (pc' := 25) (ls' := [(2, .inr (.inr (20, (M.1 5 78 a1.toNatClampNeg).toNatClampNeg, 0))), (0, .inr (.inr (7, 5, 0))), (1, .inl a1)]) (st' := [.inl (-5 : Int32)]) (M' := M) rfl ?_
      exact (hr _ (Option.some.inj h).symm) ▸ xq_ret rfl
    · refine xq_core (pc' := 26) (ls' := [(2, .inr (.inr (20, (M.1 5 78 a1.toNatClampNeg).toNatClampNeg, 0))), (0, .inr (.inr (7, 5, 0))), (1, .inl a1)]) (st' := []) rfl (if_neg c7) ?_
      refine xq_blk 4 (pc' := 34) (ls' := [(2, .inr (.inr (20, (M.1 5 78 a1.toNatClampNeg).toNatClampNeg, 0))), (0, .inr (.inr (7, 5, 0))), (1, .inl a1)]) (st' := [.inr (.inr (0, 2, 0)), .inr (.inr (0, 3, 0))]) (M' := M) rfl ?_
      refine xq_ext (j := 27) (as := [.inr (.inr (0, 3, 0)), .inr (.inr (0, 2, 0))]) (pc' := 37) (ls' := [(2, .inr (.inr (20, (M.1 5 78 a1.toNatClampNeg).toNatClampNeg, 0))), (0, .inr (.inr (7, 5, 0))), (1, .inl a1)]) (st' := []) (q := (none, xe_cp 3 2 M)) rfl rfl rfl ?_
      refine xq_blk 3 (pc' := 42) (ls' := [(2, .inr (.inr (20, (M.1 5 78 a1.toNatClampNeg).toNatClampNeg, 0))), (0, .inr (.inr (7, 5, 0))), (1, .inl a1)]) (st' := [.inr (.inr (20, (M.1 5 78 a1.toNatClampNeg).toNatClampNeg, 0)), .inr (.inr (0, 2, 0))]) (M' := xe_cp 3 2 M) rfl ?_
      refine xq_guard h (fun g4 h => ?_)
      refine xq_ext (j := 27) (as := [.inr (.inr (0, 2, 0)), .inr (.inr (20, (M.1 5 78 a1.toNatClampNeg).toNatClampNeg, 0))]) (pc' := 45) (ls' := [(2, .inr (.inr (20, (M.1 5 78 a1.toNatClampNeg).toNatClampNeg, 0))), (0, .inr (.inr (7, 5, 0))), (1, .inl a1)]) (st' := []) (q := (none, xe_cp 2 (M.1 5 78 a1.toNatClampNeg).toNatClampNeg (xe_cp 3 2 M))) rfl rfl (if_pos g4) ?_
      refine xq_blk 4 (pc' := 53) (ls' := [(2, .inr (.inr (20, (M.1 5 78 a1.toNatClampNeg).toNatClampNeg, 0))), (0, .inr (.inr (7, 5, 0))), (1, .inl a1)]) (st' := [.inl ((xe_cp 2 (M.1 5 78 a1.toNatClampNeg).toNatClampNeg (xe_cp 3 2 M)).1 2 0 4), .inr (.inr (7, 5, 0))]) (M' := xe_cp 2 (M.1 5 78 a1.toNatClampNeg).toNatClampNeg (xe_cp 3 2 M)) rfl ?_
      refine xq_bind h (fun q5 e6 h => ?_)
      refine xq_call (j := 75) (as := [.inr (.inr (7, 5, 0)), .inl ((xe_cp 2 (M.1 5 78 a1.toNatClampNeg).toNatClampNeg (xe_cp 3 2 M)).1 2 0 4)]) (pc' := 56) (ls' := [(2, .inr (.inr (20, (M.1 5 78 a1.toNatClampNeg).toNatClampNeg, 0))), (0, .inr (.inr (7, 5, 0))), (1, .inl a1)]) (st' := []) rfl rfl (f_X6_recorded_ok e6) ?_
      exact (hr _ (Option.some.inj h).symm) ▸ xq_ret rfl
theorem f_X6_restore_ok {X : List Int32} {a1 : Int32} {M : xM} {p : Int32 × xM} (h : f_X6_restore a1 M = some p) : xq X xe 97 0 [(0, .inr (.inr (7, 5, 0))), (1, .inl a1)] [] M ((some (.inl p.1), p.2) : xR) := f_X6_restore_run h (fun q e => by rw [e])
def f_L_cell (X : List Int32) (a1 : Int32) (M : xM) : Option (Int32) := if a1 < (Int32.ofNat (xp_stat X 0).length) then (if xp_in a1 (xp_stat X 0).length = true then (some (((xp_stat X 0).getD a1.toNatClampNeg 0))) else none) else (some ((((958344523 : Int32) * (a1 + (1 : Int32))) + (523124044 : Int32))))
theorem f_L_cell_run {X : List Int32} {a1 : Int32} {M : xM} {p : Int32} {r : xR} (h : f_L_cell X a1 M = some p) (hr : ∀ q, p = q → ((some (.inl q), M) : xR) = r) : xq X xe 98 0 [(0, .inr (.inr (18, 1, 0))), (1, .inl a1)] [] M r := by
  unfold f_L_cell at h
  refine xq_blk 3 (pc' := 3) (ls' := [(0, .inr (.inr (18, 1, 0))), (1, .inl a1)]) (st' := [.inl (Int32.ofNat (xp_stat X 0).length), .inl a1]) (M' := M) rfl ?_
  refine xq_ite h (fun c2 h => ?_) (fun c2 h => ?_)
  · refine xq_core (pc' := 6) (ls' := [(0, .inr (.inr (18, 1, 0))), (1, .inl a1)]) (st' := []) rfl (if_pos c2) ?_
    refine xq_blk 2 (pc' := 8) (ls' := [(0, .inr (.inr (18, 1, 0))), (1, .inl a1)]) (st' := [.inl a1, .inr (.inr (18, 1, 0))]) (M' := M) rfl ?_
    refine xq_guard h (fun g1 h => ?_)
    refine xq_prim (st' := [.inl ((xp_stat X 0).getD a1.toNatClampNeg 0)]) (M' := M) rfl rfl rfl (xg_aldc (Or.inl rfl) g1) ?_
    refine xq_blk 1 (pc' := 21) (ls' := [(0, .inr (.inr (18, 1, 0))), (1, .inl a1)]) (st' := [.inl ((xp_stat X 0).getD a1.toNatClampNeg 0)]) (M' := M) rfl ?_
    exact (hr _ (Option.some.inj h).symm) ▸ xq_ret rfl
  · refine xq_core (pc' := 12) (ls' := [(0, .inr (.inr (18, 1, 0))), (1, .inl a1)]) (st' := []) rfl (if_neg c2) ?_
    refine xq_blk 7 (pc' := 21) (ls' := [(0, .inr (.inr (18, 1, 0))), (1, .inl a1)]) (st' := [.inl (((958344523 : Int32) * (a1 + (1 : Int32))) + (523124044 : Int32))]) (M' := M) rfl ?_
    exact (hr _ (Option.some.inj h).symm) ▸ xq_ret rfl
theorem f_L_cell_ok {X : List Int32} {a1 : Int32} {M : xM} {p : Int32} (h : f_L_cell X a1 M = some p) : xq X xe 98 0 [(0, .inr (.inr (18, 1, 0))), (1, .inl a1)] [] M ((some (.inl p), M) : xR) := f_L_cell_run h (fun q e => by rw [e])
def f_L_low (a0 : Int32) (a1 : Int32) (M : xM) : Option (Int32) := if (a1 != 0) = true then (some (((a0 &&& (2147483647 : Int32)) - (a0 &&& (2147483647 : Int32)) / a1 * a1))) else none
theorem f_L_low_run {X : List Int32} {a0 : Int32} {a1 : Int32} {M : xM} {p : Int32} {r : xR} (h : f_L_low a0 a1 M = some p) (hr : ∀ q, p = q → ((some (.inl q), M) : xR) = r) : xq X xe 99 0 [(0, .inl a0), (1, .inl a1)] [] M r := by
  unfold f_L_low at h
  refine xq_blk 4 (pc' := 5) (ls' := [(0, .inl a0), (1, .inl a1)]) (st' := [.inl a1, .inl (a0 &&& (2147483647 : Int32))]) (M' := M) rfl ?_
  refine xq_guard h (fun g1 h => ?_)
  refine xq_core (pc' := 6) (ls' := [(0, .inl a0), (1, .inl a1)]) (st' := [.inl ((a0 &&& (2147483647 : Int32)) - (a0 &&& (2147483647 : Int32)) / a1 * a1)]) rfl (if_pos g1) ?_
  exact (hr _ (Option.some.inj h).symm) ▸ xq_ret rfl
theorem f_L_low_ok {X : List Int32} {a0 : Int32} {a1 : Int32} {M : xM} {p : Int32} (h : f_L_low a0 a1 M = some p) : xq X xe 99 0 [(0, .inl a0), (1, .inl a1)] [] M ((some (.inl p), M) : xR) := f_L_low_run h (fun q e => by rw [e])
def f_L_ones_l4  (M : xM) (s4 : Int32 × Int32) : Option ((Int32 × Int32) ⊕ (Int32)) := if (0 : Int32) < s4.2 then (some (.inl (s4.1 + (s4.2 - s4.2 / (2 : Int32) * (2 : Int32)), s4.2 / (2 : Int32)))) else (Option.map Sum.inr (some (s4.1)))
theorem f_L_ones_l4_ok {X : List Int32}  {M : xM} {s4 : Int32 × Int32} {p : (Int32 × Int32) ⊕ (Int32)} {r : xR} (h : f_L_ones_l4  M s4 = some p) (h0 : ∀ s', p = .inl s' → xq X xe 100 4 [(1, .inl s'.1), (2, .inl s'.2)] [] M r) (hr : ∀ q, p = .inr (q) → ((some (.inl q), M) : xR) = r) : xq X xe 100 4 [(1, .inl s4.1), (2, .inl s4.2)] [] M r := by
  unfold f_L_ones_l4 at h
  refine xq_blk 1 (pc' := 5) (ls' := [(1, .inl s4.1), (2, .inl s4.2)]) (st' := [.inl s4.2]) (M' := M) rfl ?_
  refine xq_ite h (fun c1 h => ?_) (fun c1 h => ?_)
  · refine xq_core (pc' := 8) (ls' := [(1, .inl s4.1), (2, .inl s4.2)]) (st' := []) rfl (if_pos c1) ?_
    refine xq_blk 10 (pc' := 18) (ls' := [(2, .inl (s4.2 / (2 : Int32))), (1, .inl (s4.1 + (s4.2 - s4.2 / (2 : Int32) * (2 : Int32))))]) (st' := []) (M' := M) rfl ?_
    refine xq_blk 1 (pc' := 4) (ls' := [(2, .inl (s4.2 / (2 : Int32))), (1, .inl (s4.1 + (s4.2 - s4.2 / (2 : Int32) * (2 : Int32))))]) (st' := []) (M' := M) rfl ?_
    exact xq_sub (a := [(1, .inl ((s4.1 + (s4.2 - s4.2 / (2 : Int32) * (2 : Int32)), s4.2 / (2 : Int32)).1)), (2, .inl ((s4.1 + (s4.2 - s4.2 / (2 : Int32) * (2 : Int32)), s4.2 / (2 : Int32)).2))]) ⟨rfl, rfl, trivial⟩ rfl (h0 (s4.1 + (s4.2 - s4.2 / (2 : Int32) * (2 : Int32)), s4.2 / (2 : Int32)) (Option.some.inj h).symm)
  · refine xq_core (pc' := 21) (ls' := [(1, .inl s4.1), (2, .inl s4.2)]) (st' := []) rfl (if_neg c1) ?_
    refine xq_map h (fun p h e => ?_)
    replace hr := fun q e' => hr q (e.symm.trans (congrArg Sum.inr e'))
    clear e
    refine xq_blk 1 (pc' := 22) (ls' := [(1, .inl s4.1), (2, .inl s4.2)]) (st' := [.inl s4.1]) (M' := M) rfl ?_
    exact (hr _ (Option.some.inj h).symm) ▸ xq_ret rfl
def f_L_ones (a0 : Int32) (M : xM) : Option (Int32) := xlp (f_L_ones_l4 M) 4000 ((0 : Int32), a0)
theorem f_L_ones_run {X : List Int32} {a0 : Int32} {M : xM} {p : Int32} {r : xR} (h : f_L_ones a0 M = some p) (hr : ∀ q, p = q → ((some (.inl q), M) : xR) = r) : xq X xe 100 0 [(0, .inl a0)] [] M r := by
  unfold f_L_ones at h
  refine xq_blk 4 (pc' := 4) (ls' := [(2, .inl a0), (1, .inl (0 : Int32)), (0, .inl a0)]) (st' := []) (M' := M) rfl ?_
  refine xq_sub (a := [(1, .inl (0 : Int32)), (2, .inl a0)]) ⟨rfl, rfl, trivial⟩ rfl ?_
  exact xlp_ok (P := fun s4 => xq X xe 100 4 [(1, .inl s4.1), (2, .inl s4.2)] [] M r) (fun s p' hb g0 g1 => f_L_ones_l4_ok hb g0 (fun q e => hr q (g1 _ e).symm)) 4000 _ h
theorem f_L_ones_ok {X : List Int32} {a0 : Int32} {M : xM} {p : Int32} (h : f_L_ones a0 M = some p) : xq X xe 100 0 [(0, .inl a0)] [] M ((some (.inl p), M) : xR) := f_L_ones_run h (fun q e => by rw [e])
def f_L_act_j140 (t0 : Int32) (t1 : Int32) (t2 : Int32) (t3 : Int32) (t4 : Int32) (M : xM) : Option (Int32 × xM) := (f_L_low t1 t0 M).bind (fun q11 => (f_X6_ask t4 t3 (t2 + q11) M).bind (fun q13 => some ((q13.1, q13.2))))
theorem f_L_act_j140_ok {X : List Int32} {t0 : Int32} {t1 : Int32} {t2 : Int32} {t3 : Int32} {t4 : Int32} {M : xM} {p : Int32 × xM} {r : xR} (h : f_L_act_j140 t0 t1 t2 t3 t4 M = some p) (hr : ∀ q, p = q → ((some (.inl q.1), q.2) : xR) = r) : xq X xe 101 140 [] [.inl t0, .inl t1, .inl t2, .inl t3, .inl t4, .inr (.inr (7, 5, 0))] M r := by
  unfold f_L_act_j140 at h
  refine xq_bind h (fun q11 e12 h => ?_)
  refine xq_call (j := 99) (as := [.inl t1, .inl t0]) (pc' := 143) (ls' := []) (st' := [.inl t2, .inl t3, .inl t4, .inr (.inr (7, 5, 0))]) rfl rfl (f_L_low_ok e12) ?_
  refine xq_blk 1 (pc' := 144) (ls' := []) (st' := [.inl (t2 + q11), .inl t3, .inl t4, .inr (.inr (7, 5, 0))]) (M' := M) rfl ?_
  refine xq_bind h (fun q13 e14 h => ?_)
  refine xq_call (j := 77) (as := [.inr (.inr (7, 5, 0)), .inl t4, .inl t3, .inl (t2 + q11)]) (pc' := 147) (ls' := []) (st' := []) rfl rfl (f_X6_ask_ok e14) ?_
  exact (hr _ (Option.some.inj h).symm) ▸ xq_ret rfl
def f_L_act_j223 (t0 : Int32) (t1 : Int32) (t2 : Int32) (M : xM) : Option (Int32 × xM) := (f_X6_use t2 t1 t0 M).bind (fun q62 => some ((q62.1, q62.2)))
theorem f_L_act_j223_ok {X : List Int32} {t0 : Int32} {t1 : Int32} {t2 : Int32} {M : xM} {p : Int32 × xM} {r : xR} (h : f_L_act_j223 t0 t1 t2 M = some p) (hr : ∀ q, p = q → ((some (.inl q.1), q.2) : xR) = r) : xq X xe 101 223 [] [.inl t0, .inl t1, .inl t2, .inr (.inr (7, 5, 0))] M r := by
  unfold f_L_act_j223 at h
  refine xq_bind h (fun q62 e63 h => ?_)
  refine xq_call (j := 85) (as := [.inr (.inr (7, 5, 0)), .inl t2, .inl t1, .inl t0]) (pc' := 226) (ls' := []) (st' := []) rfl rfl (f_X6_use_ok e63) ?_
  exact (hr _ (Option.some.inj h).symm) ▸ xq_ret rfl
def f_L_act_j32 (v1 : Int32) (v2 : Int32) (v3 : Int32) (t0 : Int32) (M : xM) : Option (Int32 × xM) := (f_L_low v1 (17 : Int32) M).bind (fun q7 => if q7 = (0 : Int32) then ((f_L_low (v2 >>> ((7 : Int32) &&& (31 : Int32))) (4 : Int32) M).bind (fun q9 => if q9 = (0 : Int32) then (f_L_act_j140 (99 : Int32) v2 (1 : Int32) t0 v3 M) else (f_L_act_j140 (12 : Int32) v2 (1 : Int32) t0 v3 M))) else (if q7 = (1 : Int32) then ((f_L_low (v2 >>> ((7 : Int32) &&& (31 : Int32))) (4 : Int32) M).bind (fun q17 => if q17 = (0 : Int32) then (f_L_act_j140 (99 : Int32) v2 (1 : Int32) t0 v3 M) else (f_L_act_j140 (12 : Int32) v2 (1 : Int32) t0 v3 M))) else (if q7 = (2 : Int32) then ((f_L_low (v2 >>> ((7 : Int32) &&& (31 : Int32))) (4 : Int32) M).bind (fun q21 => if q21 = (0 : Int32) then (f_L_act_j140 (99 : Int32) v2 (1 : Int32) t0 v3 M) else (f_L_act_j140 (12 : Int32) v2 (1 : Int32) t0 v3 M))) else (if q7 = (3 : Int32) then ((f_L_low (v2 >>> ((7 : Int32) &&& (31 : Int32))) (4 : Int32) M).bind (fun q25 => if q25 = (0 : Int32) then (f_L_act_j140 (99 : Int32) v2 (1 : Int32) t0 v3 M) else (f_L_act_j140 (12 : Int32) v2 (1 : Int32) t0 v3 M))) else (if q7 = (4 : Int32) then ((f_X6_giveUp v3 M).bind (fun q29 => some ((q29.1, q29.2)))) else (if q7 = (5 : Int32) then ((f_L_low v2 (9 : Int32) M).bind (fun q32 => (f_X6_prolong v3 ((1 : Int32) + q32) M).bind (fun q34 => some ((q34.1, q34.2))))) else (if q7 = (6 : Int32) then ((f_X6_park v3 M).bind (fun q37 => some ((q37.1, q37.2)))) else (if q7 = (7 : Int32) then ((f_X6_park v3 M).bind (fun q40 => some ((q40.1, q40.2)))) else (if q7 = (8 : Int32) then ((f_X6_park v3 M).bind (fun q43 => some ((q43.1, q43.2)))) else (if q7 = (9 : Int32) then ((f_X6_ride v3 M).bind (fun q46 => some ((q46.1, q46.2)))) else (if q7 = (10 : Int32) then ((f_X6_answer v3 M).bind (fun q49 => some ((q49.1, q49.2)))) else (if q7 = (11 : Int32) then ((f_X6_fetch v3 M).bind (fun q52 => some ((q52.1, q52.2)))) else (if q7 = (12 : Int32) then ((f_X6_sweep t0 M).bind (fun q55 => some ((q55.1, q55.2)))) else (if q7 = (13 : Int32) then ((f_L_low v2 (8 : Int32) M).bind (fun q58 => (f_L_low (v2 >>> ((3 : Int32) &&& (31 : Int32))) (3 : Int32) M).bind (fun q60 => if q60 = (0 : Int32) then (f_L_act_j223 (1 : Int32) q58 t0 M) else (f_L_act_j223 (0 : Int32) q58 t0 M)))) else (if q7 = (14 : Int32) then ((f_L_low v2 (4 : Int32) M).bind (fun q66 => (f_L_low (v2 >>> ((2 : Int32) &&& (31 : Int32))) (12 : Int32) M).bind (fun q68 => (f_X6_set q66 q68 M).bind (fun q70 => some ((q70.1, q70.2)))))) else ((f_L_low v2 (6 : Int32) M).bind (fun q73 => (f_X6_pass ((1 : Int32) + q73) M).bind (fun q75 => some ((q75.1, q75.2))))))))))))))))))))
theorem f_L_act_j32_ok {X : List Int32} {v1 : Int32} {v2 : Int32} {v3 : Int32} {t0 : Int32} {M : xM} {p : Int32 × xM} {r : xR} (h : f_L_act_j32 v1 v2 v3 t0 M = some p) (hr : ∀ q, p = q → ((some (.inl q.1), q.2) : xR) = r) : xq X xe 101 32 [(0, .inr (.inr (7, 5, 0))), (1, .inl v1), (2, .inl v2), (3, .inl v3)] [.inl t0] M r := by
  unfold f_L_act_j32 at h
  refine xq_blk 3 (pc' := 37) (ls' := [(4, .inl t0), (0, .inr (.inr (7, 5, 0))), (1, .inl v1), (2, .inl v2), (3, .inl v3)]) (st' := [.inl (17 : Int32), .inl v1]) (M' := M) rfl ?_
  refine xq_bind h (fun q7 e8 h => ?_)
  refine xq_call (j := 99) (as := [.inl v1, .inl (17 : Int32)]) (pc' := 40) (ls' := [(4, .inl t0), (0, .inr (.inr (7, 5, 0))), (1, .inl v1), (2, .inl v2), (3, .inl v3)]) (st' := []) rfl rfl (f_L_low_ok e8) ?_
  refine xq_ite h (fun c16 h => ?_) (fun c16 h => ?_)
  · refine xq_tsw (pc' := 116) (ls' := [(4, .inl t0), (0, .inr (.inr (7, 5, 0))), (1, .inl v1), (2, .inl v2), (3, .inl v3)]) (st' := []) rfl rfl (if_pos c16) ?_
    refine xq_blk 9 (pc' := 127) (ls' := [(4, .inl t0), (0, .inr (.inr (7, 5, 0))), (1, .inl v1), (2, .inl v2), (3, .inl v3)]) (st' := [.inl (4 : Int32), .inl (v2 >>> ((7 : Int32) &&& (31 : Int32))), .inl v2, .inl (1 : Int32), .inl t0, .inl v3, .inr (.inr (7, 5, 0))]) (M' := M) rfl ?_
    refine xq_bind h (fun q9 e10 h => ?_)
    refine xq_call (j := 99) (as := [.inl (v2 >>> ((7 : Int32) &&& (31 : Int32))), .inl (4 : Int32)]) (pc' := 130) (ls' := [(4, .inl t0), (0, .inr (.inr (7, 5, 0))), (1, .inl v1), (2, .inl v2), (3, .inl v3)]) (st' := [.inl v2, .inl (1 : Int32), .inl t0, .inl v3, .inr (.inr (7, 5, 0))]) rfl rfl (f_L_low_ok e10) ?_
    refine xq_ite h (fun c15 h => ?_) (fun c15 h => ?_)
    · refine xq_core (pc' := 133) (ls' := [(4, .inl t0), (0, .inr (.inr (7, 5, 0))), (1, .inl v1), (2, .inl v2), (3, .inl v3)]) (st' := [.inl v2, .inl (1 : Int32), .inl t0, .inl v3, .inr (.inr (7, 5, 0))]) rfl (if_pos c15) ?_
      refine xq_blk 2 (pc' := 140) (ls' := [(4, .inl t0), (0, .inr (.inr (7, 5, 0))), (1, .inl v1), (2, .inl v2), (3, .inl v3)]) (st' := [.inl (99 : Int32), .inl v2, .inl (1 : Int32), .inl t0, .inl v3, .inr (.inr (7, 5, 0))]) (M' := M) rfl ?_
      exact xq_sub (a := []) trivial rfl (f_L_act_j140_ok h hr)
    · refine xq_core (pc' := 138) (ls' := [(4, .inl t0), (0, .inr (.inr (7, 5, 0))), (1, .inl v1), (2, .inl v2), (3, .inl v3)]) (st' := [.inl v2, .inl (1 : Int32), .inl t0, .inl v3, .inr (.inr (7, 5, 0))]) rfl (if_neg c15) ?_
      refine xq_blk 1 (pc' := 140) (ls' := [(4, .inl t0), (0, .inr (.inr (7, 5, 0))), (1, .inl v1), (2, .inl v2), (3, .inl v3)]) (st' := [.inl (12 : Int32), .inl v2, .inl (1 : Int32), .inl t0, .inl v3, .inr (.inr (7, 5, 0))]) (M' := M) rfl ?_
      exact xq_sub (a := []) trivial rfl (f_L_act_j140_ok h hr)
  · refine xq_ite h (fun c20 h => ?_) (fun c20 h => ?_)
    · refine xq_tsw (pc' := 116) (ls' := [(4, .inl t0), (0, .inr (.inr (7, 5, 0))), (1, .inl v1), (2, .inl v2), (3, .inl v3)]) (st' := []) rfl rfl (Eq.trans (if_neg c16) (if_pos c20)) ?_
      refine xq_blk 9 (pc' := 127) (ls' := [(4, .inl t0), (0, .inr (.inr (7, 5, 0))), (1, .inl v1), (2, .inl v2), (3, .inl v3)]) (st' := [.inl (4 : Int32), .inl (v2 >>> ((7 : Int32) &&& (31 : Int32))), .inl v2, .inl (1 : Int32), .inl t0, .inl v3, .inr (.inr (7, 5, 0))]) (M' := M) rfl ?_
      refine xq_bind h (fun q17 e18 h => ?_)
      refine xq_call (j := 99) (as := [.inl (v2 >>> ((7 : Int32) &&& (31 : Int32))), .inl (4 : Int32)]) (pc' := 130) (ls' := [(4, .inl t0), (0, .inr (.inr (7, 5, 0))), (1, .inl v1), (2, .inl v2), (3, .inl v3)]) (st' := [.inl v2, .inl (1 : Int32), .inl t0, .inl v3, .inr (.inr (7, 5, 0))]) rfl rfl (f_L_low_ok e18) ?_
      refine xq_ite h (fun c19 h => ?_) (fun c19 h => ?_)
      · refine xq_core (pc' := 133) (ls' := [(4, .inl t0), (0, .inr (.inr (7, 5, 0))), (1, .inl v1), (2, .inl v2), (3, .inl v3)]) (st' := [.inl v2, .inl (1 : Int32), .inl t0, .inl v3, .inr (.inr (7, 5, 0))]) rfl (if_pos c19) ?_
        refine xq_blk 2 (pc' := 140) (ls' := [(4, .inl t0), (0, .inr (.inr (7, 5, 0))), (1, .inl v1), (2, .inl v2), (3, .inl v3)]) (st' := [.inl (99 : Int32), .inl v2, .inl (1 : Int32), .inl t0, .inl v3, .inr (.inr (7, 5, 0))]) (M' := M) rfl ?_
        exact xq_sub (a := []) trivial rfl (f_L_act_j140_ok h hr)
      · refine xq_core (pc' := 138) (ls' := [(4, .inl t0), (0, .inr (.inr (7, 5, 0))), (1, .inl v1), (2, .inl v2), (3, .inl v3)]) (st' := [.inl v2, .inl (1 : Int32), .inl t0, .inl v3, .inr (.inr (7, 5, 0))]) rfl (if_neg c19) ?_
        refine xq_blk 1 (pc' := 140) (ls' := [(4, .inl t0), (0, .inr (.inr (7, 5, 0))), (1, .inl v1), (2, .inl v2), (3, .inl v3)]) (st' := [.inl (12 : Int32), .inl v2, .inl (1 : Int32), .inl t0, .inl v3, .inr (.inr (7, 5, 0))]) (M' := M) rfl ?_
        exact xq_sub (a := []) trivial rfl (f_L_act_j140_ok h hr)
    · refine xq_ite h (fun c24 h => ?_) (fun c24 h => ?_)
      · refine xq_tsw (pc' := 116) (ls' := [(4, .inl t0), (0, .inr (.inr (7, 5, 0))), (1, .inl v1), (2, .inl v2), (3, .inl v3)]) (st' := []) rfl rfl (Eq.trans (if_neg c16) (Eq.trans (if_neg c20) (if_pos c24))) ?_
        refine xq_blk 9 (pc' := 127) (ls' := [(4, .inl t0), (0, .inr (.inr (7, 5, 0))), (1, .inl v1), (2, .inl v2), (3, .inl v3)]) (st' := [.inl (4 : Int32), .inl (v2 >>> ((7 : Int32) &&& (31 : Int32))), .inl v2, .inl (1 : Int32), .inl t0, .inl v3, .inr (.inr (7, 5, 0))]) (M' := M) rfl ?_
        refine xq_bind h (fun q21 e22 h => ?_)
        refine xq_call (j := 99) (as := [.inl (v2 >>> ((7 : Int32) &&& (31 : Int32))), .inl (4 : Int32)]) (pc' := 130) (ls' := [(4, .inl t0), (0, .inr (.inr (7, 5, 0))), (1, .inl v1), (2, .inl v2), (3, .inl v3)]) (st' := [.inl v2, .inl (1 : Int32), .inl t0, .inl v3, .inr (.inr (7, 5, 0))]) rfl rfl (f_L_low_ok e22) ?_
        refine xq_ite h (fun c23 h => ?_) (fun c23 h => ?_)
        · refine xq_core (pc' := 133) (ls' := [(4, .inl t0), (0, .inr (.inr (7, 5, 0))), (1, .inl v1), (2, .inl v2), (3, .inl v3)]) (st' := [.inl v2, .inl (1 : Int32), .inl t0, .inl v3, .inr (.inr (7, 5, 0))]) rfl (if_pos c23) ?_
          refine xq_blk 2 (pc' := 140) (ls' := [(4, .inl t0), (0, .inr (.inr (7, 5, 0))), (1, .inl v1), (2, .inl v2), (3, .inl v3)]) (st' := [.inl (99 : Int32), .inl v2, .inl (1 : Int32), .inl t0, .inl v3, .inr (.inr (7, 5, 0))]) (M' := M) rfl ?_
          exact xq_sub (a := []) trivial rfl (f_L_act_j140_ok h hr)
        · refine xq_core (pc' := 138) (ls' := [(4, .inl t0), (0, .inr (.inr (7, 5, 0))), (1, .inl v1), (2, .inl v2), (3, .inl v3)]) (st' := [.inl v2, .inl (1 : Int32), .inl t0, .inl v3, .inr (.inr (7, 5, 0))]) rfl (if_neg c23) ?_
          refine xq_blk 1 (pc' := 140) (ls' := [(4, .inl t0), (0, .inr (.inr (7, 5, 0))), (1, .inl v1), (2, .inl v2), (3, .inl v3)]) (st' := [.inl (12 : Int32), .inl v2, .inl (1 : Int32), .inl t0, .inl v3, .inr (.inr (7, 5, 0))]) (M' := M) rfl ?_
          exact xq_sub (a := []) trivial rfl (f_L_act_j140_ok h hr)
      · refine xq_ite h (fun c28 h => ?_) (fun c28 h => ?_)
        · refine xq_tsw (pc' := 116) (ls' := [(4, .inl t0), (0, .inr (.inr (7, 5, 0))), (1, .inl v1), (2, .inl v2), (3, .inl v3)]) (st' := []) rfl rfl (Eq.trans (if_neg c16) (Eq.trans (if_neg c20) (Eq.trans (if_neg c24) (if_pos c28)))) ?_
          refine xq_blk 9 (pc' := 127) (ls' := [(4, .inl t0), (0, .inr (.inr (7, 5, 0))), (1, .inl v1), (2, .inl v2), (3, .inl v3)]) (st' := [.inl (4 : Int32), .inl (v2 >>> ((7 : Int32) &&& (31 : Int32))), .inl v2, .inl (1 : Int32), .inl t0, .inl v3, .inr (.inr (7, 5, 0))]) (M' := M) rfl ?_
          refine xq_bind h (fun q25 e26 h => ?_)
          refine xq_call (j := 99) (as := [.inl (v2 >>> ((7 : Int32) &&& (31 : Int32))), .inl (4 : Int32)]) (pc' := 130) (ls' := [(4, .inl t0), (0, .inr (.inr (7, 5, 0))), (1, .inl v1), (2, .inl v2), (3, .inl v3)]) (st' := [.inl v2, .inl (1 : Int32), .inl t0, .inl v3, .inr (.inr (7, 5, 0))]) rfl rfl (f_L_low_ok e26) ?_
          refine xq_ite h (fun c27 h => ?_) (fun c27 h => ?_)
          · refine xq_core (pc' := 133) (ls' := [(4, .inl t0), (0, .inr (.inr (7, 5, 0))), (1, .inl v1), (2, .inl v2), (3, .inl v3)]) (st' := [.inl v2, .inl (1 : Int32), .inl t0, .inl v3, .inr (.inr (7, 5, 0))]) rfl (if_pos c27) ?_
            refine xq_blk 2 (pc' := 140) (ls' := [(4, .inl t0), (0, .inr (.inr (7, 5, 0))), (1, .inl v1), (2, .inl v2), (3, .inl v3)]) (st' := [.inl (99 : Int32), .inl v2, .inl (1 : Int32), .inl t0, .inl v3, .inr (.inr (7, 5, 0))]) (M' := M) rfl ?_
            exact xq_sub (a := []) trivial rfl (f_L_act_j140_ok h hr)
          · refine xq_core (pc' := 138) (ls' := [(4, .inl t0), (0, .inr (.inr (7, 5, 0))), (1, .inl v1), (2, .inl v2), (3, .inl v3)]) (st' := [.inl v2, .inl (1 : Int32), .inl t0, .inl v3, .inr (.inr (7, 5, 0))]) rfl (if_neg c27) ?_
            refine xq_blk 1 (pc' := 140) (ls' := [(4, .inl t0), (0, .inr (.inr (7, 5, 0))), (1, .inl v1), (2, .inl v2), (3, .inl v3)]) (st' := [.inl (12 : Int32), .inl v2, .inl (1 : Int32), .inl t0, .inl v3, .inr (.inr (7, 5, 0))]) (M' := M) rfl ?_
            exact xq_sub (a := []) trivial rfl (f_L_act_j140_ok h hr)
        · refine xq_ite h (fun c31 h => ?_) (fun c31 h => ?_)
          · refine xq_tsw (pc' := 148) (ls' := [(4, .inl t0), (0, .inr (.inr (7, 5, 0))), (1, .inl v1), (2, .inl v2), (3, .inl v3)]) (st' := []) rfl rfl (Eq.trans (if_neg c16) (Eq.trans (if_neg c20) (Eq.trans (if_neg c24) (Eq.trans (if_neg c28) (if_pos c31))))) ?_
            refine xq_blk 2 (pc' := 150) (ls' := [(4, .inl t0), (0, .inr (.inr (7, 5, 0))), (1, .inl v1), (2, .inl v2), (3, .inl v3)]) (st' := [.inl v3, .inr (.inr (7, 5, 0))]) (M' := M) rfl ?_
            refine xq_bind h (fun q29 e30 h => ?_)
            refine xq_call (j := 78) (as := [.inr (.inr (7, 5, 0)), .inl v3]) (pc' := 153) (ls' := [(4, .inl t0), (0, .inr (.inr (7, 5, 0))), (1, .inl v1), (2, .inl v2), (3, .inl v3)]) (st' := []) rfl rfl (f_X6_giveUp_ok e30) ?_
            exact (hr _ (Option.some.inj h).symm) ▸ xq_ret rfl
          · refine xq_ite h (fun c36 h => ?_) (fun c36 h => ?_)
            · refine xq_tsw (pc' := 154) (ls' := [(4, .inl t0), (0, .inr (.inr (7, 5, 0))), (1, .inl v1), (2, .inl v2), (3, .inl v3)]) (st' := []) rfl rfl (Eq.trans (if_neg c16) (Eq.trans (if_neg c20) (Eq.trans (if_neg c24) (Eq.trans (if_neg c28) (Eq.trans (if_neg c31) (if_pos c36)))))) ?_
              refine xq_blk 5 (pc' := 160) (ls' := [(4, .inl t0), (0, .inr (.inr (7, 5, 0))), (1, .inl v1), (2, .inl v2), (3, .inl v3)]) (st' := [.inl (9 : Int32), .inl v2, .inl (1 : Int32), .inl v3, .inr (.inr (7, 5, 0))]) (M' := M) rfl ?_
              refine xq_bind h (fun q32 e33 h => ?_)
              refine xq_call (j := 99) (as := [.inl v2, .inl (9 : Int32)]) (pc' := 163) (ls' := [(4, .inl t0), (0, .inr (.inr (7, 5, 0))), (1, .inl v1), (2, .inl v2), (3, .inl v3)]) (st' := [.inl (1 : Int32), .inl v3, .inr (.inr (7, 5, 0))]) rfl rfl (f_L_low_ok e33) ?_
              refine xq_blk 1 (pc' := 164) (ls' := [(4, .inl t0), (0, .inr (.inr (7, 5, 0))), (1, .inl v1), (2, .inl v2), (3, .inl v3)]) (st' := [.inl ((1 : Int32) + q32), .inl v3, .inr (.inr (7, 5, 0))]) (M' := M) rfl ?_
              refine xq_bind h (fun q34 e35 h => ?_)
              refine xq_call (j := 79) (as := [.inr (.inr (7, 5, 0)), .inl v3, .inl ((1 : Int32) + q32)]) (pc' := 167) (ls' := [(4, .inl t0), (0, .inr (.inr (7, 5, 0))), (1, .inl v1), (2, .inl v2), (3, .inl v3)]) (st' := []) rfl rfl (f_X6_prolong_ok e35) ?_
              exact (hr _ (Option.some.inj h).symm) ▸ xq_ret rfl
            · refine xq_ite h (fun c39 h => ?_) (fun c39 h => ?_)
              · refine xq_tsw (pc' := 168) (ls' := [(4, .inl t0), (0, .inr (.inr (7, 5, 0))), (1, .inl v1), (2, .inl v2), (3, .inl v3)]) (st' := []) rfl rfl (Eq.trans (if_neg c16) (Eq.trans (if_neg c20) (Eq.trans (if_neg c24) (Eq.trans (if_neg c28) (Eq.trans (if_neg c31) (Eq.trans (if_neg c36) (if_pos c39))))))) ?_
                refine xq_blk 2 (pc' := 170) (ls' := [(4, .inl t0), (0, .inr (.inr (7, 5, 0))), (1, .inl v1), (2, .inl v2), (3, .inl v3)]) (st' := [.inl v3, .inr (.inr (7, 5, 0))]) (M' := M) rfl ?_
                refine xq_bind h (fun q37 e38 h => ?_)
                refine xq_call (j := 80) (as := [.inr (.inr (7, 5, 0)), .inl v3]) (pc' := 173) (ls' := [(4, .inl t0), (0, .inr (.inr (7, 5, 0))), (1, .inl v1), (2, .inl v2), (3, .inl v3)]) (st' := []) rfl rfl (f_X6_park_ok e38) ?_
                exact (hr _ (Option.some.inj h).symm) ▸ xq_ret rfl
              · refine xq_ite h (fun c42 h => ?_) (fun c42 h => ?_)
                · refine xq_tsw (pc' := 168) (ls' := [(4, .inl t0), (0, .inr (.inr (7, 5, 0))), (1, .inl v1), (2, .inl v2), (3, .inl v3)]) (st' := []) rfl rfl (Eq.trans (if_neg c16) (Eq.trans (if_neg c20) (Eq.trans (if_neg c24) (Eq.trans (if_neg c28) (Eq.trans (if_neg c31) (Eq.trans (if_neg c36) (Eq.trans (if_neg c39) (if_pos c42)))))))) ?_
                  refine xq_blk 2 (pc' := 170) (ls' := [(4, .inl t0), (0, .inr (.inr (7, 5, 0))), (1, .inl v1), (2, .inl v2), (3, .inl v3)]) (st' := [.inl v3, .inr (.inr (7, 5, 0))]) (M' := M) rfl ?_
                  refine xq_bind h (fun q40 e41 h => ?_)
                  refine xq_call (j := 80) (as := [.inr (.inr (7, 5, 0)), .inl v3]) (pc' := 173) (ls' := [(4, .inl t0), (0, .inr (.inr (7, 5, 0))), (1, .inl v1), (2, .inl v2), (3, .inl v3)]) (st' := []) rfl rfl (f_X6_park_ok e41) ?_
                  exact (hr _ (Option.some.inj h).symm) ▸ xq_ret rfl
                · refine xq_ite h (fun c45 h => ?_) (fun c45 h => ?_)
                  · refine xq_tsw (pc' := 168) (ls' := [(4, .inl t0), (0, .inr (.inr (7, 5, 0))), (1, .inl v1), (2, .inl v2), (3, .inl v3)]) (st' := []) rfl rfl (Eq.trans (if_neg c16) (Eq.trans (if_neg c20) (Eq.trans (if_neg c24) (Eq.trans (if_neg c28) (Eq.trans (if_neg c31) (Eq.trans (if_neg c36) (Eq.trans (if_neg c39) (Eq.trans (if_neg c42) (if_pos c45))))))))) ?_
                    refine xq_blk 2 (pc' := 170) (ls' := [(4, .inl t0), (0, .inr (.inr (7, 5, 0))), (1, .inl v1), (2, .inl v2), (3, .inl v3)]) (st' := [.inl v3, .inr (.inr (7, 5, 0))]) (M' := M) rfl ?_
                    refine xq_bind h (fun q43 e44 h => ?_)
                    refine xq_call (j := 80) (as := [.inr (.inr (7, 5, 0)), .inl v3]) (pc' := 173) (ls' := [(4, .inl t0), (0, .inr (.inr (7, 5, 0))), (1, .inl v1), (2, .inl v2), (3, .inl v3)]) (st' := []) rfl rfl (f_X6_park_ok e44) ?_
                    exact (hr _ (Option.some.inj h).symm) ▸ xq_ret rfl
                  · refine xq_ite h (fun c48 h => ?_) (fun c48 h => ?_)
                    · refine xq_tsw (pc' := 174) (ls' := [(4, .inl t0), (0, .inr (.inr (7, 5, 0))), (1, .inl v1), (2, .inl v2), (3, .inl v3)]) (st' := []) rfl rfl (Eq.trans (if_neg c16) (Eq.trans (if_neg c20) (Eq.trans (if_neg c24) (Eq.trans (if_neg c28) (Eq.trans (if_neg c31) (Eq.trans (if_neg c36) (Eq.trans (if_neg c39) (Eq.trans (if_neg c42) (Eq.trans (if_neg c45) (if_pos c48)))))))))) ?_
                      refine xq_blk 2 (pc' := 176) (ls' := [(4, .inl t0), (0, .inr (.inr (7, 5, 0))), (1, .inl v1), (2, .inl v2), (3, .inl v3)]) (st' := [.inl v3, .inr (.inr (7, 5, 0))]) (M' := M) rfl ?_
                      refine xq_bind h (fun q46 e47 h => ?_)
                      refine xq_call (j := 81) (as := [.inr (.inr (7, 5, 0)), .inl v3]) (pc' := 179) (ls' := [(4, .inl t0), (0, .inr (.inr (7, 5, 0))), (1, .inl v1), (2, .inl v2), (3, .inl v3)]) (st' := []) rfl rfl (f_X6_ride_ok e47) ?_
                      exact (hr _ (Option.some.inj h).symm) ▸ xq_ret rfl
                    · refine xq_ite h (fun c51 h => ?_) (fun c51 h => ?_)
                      · refine xq_tsw (pc' := 180) (ls' := [(4, .inl t0), (0, .inr (.inr (7, 5, 0))), (1, .inl v1), (2, .inl v2), (3, .inl v3)]) (st' := []) rfl rfl (Eq.trans (if_neg c16) (Eq.trans (if_neg c20) (Eq.trans (if_neg c24) (Eq.trans (if_neg c28) (Eq.trans (if_neg c31) (Eq.trans (if_neg c36) (Eq.trans (if_neg c39) (Eq.trans (if_neg c42) (Eq.trans (if_neg c45) (Eq.trans (if_neg c48) (if_pos c51))))))))))) ?_
                        refine xq_blk 2 (pc' := 182) (ls' := [(4, .inl t0), (0, .inr (.inr (7, 5, 0))), (1, .inl v1), (2, .inl v2), (3, .inl v3)]) (st' := [.inl v3, .inr (.inr (7, 5, 0))]) (M' := M) rfl ?_
                        refine xq_bind h (fun q49 e50 h => ?_)
                        refine xq_call (j := 82) (as := [.inr (.inr (7, 5, 0)), .inl v3]) (pc' := 185) (ls' := [(4, .inl t0), (0, .inr (.inr (7, 5, 0))), (1, .inl v1), (2, .inl v2), (3, .inl v3)]) (st' := []) rfl rfl (f_X6_answer_ok e50) ?_
                        exact (hr _ (Option.some.inj h).symm) ▸ xq_ret rfl
                      · refine xq_ite h (fun c54 h => ?_) (fun c54 h => ?_)
                        · refine xq_tsw (pc' := 186) (ls' := [(4, .inl t0), (0, .inr (.inr (7, 5, 0))), (1, .inl v1), (2, .inl v2), (3, .inl v3)]) (st' := []) rfl rfl (Eq.trans (if_neg c16) (Eq.trans (if_neg c20) (Eq.trans (if_neg c24) (Eq.trans (if_neg c28) (Eq.trans (if_neg c31) (Eq.trans (if_neg c36) (Eq.trans (if_neg c39) (Eq.trans (if_neg c42) (Eq.trans (if_neg c45) (Eq.trans (if_neg c48) (Eq.trans (if_neg c51) (if_pos c54)))))))))))) ?_
                          refine xq_blk 2 (pc' := 188) (ls' := [(4, .inl t0), (0, .inr (.inr (7, 5, 0))), (1, .inl v1), (2, .inl v2), (3, .inl v3)]) (st' := [.inl v3, .inr (.inr (7, 5, 0))]) (M' := M) rfl ?_
                          refine xq_bind h (fun q52 e53 h => ?_)
                          refine xq_call (j := 83) (as := [.inr (.inr (7, 5, 0)), .inl v3]) (pc' := 191) (ls' := [(4, .inl t0), (0, .inr (.inr (7, 5, 0))), (1, .inl v1), (2, .inl v2), (3, .inl v3)]) (st' := []) rfl rfl (f_X6_fetch_ok e53) ?_
                          exact (hr _ (Option.some.inj h).symm) ▸ xq_ret rfl
                        · refine xq_ite h (fun c57 h => ?_) (fun c57 h => ?_)
                          · refine xq_tsw (pc' := 192) (ls' := [(4, .inl t0), (0, .inr (.inr (7, 5, 0))), (1, .inl v1), (2, .inl v2), (3, .inl v3)]) (st' := []) rfl rfl (Eq.trans (if_neg c16) (Eq.trans (if_neg c20) (Eq.trans (if_neg c24) (Eq.trans (if_neg c28) (Eq.trans (if_neg c31) (Eq.trans (if_neg c36) (Eq.trans (if_neg c39) (Eq.trans (if_neg c42) (Eq.trans (if_neg c45) (Eq.trans (if_neg c48) (Eq.trans (if_neg c51) (Eq.trans (if_neg c54) (if_pos c57))))))))))))) ?_
                            refine xq_blk 2 (pc' := 195) (ls' := [(4, .inl t0), (0, .inr (.inr (7, 5, 0))), (1, .inl v1), (2, .inl v2), (3, .inl v3)]) (st' := [.inl t0, .inr (.inr (7, 5, 0))]) (M' := M) rfl ?_
                            refine xq_bind h (fun q55 e56 h => ?_)
                            refine xq_call (j := 84) (as := [.inr (.inr (7, 5, 0)), .inl t0]) (pc' := 198) (ls' := [(4, .inl t0), (0, .inr (.inr (7, 5, 0))), (1, .inl v1), (2, .inl v2), (3, .inl v3)]) (st' := []) rfl rfl (f_X6_sweep_ok e56) ?_
                            exact (hr _ (Option.some.inj h).symm) ▸ xq_ret rfl
                          · refine xq_ite h (fun c65 h => ?_) (fun c65 h => ?_)
                            · refine xq_tsw (pc' := 199) (ls' := [(4, .inl t0), (0, .inr (.inr (7, 5, 0))), (1, .inl v1), (2, .inl v2), (3, .inl v3)]) (st' := []) rfl rfl (Eq.trans (if_neg c16) (Eq.trans (if_neg c20) (Eq.trans (if_neg c24) (Eq.trans (if_neg c28) (Eq.trans (if_neg c31) (Eq.trans (if_neg c36) (Eq.trans (if_neg c39) (Eq.trans (if_neg c42) (Eq.trans (if_neg c45) (Eq.trans (if_neg c48) (Eq.trans (if_neg c51) (Eq.trans (if_neg c54) (Eq.trans (if_neg c57) (if_pos c65)))))))))))))) ?_
                              refine xq_blk 4 (pc' := 205) (ls' := [(4, .inl t0), (0, .inr (.inr (7, 5, 0))), (1, .inl v1), (2, .inl v2), (3, .inl v3)]) (st' := [.inl (8 : Int32), .inl v2, .inl t0, .inr (.inr (7, 5, 0))]) (M' := M) rfl ?_
                              refine xq_bind h (fun q58 e59 h => ?_)
                              refine xq_call (j := 99) (as := [.inl v2, .inl (8 : Int32)]) (pc' := 208) (ls' := [(4, .inl t0), (0, .inr (.inr (7, 5, 0))), (1, .inl v1), (2, .inl v2), (3, .inl v3)]) (st' := [.inl t0, .inr (.inr (7, 5, 0))]) rfl rfl (f_L_low_ok e59) ?_
                              refine xq_blk 4 (pc' := 212) (ls' := [(4, .inl t0), (0, .inr (.inr (7, 5, 0))), (1, .inl v1), (2, .inl v2), (3, .inl v3)]) (st' := [.inl (3 : Int32), .inl (v2 >>> ((3 : Int32) &&& (31 : Int32))), .inl q58, .inl t0, .inr (.inr (7, 5, 0))]) (M' := M) rfl ?_
                              refine xq_bind h (fun q60 e61 h => ?_)
                              refine xq_call (j := 99) (as := [.inl (v2 >>> ((3 : Int32) &&& (31 : Int32))), .inl (3 : Int32)]) (pc' := 215) (ls' := [(4, .inl t0), (0, .inr (.inr (7, 5, 0))), (1, .inl v1), (2, .inl v2), (3, .inl v3)]) (st' := [.inl q58, .inl t0, .inr (.inr (7, 5, 0))]) rfl rfl (f_L_low_ok e61) ?_
                              refine xq_ite h (fun c64 h => ?_) (fun c64 h => ?_)
                              · refine xq_core (pc' := 218) (ls' := [(4, .inl t0), (0, .inr (.inr (7, 5, 0))), (1, .inl v1), (2, .inl v2), (3, .inl v3)]) (st' := [.inl q58, .inl t0, .inr (.inr (7, 5, 0))]) rfl (if_pos c64) ?_
                                refine xq_blk 2 (pc' := 223) (ls' := [(4, .inl t0), (0, .inr (.inr (7, 5, 0))), (1, .inl v1), (2, .inl v2), (3, .inl v3)]) (st' := [.inl (1 : Int32), .inl q58, .inl t0, .inr (.inr (7, 5, 0))]) (M' := M) rfl ?_
                                exact xq_sub (a := []) trivial rfl (f_L_act_j223_ok h hr)
                              · refine xq_core (pc' := 222) (ls' := [(4, .inl t0), (0, .inr (.inr (7, 5, 0))), (1, .inl v1), (2, .inl v2), (3, .inl v3)]) (st' := [.inl q58, .inl t0, .inr (.inr (7, 5, 0))]) rfl (if_neg c64) ?_
                                refine xq_blk 1 (pc' := 223) (ls' := [(4, .inl t0), (0, .inr (.inr (7, 5, 0))), (1, .inl v1), (2, .inl v2), (3, .inl v3)]) (st' := [.inl (0 : Int32), .inl q58, .inl t0, .inr (.inr (7, 5, 0))]) (M' := M) rfl ?_
                                exact xq_sub (a := []) trivial rfl (f_L_act_j223_ok h hr)
                            · refine xq_ite h (fun c72 h => ?_) (fun c72 h => ?_)
                              · refine xq_tsw (pc' := 227) (ls' := [(4, .inl t0), (0, .inr (.inr (7, 5, 0))), (1, .inl v1), (2, .inl v2), (3, .inl v3)]) (st' := []) rfl rfl (Eq.trans (if_neg c16) (Eq.trans (if_neg c20) (Eq.trans (if_neg c24) (Eq.trans (if_neg c28) (Eq.trans (if_neg c31) (Eq.trans (if_neg c36) (Eq.trans (if_neg c39) (Eq.trans (if_neg c42) (Eq.trans (if_neg c45) (Eq.trans (if_neg c48) (Eq.trans (if_neg c51) (Eq.trans (if_neg c54) (Eq.trans (if_neg c57) (Eq.trans (if_neg c65) (if_pos c72))))))))))))))) ?_
                                refine xq_blk 3 (pc' := 230) (ls' := [(4, .inl t0), (0, .inr (.inr (7, 5, 0))), (1, .inl v1), (2, .inl v2), (3, .inl v3)]) (st' := [.inl (4 : Int32), .inl v2, .inr (.inr (7, 5, 0))]) (M' := M) rfl ?_
                                refine xq_bind h (fun q66 e67 h => ?_)
                                refine xq_call (j := 99) (as := [.inl v2, .inl (4 : Int32)]) (pc' := 233) (ls' := [(4, .inl t0), (0, .inr (.inr (7, 5, 0))), (1, .inl v1), (2, .inl v2), (3, .inl v3)]) (st' := [.inr (.inr (7, 5, 0))]) rfl rfl (f_L_low_ok e67) ?_
                                refine xq_blk 4 (pc' := 238) (ls' := [(4, .inl t0), (0, .inr (.inr (7, 5, 0))), (1, .inl v1), (2, .inl v2), (3, .inl v3)]) (st' := [.inl (12 : Int32), .inl (v2 >>> ((2 : Int32) &&& (31 : Int32))), .inl q66, .inr (.inr (7, 5, 0))]) (M' := M) rfl ?_
                                refine xq_bind h (fun q68 e69 h => ?_)
                                refine xq_call (j := 99) (as := [.inl (v2 >>> ((2 : Int32) &&& (31 : Int32))), .inl (12 : Int32)]) (pc' := 241) (ls' := [(4, .inl t0), (0, .inr (.inr (7, 5, 0))), (1, .inl v1), (2, .inl v2), (3, .inl v3)]) (st' := [.inl q66, .inr (.inr (7, 5, 0))]) rfl rfl (f_L_low_ok e69) ?_
                                refine xq_bind h (fun q70 e71 h => ?_)
                                refine xq_call (j := 76) (as := [.inr (.inr (7, 5, 0)), .inl q66, .inl q68]) (pc' := 244) (ls' := [(4, .inl t0), (0, .inr (.inr (7, 5, 0))), (1, .inl v1), (2, .inl v2), (3, .inl v3)]) (st' := []) rfl rfl (f_X6_set_ok e71) ?_
                                exact (hr _ (Option.some.inj h).symm) ▸ xq_ret rfl
                              · refine xq_tsw (pc' := 245) (ls' := [(4, .inl t0), (0, .inr (.inr (7, 5, 0))), (1, .inl v1), (2, .inl v2), (3, .inl v3)]) (st' := []) rfl rfl (Eq.trans (if_neg c16) (Eq.trans (if_neg c20) (Eq.trans (if_neg c24) (Eq.trans (if_neg c28) (Eq.trans (if_neg c31) (Eq.trans (if_neg c36) (Eq.trans (if_neg c39) (Eq.trans (if_neg c42) (Eq.trans (if_neg c45) (Eq.trans (if_neg c48) (Eq.trans (if_neg c51) (Eq.trans (if_neg c54) (Eq.trans (if_neg c57) (Eq.trans (if_neg c65) (Eq.trans (if_neg c72) (rfl)))))))))))))))) ?_
                                refine xq_blk 4 (pc' := 250) (ls' := [(4, .inl t0), (0, .inr (.inr (7, 5, 0))), (1, .inl v1), (2, .inl v2), (3, .inl v3)]) (st' := [.inl (6 : Int32), .inl v2, .inl (1 : Int32), .inr (.inr (7, 5, 0))]) (M' := M) rfl ?_
                                refine xq_bind h (fun q73 e74 h => ?_)
                                refine xq_call (j := 99) (as := [.inl v2, .inl (6 : Int32)]) (pc' := 253) (ls' := [(4, .inl t0), (0, .inr (.inr (7, 5, 0))), (1, .inl v1), (2, .inl v2), (3, .inl v3)]) (st' := [.inl (1 : Int32), .inr (.inr (7, 5, 0))]) rfl rfl (f_L_low_ok e74) ?_
                                refine xq_blk 1 (pc' := 254) (ls' := [(4, .inl t0), (0, .inr (.inr (7, 5, 0))), (1, .inl v1), (2, .inl v2), (3, .inl v3)]) (st' := [.inl ((1 : Int32) + q73), .inr (.inr (7, 5, 0))]) (M' := M) rfl ?_
                                refine xq_bind h (fun q75 e76 h => ?_)
                                refine xq_call (j := 86) (as := [.inr (.inr (7, 5, 0)), .inl ((1 : Int32) + q73)]) (pc' := 257) (ls' := [(4, .inl t0), (0, .inr (.inr (7, 5, 0))), (1, .inl v1), (2, .inl v2), (3, .inl v3)]) (st' := []) rfl rfl (f_X6_pass_ok e76) ?_
                                exact (hr _ (Option.some.inj h).symm) ▸ xq_ret rfl
def f_L_act (a1 : Int32) (a2 : Int32) (M : xM) : Option (Int32 × xM) := (f_L_low (a1 >>> ((5 : Int32) &&& (31 : Int32))) (14 : Int32) M).bind (fun q1 => (f_L_low (a1 >>> ((9 : Int32) &&& (31 : Int32))) (4 : Int32) M).bind (fun q3 => if q3 = (0 : Int32) then ((f_L_low (a1 >>> ((11 : Int32) &&& (31 : Int32))) (3 : Int32) M).bind (fun q5 => f_L_act_j32 a1 a2 q1 q5 M)) else (f_L_act_j32 a1 a2 q1 (0 : Int32) M)))
theorem f_L_act_run {X : List Int32} {a1 : Int32} {a2 : Int32} {M : xM} {p : Int32 × xM} {r : xR} (h : f_L_act a1 a2 M = some p) (hr : ∀ q, p = q → ((some (.inl q.1), q.2) : xR) = r) : xq X xe 101 0 [(0, .inr (.inr (7, 5, 0))), (1, .inl a1), (2, .inl a2)] [] M r := by
  unfold f_L_act at h
  refine xq_blk 4 (pc' := 5) (ls' := [(0, .inr (.inr (7, 5, 0))), (1, .inl a1), (2, .inl a2)]) (st' := [.inl (14 : Int32), .inl (a1 >>> ((5 : Int32) &&& (31 : Int32)))]) (M' := M) rfl ?_
  refine xq_bind h (fun q1 e2 h => ?_)
  refine xq_call (j := 99) (as := [.inl (a1 >>> ((5 : Int32) &&& (31 : Int32))), .inl (14 : Int32)]) (pc' := 8) (ls' := [(0, .inr (.inr (7, 5, 0))), (1, .inl a1), (2, .inl a2)]) (st' := []) rfl rfl (f_L_low_ok e2) ?_
  refine xq_blk 5 (pc' := 14) (ls' := [(3, .inl q1), (0, .inr (.inr (7, 5, 0))), (1, .inl a1), (2, .inl a2)]) (st' := [.inl (4 : Int32), .inl (a1 >>> ((9 : Int32) &&& (31 : Int32)))]) (M' := M) rfl ?_
  refine xq_bind h (fun q3 e4 h => ?_)
  refine xq_call (j := 99) (as := [.inl (a1 >>> ((9 : Int32) &&& (31 : Int32))), .inl (4 : Int32)]) (pc' := 17) (ls' := [(3, .inl q1), (0, .inr (.inr (7, 5, 0))), (1, .inl a1), (2, .inl a2)]) (st' := []) rfl rfl (f_L_low_ok e4) ?_
  refine xq_ite h (fun c77 h => ?_) (fun c77 h => ?_)
  · refine xq_core (pc' := 20) (ls' := [(3, .inl q1), (0, .inr (.inr (7, 5, 0))), (1, .inl a1), (2, .inl a2)]) (st' := []) rfl (if_pos c77) ?_
    refine xq_blk 4 (pc' := 25) (ls' := [(3, .inl q1), (0, .inr (.inr (7, 5, 0))), (1, .inl a1), (2, .inl a2)]) (st' := [.inl (3 : Int32), .inl (a1 >>> ((11 : Int32) &&& (31 : Int32)))]) (M' := M) rfl ?_
    refine xq_bind h (fun q5 e6 h => ?_)
    refine xq_call (j := 99) (as := [.inl (a1 >>> ((11 : Int32) &&& (31 : Int32))), .inl (3 : Int32)]) (pc' := 28) (ls' := [(3, .inl q1), (0, .inr (.inr (7, 5, 0))), (1, .inl a1), (2, .inl a2)]) (st' := []) rfl rfl (f_L_low_ok e6) ?_
    refine xq_blk 1 (pc' := 32) (ls' := [(3, .inl q1), (0, .inr (.inr (7, 5, 0))), (1, .inl a1), (2, .inl a2)]) (st' := [.inl q5]) (M' := M) rfl ?_
    exact xq_sub (a := [(0, .inr (.inr (7, 5, 0))), (1, .inl a1), (2, .inl a2), (3, .inl q1)]) ⟨rfl, rfl, rfl, rfl, trivial⟩ rfl (f_L_act_j32_ok h hr)
  · refine xq_core (pc' := 31) (ls' := [(3, .inl q1), (0, .inr (.inr (7, 5, 0))), (1, .inl a1), (2, .inl a2)]) (st' := []) rfl (if_neg c77) ?_
    refine xq_blk 1 (pc' := 32) (ls' := [(3, .inl q1), (0, .inr (.inr (7, 5, 0))), (1, .inl a1), (2, .inl a2)]) (st' := [.inl (0 : Int32)]) (M' := M) rfl ?_
    exact xq_sub (a := [(0, .inr (.inr (7, 5, 0))), (1, .inl a1), (2, .inl a2), (3, .inl q1)]) ⟨rfl, rfl, rfl, rfl, trivial⟩ rfl (f_L_act_j32_ok h hr)
theorem f_L_act_ok {X : List Int32} {a1 : Int32} {a2 : Int32} {M : xM} {p : Int32 × xM} (h : f_L_act a1 a2 M = some p) : xq X xe 101 0 [(0, .inr (.inr (7, 5, 0))), (1, .inl a1), (2, .inl a2)] [] M ((some (.inl p.1), p.2) : xR) := f_L_act_run h (fun q e => by rw [e])
