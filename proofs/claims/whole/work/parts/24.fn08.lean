def f_X7_in (a0 : Int64) (a2 : Int64) (a4 : Int64) (M : xM) : Option (Int32) := if (lg_cmp a0 a2) < (0 : Int32) then (some ((vp_nar .boolean (0 : Int32)))) else (if (0 : Int32) < (lg_cmp a0 a4) then (some ((vp_nar .boolean (0 : Int32)))) else (some ((vp_nar .boolean (1 : Int32)))))
theorem f_X7_in_run {X : List Int32} {a0 : Int64} {a2 : Int64} {a4 : Int64} {M : xM} {p : Int32} {r : xR} (h : f_X7_in a0 a2 a4 M = some p) (hr : ∀ q, p = q → ((some (.inl q), M) : xR) = r) : xq X xe 119 0 [(0, .inr (.inl a0)), (2, .inr (.inl a2)), (4, .inr (.inl a4))] [] M r := by
  unfold f_X7_in at h
  refine xq_blk 3 (pc' := 3) (ls' := [(0, .inr (.inl a0)), (2, .inr (.inl a2)), (4, .inr (.inl a4))]) (st' := [.inl (lg_cmp a0 a2)]) (M' := M) rfl ?_
  refine xq_ite h (fun c2 h => ?_) (fun c2 h => ?_)
  · refine xq_core (pc' := 17) (ls' := [(0, .inr (.inl a0)), (2, .inr (.inl a2)), (4, .inr (.inl a4))]) (st' := []) rfl (if_pos c2) ?_
    refine xq_blk 1 (pc' := 18) (ls' := [(0, .inr (.inl a0)), (2, .inr (.inl a2)), (4, .inr (.inl a4))]) (st' := [.inl (0 : Int32)]) (M' := M) rfl ?_
    exact (hr _ (Option.some.inj h).symm) ▸ xq_ret rfl
  · refine xq_core (pc' := 6) (ls' := [(0, .inr (.inl a0)), (2, .inr (.inl a2)), (4, .inr (.inl a4))]) (st' := []) rfl (if_neg c2) ?_
    refine xq_blk 3 (pc' := 10) (ls' := [(0, .inr (.inl a0)), (2, .inr (.inl a2)), (4, .inr (.inl a4))]) (st' := [.inl (lg_cmp a0 a4)]) (M' := M) rfl ?_
    refine xq_ite h (fun c1 h => ?_) (fun c1 h => ?_)
    · refine xq_core (pc' := 17) (ls' := [(0, .inr (.inl a0)), (2, .inr (.inl a2)), (4, .inr (.inl a4))]) (st' := []) rfl (if_pos c1) ?_
      refine xq_blk 1 (pc' := 18) (ls' := [(0, .inr (.inl a0)), (2, .inr (.inl a2)), (4, .inr (.inl a4))]) (st' := [.inl (0 : Int32)]) (M' := M) rfl ?_
      exact (hr _ (Option.some.inj h).symm) ▸ xq_ret rfl
    · refine xq_core (pc' := 13) (ls' := [(0, .inr (.inl a0)), (2, .inr (.inl a2)), (4, .inr (.inl a4))]) (st' := []) rfl (if_neg c1) ?_
      refine xq_blk 2 (pc' := 18) (ls' := [(0, .inr (.inl a0)), (2, .inr (.inl a2)), (4, .inr (.inl a4))]) (st' := [.inl (1 : Int32)]) (M' := M) rfl ?_
      exact (hr _ (Option.some.inj h).symm) ▸ xq_ret rfl
theorem f_X7_in_ok {X : List Int32} {a0 : Int64} {a2 : Int64} {a4 : Int64} {M : xM} {p : Int32} (h : f_X7_in a0 a2 a4 M = some p) : xq X xe 119 0 [(0, .inr (.inl a0)), (2, .inr (.inl a2)), (4, .inr (.inl a4))] [] M ((some (.inl p), M) : xR) := f_X7_in_run h (fun q e => by rw [e])
def f_X7_isValue (a0 : Int32) (a1 : Int32) (M : xM) : Option (Int32) := if a0 = (0 : Int32) then ((f_X7_in a1.toInt64 (0 : Int64) (5 : Int64) M).bind (fun q1 => some ((vp_nar .boolean q1)))) else (if a0 = (1 : Int32) then ((f_X7_in a1.toInt64 (1 : Int64) (60 : Int64) M).bind (fun q4 => some ((vp_nar .boolean q4)))) else (if a0 = (2 : Int32) then ((f_X7_in a1.toInt64 (1 : Int64) (30 : Int64) M).bind (fun q7 => some ((vp_nar .boolean q7)))) else (if a0 = (3 : Int32) then ((f_X7_in a1.toInt64 (1 : Int64) (99 : Int64) M).bind (fun q10 => some ((vp_nar .boolean q10)))) else (some ((vp_nar .boolean (0 : Int32)))))))
theorem f_X7_isValue_run {X : List Int32} {a0 : Int32} {a1 : Int32} {M : xM} {p : Int32} {r : xR} (h : f_X7_isValue a0 a1 M = some p) (hr : ∀ q, p = q → ((some (.inl q), M) : xR) = r) : xq X xe 154 0 [(0, .inl a0), (1, .inl a1)] [] M r := by
  unfold f_X7_isValue at h
  refine xq_blk 1 (pc' := 1) (ls' := [(0, .inl a0), (1, .inl a1)]) (st' := [.inl a0]) (M' := M) rfl ?_
  refine xq_ite h (fun c3 h => ?_) (fun c3 h => ?_)
  · refine xq_tsw (pc' := 32) (ls' := [(0, .inl a0), (1, .inl a1)]) (st' := []) rfl rfl (if_pos c3) ?_
    refine xq_blk 4 (pc' := 38) (ls' := [(0, .inl a0), (1, .inl a1)]) (st' := [.inr (.inl (5 : Int64)), .inr (.inl (0 : Int64)), .inr (.inl a1.toInt64)]) (M' := M) rfl ?_
    refine xq_bind h (fun q1 e2 h => ?_)
    refine xq_call (j := 119) (as := [.inr (.inl a1.toInt64), .inr (.inl (0 : Int64)), .inr (.inl (5 : Int64))]) (pc' := 41) (ls' := [(0, .inl a0), (1, .inl a1)]) (st' := []) rfl rfl (f_X7_in_ok e2) ?_
    exact (hr _ (Option.some.inj h).symm) ▸ xq_ret rfl
  · refine xq_ite h (fun c6 h => ?_) (fun c6 h => ?_)
    · refine xq_tsw (pc' := 42) (ls' := [(0, .inl a0), (1, .inl a1)]) (st' := []) rfl rfl (Eq.trans (if_neg c3) (if_pos c6)) ?_
      refine xq_blk 4 (pc' := 48) (ls' := [(0, .inl a0), (1, .inl a1)]) (st' := [.inr (.inl (60 : Int64)), .inr (.inl (1 : Int64)), .inr (.inl a1.toInt64)]) (M' := M) rfl ?_
      refine xq_bind h (fun q4 e5 h => ?_)
      refine xq_call (j := 119) (as := [.inr (.inl a1.toInt64), .inr (.inl (1 : Int64)), .inr (.inl (60 : Int64))]) (pc' := 51) (ls' := [(0, .inl a0), (1, .inl a1)]) (st' := []) rfl rfl (f_X7_in_ok e5) ?_
      exact (hr _ (Option.some.inj h).symm) ▸ xq_ret rfl
    · refine xq_ite h (fun c9 h => ?_) (fun c9 h => ?_)
      · refine xq_tsw (pc' := 52) (ls' := [(0, .inl a0), (1, .inl a1)]) (st' := []) rfl rfl (Eq.trans (if_neg c3) (Eq.trans (if_neg c6) (if_pos c9))) ?_
        refine xq_blk 4 (pc' := 58) (ls' := [(0, .inl a0), (1, .inl a1)]) (st' := [.inr (.inl (30 : Int64)), .inr (.inl (1 : Int64)), .inr (.inl a1.toInt64)]) (M' := M) rfl ?_
        refine xq_bind h (fun q7 e8 h => ?_)
        refine xq_call (j := 119) (as := [.inr (.inl a1.toInt64), .inr (.inl (1 : Int64)), .inr (.inl (30 : Int64))]) (pc' := 61) (ls' := [(0, .inl a0), (1, .inl a1)]) (st' := []) rfl rfl (f_X7_in_ok e8) ?_
        exact (hr _ (Option.some.inj h).symm) ▸ xq_ret rfl
      · refine xq_ite h (fun c12 h => ?_) (fun c12 h => ?_)
        · refine xq_tsw (pc' := 62) (ls' := [(0, .inl a0), (1, .inl a1)]) (st' := []) rfl rfl (Eq.trans (if_neg c3) (Eq.trans (if_neg c6) (Eq.trans (if_neg c9) (if_pos c12)))) ?_
          refine xq_blk 4 (pc' := 68) (ls' := [(0, .inl a0), (1, .inl a1)]) (st' := [.inr (.inl (99 : Int64)), .inr (.inl (1 : Int64)), .inr (.inl a1.toInt64)]) (M' := M) rfl ?_
          refine xq_bind h (fun q10 e11 h => ?_)
          refine xq_call (j := 119) (as := [.inr (.inl a1.toInt64), .inr (.inl (1 : Int64)), .inr (.inl (99 : Int64))]) (pc' := 71) (ls' := [(0, .inl a0), (1, .inl a1)]) (st' := []) rfl rfl (f_X7_in_ok e11) ?_
          exact (hr _ (Option.some.inj h).symm) ▸ xq_ret rfl
        · refine xq_tsw (pc' := 72) (ls' := [(0, .inl a0), (1, .inl a1)]) (st' := []) rfl rfl (Eq.trans (if_neg c3) (Eq.trans (if_neg c6) (Eq.trans (if_neg c9) (Eq.trans (if_neg c12) (rfl))))) ?_
          refine xq_blk 1 (pc' := 73) (ls' := [(0, .inl a0), (1, .inl a1)]) (st' := [.inl (0 : Int32)]) (M' := M) rfl ?_
          exact (hr _ (Option.some.inj h).symm) ▸ xq_ret rfl
theorem f_X7_isValue_ok {X : List Int32} {a0 : Int32} {a1 : Int32} {M : xM} {p : Int32} (h : f_X7_isValue a0 a1 M = some p) : xq X xe 154 0 [(0, .inl a0), (1, .inl a1)] [] M ((some (.inl p), M) : xR) := f_X7_isValue_run h (fun q e => by rw [e])
def f_X7_copies_l2 (k2v1 : Int32) (k2v2 : Int32) (s2 : Int32 × xM) : Option ((Int32 × xM) ⊕ (xM)) := if s2.1 < (354 : Int32) then (if xp_in (((354 : Int32) * k2v1) + s2.1) 3540 = true then (if xp_in (((354 : Int32) * k2v2) + s2.1) 3540 = true then (some (.inl (s2.1 + (1 : Int32), xd_up s2.2 6 1 (((354 : Int32) * k2v2) + s2.1).toNatClampNeg (s2.2.1 6 1 (((354 : Int32) * k2v1) + s2.1).toNatClampNeg)))) else none) else none) else (Option.map Sum.inr (some (s2.2)))
theorem f_X7_copies_l2_ok {X : List Int32} {k2v1 : Int32} {k2v2 : Int32} {s2 : Int32 × xM} {p : (Int32 × xM) ⊕ (xM)} {r : xR} (h : f_X7_copies_l2 k2v1 k2v2 s2 = some p) (h0 : ∀ s', p = .inl s' → xq X xe 121 2 [(0, .inr (.inr (14, 6, 0))), (1, .inl k2v1), (2, .inl k2v2), (3, .inl s'.1)] [] s'.2 r) (hr : ∀ q, p = .inr (q) → ((none, q) : xR) = r) : xq X xe 121 2 [(0, .inr (.inr (14, 6, 0))), (1, .inl k2v1), (2, .inl k2v2), (3, .inl s2.1)] [] s2.2 r := by
  unfold f_X7_copies_l2 at h
  refine xq_blk 2 (pc' := 6) (ls' := [(0, .inr (.inr (14, 6, 0))), (1, .inl k2v1), (2, .inl k2v2), (3, .inl s2.1)]) (st' := [.inl (354 : Int32), .inl s2.1]) (M' := s2.2) rfl ?_
  refine xq_ite h (fun c3 h => ?_) (fun c3 h => ?_)
  · refine xq_core (pc' := 9) (ls' := [(0, .inr (.inr (14, 6, 0))), (1, .inl k2v1), (2, .inl k2v2), (3, .inl s2.1)]) (st' := []) rfl (if_pos c3) ?_
    refine xq_blk 10 (pc' := 27) (ls' := [(0, .inr (.inr (14, 6, 0))), (1, .inl k2v1), (2, .inl k2v2), (3, .inl s2.1)]) (st' := [.inl (354 : Int32), .inr (.inr (15, 6, 1)), .inl (((354 : Int32) * k2v2) + s2.1), .inr (.inr (15, 6, 1))]) (M' := s2.2) rfl ?_
    refine xq_blk 4 (pc' := 31) (ls' := [(0, .inr (.inr (14, 6, 0))), (1, .inl k2v1), (2, .inl k2v2), (3, .inl s2.1)]) (st' := [.inl (((354 : Int32) * k2v1) + s2.1), .inr (.inr (15, 6, 1)), .inl (((354 : Int32) * k2v2) + s2.1), .inr (.inr (15, 6, 1))]) (M' := s2.2) rfl ?_
    refine xq_guard h (fun g1 h => ?_)
    refine xq_prim (st' := [.inl (s2.2.1 6 1 (((354 : Int32) * k2v1) + s2.1).toNatClampNeg), .inl (((354 : Int32) * k2v2) + s2.1), .inr (.inr (15, 6, 1))]) (M' := s2.2) rfl rfl rfl (xg_ald0 rfl g1) ?_
    refine xq_guard h (fun g2 h => ?_)
    refine xq_prim (st' := []) (M' := xd_up s2.2 6 1 (((354 : Int32) * k2v2) + s2.1).toNatClampNeg (s2.2.1 6 1 (((354 : Int32) * k2v1) + s2.1).toNatClampNeg)) rfl rfl rfl (xg_ast0 rfl g2) ?_
    refine xq_blk 2 (pc' := 2) (ls' := [(3, .inl (s2.1 + (1 : Int32))), (0, .inr (.inr (14, 6, 0))), (1, .inl k2v1), (2, .inl k2v2)]) (st' := []) (M' := xd_up s2.2 6 1 (((354 : Int32) * k2v2) + s2.1).toNatClampNeg (s2.2.1 6 1 (((354 : Int32) * k2v1) + s2.1).toNatClampNeg)) rfl ?_
    exact xq_sub (a := [(0, .inr (.inr (14, 6, 0))), (1, .inl k2v1), (2, .inl k2v2), (3, .inl ((s2.1 + (1 : Int32), xd_up s2.2 6 1 (((354 : Int32) * k2v2) + s2.1).toNatClampNeg (s2.2.1 6 1 (((354 : Int32) * k2v1) + s2.1).toNatClampNeg)).1))]) ⟨rfl, rfl, rfl, rfl, trivial⟩ rfl (h0 (s2.1 + (1 : Int32), xd_up s2.2 6 1 (((354 : Int32) * k2v2) + s2.1).toNatClampNeg (s2.2.1 6 1 (((354 : Int32) * k2v1) + s2.1).toNatClampNeg)) (Option.some.inj h).symm)
  · refine xq_core (pc' := 39) (ls' := [(0, .inr (.inr (14, 6, 0))), (1, .inl k2v1), (2, .inl k2v2), (3, .inl s2.1)]) (st' := []) rfl (if_neg c3) ?_
    refine xq_map h (fun p h e => ?_)
    replace hr := fun q e' => hr q (e.symm.trans (congrArg Sum.inr e'))
    clear e
    exact (hr _ (Option.some.inj h).symm) ▸ xq_ret rfl
def f_X7_copies (a1 : Int32) (a2 : Int32) (M : xM) : Option (xM) := xlp (f_X7_copies_l2 a1 a2) 4000 ((0 : Int32), M)
theorem f_X7_copies_run {X : List Int32} {a1 : Int32} {a2 : Int32} {M : xM} {p : xM} {r : xR} (h : f_X7_copies a1 a2 M = some p) (hr : ∀ q, p = q → ((none, q) : xR) = r) : xq X xe 121 0 [(0, .inr (.inr (14, 6, 0))), (1, .inl a1), (2, .inl a2)] [] M r := by
  unfold f_X7_copies at h
  refine xq_blk 2 (pc' := 2) (ls' := [(3, .inl (0 : Int32)), (0, .inr (.inr (14, 6, 0))), (1, .inl a1), (2, .inl a2)]) (st' := []) (M' := M) rfl ?_
  refine xq_sub (a := [(0, .inr (.inr (14, 6, 0))), (1, .inl a1), (2, .inl a2), (3, .inl (0 : Int32))]) ⟨rfl, rfl, rfl, rfl, trivial⟩ rfl ?_
  exact xlp_ok (P := fun s2 => xq X xe 121 2 [(0, .inr (.inr (14, 6, 0))), (1, .inl a1), (2, .inl a2), (3, .inl s2.1)] [] s2.2 r) (fun s p' hb g0 g1 => f_X7_copies_l2_ok hb g0 (fun q e => hr q (g1 _ e).symm)) 4000 _ h
theorem f_X7_copies_ok {X : List Int32} {a1 : Int32} {a2 : Int32} {M : xM} {p : xM} (h : f_X7_copies a1 a2 M = some p) : xq X xe 121 0 [(0, .inr (.inr (14, 6, 0))), (1, .inl a1), (2, .inl a2)] [] M ((none, p) : xR) := f_X7_copies_run h (fun q e => by rw [e])
def f_X7_changes_j41  (M : xM) : Option (xM) := (f_X7_copies (0 : Int32) ((xd_up M 6 0 1 ((M.1 6 0 1) + (1 : Int32))).1 6 0 1) (xd_up M 6 0 1 ((M.1 6 0 1) + (1 : Int32)))).bind (fun q3 => some (q3))
theorem f_X7_changes_j41_ok {X : List Int32}  {M : xM} {p : xM} {r : xR} (h : f_X7_changes_j41  M = some p) (hr : ∀ q, p = q → ((none, q) : xR) = r) : xq X xe 122 41 [(0, .inr (.inr (14, 6, 0)))] [] M r := by
  unfold f_X7_changes_j41 at h
  refine xq_blk 10 (pc' := 57) (ls' := [(0, .inr (.inr (14, 6, 0)))]) (st' := [.inl ((xd_up M 6 0 1 ((M.1 6 0 1) + (1 : Int32))).1 6 0 1), .inl (0 : Int32), .inr (.inr (14, 6, 0))]) (M' := xd_up M 6 0 1 ((M.1 6 0 1) + (1 : Int32))) rfl ?_
  refine xq_bind h (fun q3 e4 h => ?_)
  refine xq_call (j := 121) (as := [.inr (.inr (14, 6, 0)), .inl (0 : Int32), .inl ((xd_up M 6 0 1 ((M.1 6 0 1) + (1 : Int32))).1 6 0 1)]) (pc' := 60) (ls' := [(0, .inr (.inr (14, 6, 0)))]) (st' := []) rfl rfl (f_X7_copies_ok e4) ?_
  exact (hr _ (Option.some.inj h).symm) ▸ xq_ret rfl
def f_X7_changes_l11  (s11 : Int32 × xM) : Option ((Int32 × xM) ⊕ (xM)) := if s11.1 < (6 : Int32) then ((f_X7_copies (s11.1 + (1 : Int32)) s11.1 s11.2).bind (fun q1 => some (.inl (s11.1 + (1 : Int32), q1)))) else (Option.map Sum.inr (f_X7_changes_j41 (xd_up s11.2 6 0 1 ((s11.2.1 6 0 1) - (1 : Int32)))))
theorem f_X7_changes_l11_ok {X : List Int32}  {s11 : Int32 × xM} {p : (Int32 × xM) ⊕ (xM)} {r : xR} (h : f_X7_changes_l11  s11 = some p) (h0 : ∀ s', p = .inl s' → xq X xe 122 11 [(0, .inr (.inr (14, 6, 0))), (1, .inl s'.1)] [] s'.2 r) (hr : ∀ q, p = .inr (q) → ((none, q) : xR) = r) : xq X xe 122 11 [(0, .inr (.inr (14, 6, 0))), (1, .inl s11.1)] [] s11.2 r := by
  unfold f_X7_changes_l11 at h
  refine xq_blk 2 (pc' := 14) (ls' := [(0, .inr (.inr (14, 6, 0))), (1, .inl s11.1)]) (st' := [.inl (6 : Int32), .inl s11.1]) (M' := s11.2) rfl ?_
  refine xq_ite h (fun c5 h => ?_) (fun c5 h => ?_)
  · refine xq_core (pc' := 17) (ls' := [(0, .inr (.inr (14, 6, 0))), (1, .inl s11.1)]) (st' := []) rfl (if_pos c5) ?_
    refine xq_blk 5 (pc' := 22) (ls' := [(0, .inr (.inr (14, 6, 0))), (1, .inl s11.1)]) (st' := [.inl s11.1, .inl (s11.1 + (1 : Int32)), .inr (.inr (14, 6, 0))]) (M' := s11.2) rfl ?_
    refine xq_bind h (fun q1 e2 h => ?_)
    refine xq_call (j := 121) (as := [.inr (.inr (14, 6, 0)), .inl (s11.1 + (1 : Int32)), .inl s11.1]) (pc' := 25) (ls' := [(0, .inr (.inr (14, 6, 0))), (1, .inl s11.1)]) (st' := []) rfl rfl (f_X7_copies_ok e2) ?_
    refine xq_blk 2 (pc' := 11) (ls' := [(1, .inl (s11.1 + (1 : Int32))), (0, .inr (.inr (14, 6, 0)))]) (st' := []) (M' := q1) rfl ?_
    exact xq_sub (a := [(0, .inr (.inr (14, 6, 0))), (1, .inl ((s11.1 + (1 : Int32), q1).1))]) ⟨rfl, rfl, trivial⟩ rfl (h0 (s11.1 + (1 : Int32), q1) (Option.some.inj h).symm)
  · refine xq_core (pc' := 31) (ls' := [(0, .inr (.inr (14, 6, 0))), (1, .inl s11.1)]) (st' := []) rfl (if_neg c5) ?_
    refine xq_map h (fun p h e => ?_)
    replace hr := fun q e' => hr q (e.symm.trans (congrArg Sum.inr e'))
    clear e
    refine xq_blk 6 (pc' := 41) (ls' := [(0, .inr (.inr (14, 6, 0))), (1, .inl s11.1)]) (st' := []) (M' := xd_up s11.2 6 0 1 ((s11.2.1 6 0 1) - (1 : Int32))) rfl ?_
    exact xq_sub (a := [(0, .inr (.inr (14, 6, 0)))]) ⟨rfl, trivial⟩ rfl (f_X7_changes_j41_ok h hr)
def f_X7_changes  (M : xM) : Option (xM) := if (M.1 6 0 1) = (6 : Int32) then (xlp (f_X7_changes_l11) 4000 ((1 : Int32), M)) else (f_X7_changes_j41 M)
theorem f_X7_changes_run {X : List Int32}  {M : xM} {p : xM} {r : xR} (h : f_X7_changes  M = some p) (hr : ∀ q, p = q → ((none, q) : xR) = r) : xq X xe 122 0 [(0, .inr (.inr (14, 6, 0)))] [] M r := by
  unfold f_X7_changes at h
  refine xq_blk 3 (pc' := 6) (ls' := [(0, .inr (.inr (14, 6, 0)))]) (st' := [.inl (6 : Int32), .inl (M.1 6 0 1)]) (M' := M) rfl ?_
  refine xq_ite h (fun c6 h => ?_) (fun c6 h => ?_)
  · refine xq_core (pc' := 9) (ls' := [(0, .inr (.inr (14, 6, 0)))]) (st' := []) rfl (if_pos c6) ?_
    refine xq_blk 2 (pc' := 11) (ls' := [(1, .inl (1 : Int32)), (0, .inr (.inr (14, 6, 0)))]) (st' := []) (M' := M) rfl ?_
    refine xq_sub (a := [(0, .inr (.inr (14, 6, 0))), (1, .inl (1 : Int32))]) ⟨rfl, rfl, trivial⟩ rfl ?_
    exact xlp_ok (P := fun s11 => xq X xe 122 11 [(0, .inr (.inr (14, 6, 0))), (1, .inl s11.1)] [] s11.2 r) (fun s p' hb g0 g1 => f_X7_changes_l11_ok hb g0 (fun q e => hr q (g1 _ e).symm)) 4000 _ h
  · refine xq_core (pc' := 41) (ls' := [(0, .inr (.inr (14, 6, 0)))]) (st' := []) rfl (if_neg c6) ?_
    exact xq_sub (a := [(0, .inr (.inr (14, 6, 0)))]) ⟨rfl, trivial⟩ rfl (f_X7_changes_j41_ok h hr)
theorem f_X7_changes_ok {X : List Int32}  {M : xM} {p : xM} (h : f_X7_changes  M = some p) : xq X xe 122 0 [(0, .inr (.inr (14, 6, 0)))] [] M ((none, p) : xR) := f_X7_changes_run h (fun q e => by rw [e])
def f_X7_personAt (a0 : Int32) (a1 : Int32) (M : xM) : Option (Int32) := some (((a0 + (14 : Int32)) + ((8 : Int32) * a1)))
theorem f_X7_personAt_run {X : List Int32} {a0 : Int32} {a1 : Int32} {M : xM} {p : Int32} {r : xR} (h : f_X7_personAt a0 a1 M = some p) (hr : ∀ q, p = q → ((some (.inl q), M) : xR) = r) : xq X xe 117 0 [(0, .inl a0), (1, .inl a1)] [] M r := by
  unfold f_X7_personAt at h
  refine xq_blk 7 (pc' := 9) (ls' := [(0, .inl a0), (1, .inl a1)]) (st' := [.inl ((a0 + (14 : Int32)) + ((8 : Int32) * a1))]) (M' := M) rfl ?_
  exact (hr _ (Option.some.inj h).symm) ▸ xq_ret rfl
theorem f_X7_personAt_ok {X : List Int32} {a0 : Int32} {a1 : Int32} {M : xM} {p : Int32} (h : f_X7_personAt a0 a1 M = some p) : xq X xe 117 0 [(0, .inl a0), (1, .inl a1)] [] M ((some (.inl p), M) : xR) := f_X7_personAt_run h (fun q e => by rw [e])
def f_X7_flag (a0 : Int32) (M : xM) : Option (Int32) := if a0 = (0 : Int32) then (some ((0 : Int32))) else (some ((1 : Int32)))
theorem f_X7_flag_run {X : List Int32} {a0 : Int32} {M : xM} {p : Int32} {r : xR} (h : f_X7_flag a0 M = some p) (hr : ∀ q, p = q → ((some (.inl q), M) : xR) = r) : xq X xe 120 0 [(0, .inl a0)] [] M r := by
  unfold f_X7_flag at h
  refine xq_blk 1 (pc' := 1) (ls' := [(0, .inl a0)]) (st' := [.inl a0]) (M' := M) rfl ?_
  refine xq_ite h (fun c1 h => ?_) (fun c1 h => ?_)
  · refine xq_core (pc' := 8) (ls' := [(0, .inl a0)]) (st' := []) rfl (if_pos c1) ?_
    refine xq_blk 1 (pc' := 9) (ls' := [(0, .inl a0)]) (st' := [.inl (0 : Int32)]) (M' := M) rfl ?_
    exact (hr _ (Option.some.inj h).symm) ▸ xq_ret rfl
  · refine xq_core (pc' := 4) (ls' := [(0, .inl a0)]) (st' := []) rfl (if_neg c1) ?_
    refine xq_blk 2 (pc' := 9) (ls' := [(0, .inl a0)]) (st' := [.inl (1 : Int32)]) (M' := M) rfl ?_
    exact (hr _ (Option.some.inj h).symm) ▸ xq_ret rfl
theorem f_X7_flag_ok {X : List Int32} {a0 : Int32} {M : xM} {p : Int32} (h : f_X7_flag a0 M = some p) : xq X xe 120 0 [(0, .inl a0)] [] M ((some (.inl p), M) : xR) := f_X7_flag_run h (fun q e => by rw [e])
def f_X7_given_j33_5 (k5v1 : Int32) (k5v2 : Int32) (v4 : Int32) (t0 : Int32) (t1 : Int32) (M : xM) : Option ((Int32 × Int32) ⊕ (Int32)) := (f_X7_flag t0 M).bind (fun q4 => some (.inl (t1 + q4, v4 + (1 : Int32))))
theorem f_X7_given_j33_5_ok {X : List Int32} {k5v1 : Int32} {k5v2 : Int32} {v4 : Int32} {t0 : Int32} {t1 : Int32} {M : xM} {p : (Int32 × Int32) ⊕ (Int32)} {r : xR} (h : f_X7_given_j33_5 k5v1 k5v2 v4 t0 t1 M = some p) (h0 : ∀ s', p = .inl s' → xq X xe 126 5 [(0, .inr (.inr (14, 6, 0))), (1, .inl k5v1), (2, .inl k5v2), (3, .inl s'.1), (4, .inl s'.2)] [] M r) (hr : ∀ q, p = .inr (q) → ((some (.inl q), M) : xR) = r) : xq X xe 126 33 [(0, .inr (.inr (14, 6, 0))), (1, .inl k5v1), (2, .inl k5v2), (4, .inl v4)] [.inl t0, .inl t1] M r := by
  unfold f_X7_given_j33_5 at h
  refine xq_bind h (fun q4 e5 h => ?_)
  refine xq_call (j := 120) (as := [.inl t0]) (pc' := 36) (ls' := [(0, .inr (.inr (14, 6, 0))), (1, .inl k5v1), (2, .inl k5v2), (4, .inl v4)]) (st' := [.inl t1]) rfl rfl (f_X7_flag_ok e5) ?_
  refine xq_blk 4 (pc' := 5) (ls' := [(4, .inl (v4 + (1 : Int32))), (3, .inl (t1 + q4)), (0, .inr (.inr (14, 6, 0))), (1, .inl k5v1), (2, .inl k5v2)]) (st' := []) (M' := M) rfl ?_
  exact xq_sub (a := [(0, .inr (.inr (14, 6, 0))), (1, .inl k5v1), (2, .inl k5v2), (3, .inl ((t1 + q4, v4 + (1 : Int32)).1)), (4, .inl ((t1 + q4, v4 + (1 : Int32)).2))]) ⟨rfl, rfl, rfl, rfl, rfl, trivial⟩ rfl (h0 (t1 + q4, v4 + (1 : Int32)) (Option.some.inj h).symm)
def f_X7_given_l5 (k5v1 : Int32) (k5v2 : Int32) (M : xM) (s5 : Int32 × Int32) : Option ((Int32 × Int32) ⊕ (Int32)) := if s5.2 < (20 : Int32) then ((f_X7_personAt k5v1 s5.2 M).bind (fun q1 => if xp_in q1 3540 = true then (if (M.1 6 1 q1.toNatClampNeg) = k5v2 then (f_X7_given_j33_5 k5v1 k5v2 s5.2 (1 : Int32) s5.1 M) else (f_X7_given_j33_5 k5v1 k5v2 s5.2 (0 : Int32) s5.1 M)) else none)) else (Option.map Sum.inr (some (s5.1)))
theorem f_X7_given_l5_ok {X : List Int32} {k5v1 : Int32} {k5v2 : Int32} {M : xM} {s5 : Int32 × Int32} {p : (Int32 × Int32) ⊕ (Int32)} {r : xR} (h : f_X7_given_l5 k5v1 k5v2 M s5 = some p) (h0 : ∀ s', p = .inl s' → xq X xe 126 5 [(0, .inr (.inr (14, 6, 0))), (1, .inl k5v1), (2, .inl k5v2), (3, .inl s'.1), (4, .inl s'.2)] [] M r) (hr : ∀ q, p = .inr (q) → ((some (.inl q), M) : xR) = r) : xq X xe 126 5 [(0, .inr (.inr (14, 6, 0))), (1, .inl k5v1), (2, .inl k5v2), (3, .inl s5.1), (4, .inl s5.2)] [] M r := by
  unfold f_X7_given_l5 at h
  refine xq_blk 2 (pc' := 9) (ls' := [(0, .inr (.inr (14, 6, 0))), (1, .inl k5v1), (2, .inl k5v2), (3, .inl s5.1), (4, .inl s5.2)]) (st' := [.inl (20 : Int32), .inl s5.2]) (M' := M) rfl ?_
  refine xq_ite h (fun c7 h => ?_) (fun c7 h => ?_)
  · refine xq_core (pc' := 12) (ls' := [(0, .inr (.inr (14, 6, 0))), (1, .inl k5v1), (2, .inl k5v2), (3, .inl s5.1), (4, .inl s5.2)]) (st' := []) rfl (if_pos c7) ?_
    refine xq_blk 5 (pc' := 20) (ls' := [(0, .inr (.inr (14, 6, 0))), (1, .inl k5v1), (2, .inl k5v2), (3, .inl s5.1), (4, .inl s5.2)]) (st' := [.inl s5.2, .inl k5v1, .inr (.inr (15, 6, 1)), .inl s5.1]) (M' := M) rfl ?_
    refine xq_bind h (fun q1 e2 h => ?_)
    refine xq_call (j := 117) (as := [.inl k5v1, .inl s5.2]) (pc' := 23) (ls' := [(0, .inr (.inr (14, 6, 0))), (1, .inl k5v1), (2, .inl k5v2), (3, .inl s5.1), (4, .inl s5.2)]) (st' := [.inr (.inr (15, 6, 1)), .inl s5.1]) rfl rfl (f_X7_personAt_ok e2) ?_
    refine xq_guard h (fun g3 h => ?_)
    refine xq_prim (st' := [.inl (M.1 6 1 q1.toNatClampNeg), .inl s5.1]) (M' := M) rfl rfl rfl (xg_ald0 rfl g3) ?_
    refine xq_blk 1 (pc' := 25) (ls' := [(0, .inr (.inr (14, 6, 0))), (1, .inl k5v1), (2, .inl k5v2), (3, .inl s5.1), (4, .inl s5.2)]) (st' := [.inl k5v2, .inl (M.1 6 1 q1.toNatClampNeg), .inl s5.1]) (M' := M) rfl ?_
    refine xq_ite h (fun c6 h => ?_) (fun c6 h => ?_)
    · refine xq_core (pc' := 28) (ls' := [(0, .inr (.inr (14, 6, 0))), (1, .inl k5v1), (2, .inl k5v2), (3, .inl s5.1), (4, .inl s5.2)]) (st' := [.inl s5.1]) rfl (if_pos c6) ?_
      refine xq_blk 2 (pc' := 33) (ls' := [(0, .inr (.inr (14, 6, 0))), (1, .inl k5v1), (2, .inl k5v2), (3, .inl s5.1), (4, .inl s5.2)]) (st' := [.inl (1 : Int32), .inl s5.1]) (M' := M) rfl ?_
      exact xq_sub (a := [(0, .inr (.inr (14, 6, 0))), (1, .inl k5v1), (2, .inl k5v2), (4, .inl s5.2)]) ⟨rfl, rfl, rfl, rfl, trivial⟩ rfl (f_X7_given_j33_5_ok h h0 hr)
    · refine xq_core (pc' := 32) (ls' := [(0, .inr (.inr (14, 6, 0))), (1, .inl k5v1), (2, .inl k5v2), (3, .inl s5.1), (4, .inl s5.2)]) (st' := [.inl s5.1]) rfl (if_neg c6) ?_
      refine xq_blk 1 (pc' := 33) (ls' := [(0, .inr (.inr (14, 6, 0))), (1, .inl k5v1), (2, .inl k5v2), (3, .inl s5.1), (4, .inl s5.2)]) (st' := [.inl (0 : Int32), .inl s5.1]) (M' := M) rfl ?_
      exact xq_sub (a := [(0, .inr (.inr (14, 6, 0))), (1, .inl k5v1), (2, .inl k5v2), (4, .inl s5.2)]) ⟨rfl, rfl, rfl, rfl, trivial⟩ rfl (f_X7_given_j33_5_ok h h0 hr)
  · refine xq_core (pc' := 44) (ls' := [(0, .inr (.inr (14, 6, 0))), (1, .inl k5v1), (2, .inl k5v2), (3, .inl s5.1), (4, .inl s5.2)]) (st' := []) rfl (if_neg c7) ?_
    refine xq_map h (fun p h e => ?_)
    replace hr := fun q e' => hr q (e.symm.trans (congrArg Sum.inr e'))
    clear e
    refine xq_blk 1 (pc' := 45) (ls' := [(0, .inr (.inr (14, 6, 0))), (1, .inl k5v1), (2, .inl k5v2), (3, .inl s5.1), (4, .inl s5.2)]) (st' := [.inl s5.1]) (M' := M) rfl ?_
    exact (hr _ (Option.some.inj h).symm) ▸ xq_ret rfl
def f_X7_given (a1 : Int32) (a2 : Int32) (M : xM) : Option (Int32) := xlp (f_X7_given_l5 a1 a2 M) 4000 ((0 : Int32), (0 : Int32))
theorem f_X7_given_run {X : List Int32} {a1 : Int32} {a2 : Int32} {M : xM} {p : Int32} {r : xR} (h : f_X7_given a1 a2 M = some p) (hr : ∀ q, p = q → ((some (.inl q), M) : xR) = r) : xq X xe 126 0 [(0, .inr (.inr (14, 6, 0))), (1, .inl a1), (2, .inl a2)] [] M r := by
  unfold f_X7_given at h
  refine xq_blk 4 (pc' := 5) (ls' := [(4, .inl (0 : Int32)), (3, .inl (0 : Int32)), (0, .inr (.inr (14, 6, 0))), (1, .inl a1), (2, .inl a2)]) (st' := []) (M' := M) rfl ?_
  refine xq_sub (a := [(0, .inr (.inr (14, 6, 0))), (1, .inl a1), (2, .inl a2), (3, .inl (0 : Int32)), (4, .inl (0 : Int32))]) ⟨rfl, rfl, rfl, rfl, rfl, trivial⟩ rfl ?_
  exact xlp_ok (P := fun s5 => xq X xe 126 5 [(0, .inr (.inr (14, 6, 0))), (1, .inl a1), (2, .inl a2), (3, .inl s5.1), (4, .inl s5.2)] [] M r) (fun s p' hb g0 g1 => f_X7_given_l5_ok hb g0 (fun q e => hr q (g1 _ e).symm)) 4000 _ h
theorem f_X7_given_ok {X : List Int32} {a1 : Int32} {a2 : Int32} {M : xM} {p : Int32} (h : f_X7_given a1 a2 M = some p) : xq X xe 126 0 [(0, .inr (.inr (14, 6, 0))), (1, .inl a1), (2, .inl a2)] [] M ((some (.inl p), M) : xR) := f_X7_given_run h (fun q e => by rw [e])
def f_X7_racksInUse_l5 (k5v1 : Int32) (k5v2 : Int32) (M : xM) (s5 : Int32 × Int32) : Option ((Int32 × Int32) ⊕ (Int32)) := if s5.2 < (8 : Int32) then (if xp_in ((k5v1 + (8 : Int32)) + k5v2) 3540 = true then (some (.inl (s5.1 + ((1 : Int32) - (((M.1 6 1 ((k5v1 + (8 : Int32)) + k5v2).toNatClampNeg) >>> (s5.2 &&& (31 : Int32))) &&& (1 : Int32))), s5.2 + (1 : Int32)))) else none) else (Option.map Sum.inr (some (s5.1)))
theorem f_X7_racksInUse_l5_ok {X : List Int32} {k5v1 : Int32} {k5v2 : Int32} {M : xM} {s5 : Int32 × Int32} {p : (Int32 × Int32) ⊕ (Int32)} {r : xR} (h : f_X7_racksInUse_l5 k5v1 k5v2 M s5 = some p) (h0 : ∀ s', p = .inl s' → xq X xe 124 5 [(0, .inr (.inr (14, 6, 0))), (1, .inl k5v1), (2, .inl k5v2), (3, .inl s'.1), (4, .inl s'.2)] [] M r) (hr : ∀ q, p = .inr (q) → ((some (.inl q), M) : xR) = r) : xq X xe 124 5 [(0, .inr (.inr (14, 6, 0))), (1, .inl k5v1), (2, .inl k5v2), (3, .inl s5.1), (4, .inl s5.2)] [] M r := by
  unfold f_X7_racksInUse_l5 at h
  refine xq_blk 2 (pc' := 9) (ls' := [(0, .inr (.inr (14, 6, 0))), (1, .inl k5v1), (2, .inl k5v2), (3, .inl s5.1), (4, .inl s5.2)]) (st' := [.inl (8 : Int32), .inl s5.2]) (M' := M) rfl ?_
  refine xq_ite h (fun c2 h => ?_) (fun c2 h => ?_)
  · refine xq_core (pc' := 12) (ls' := [(0, .inr (.inr (14, 6, 0))), (1, .inl k5v1), (2, .inl k5v2), (3, .inl s5.1), (4, .inl s5.2)]) (st' := []) rfl (if_pos c2) ?_
    refine xq_blk 9 (pc' := 24) (ls' := [(0, .inr (.inr (14, 6, 0))), (1, .inl k5v1), (2, .inl k5v2), (3, .inl s5.1), (4, .inl s5.2)]) (st' := [.inl ((k5v1 + (8 : Int32)) + k5v2), .inr (.inr (15, 6, 1)), .inl (1 : Int32), .inl s5.1]) (M' := M) rfl ?_
    refine xq_guard h (fun g1 h => ?_)
    refine xq_prim (st' := [.inl (M.1 6 1 ((k5v1 + (8 : Int32)) + k5v2).toNatClampNeg), .inl (1 : Int32), .inl s5.1]) (M' := M) rfl rfl rfl (xg_ald0 rfl g1) ?_
    refine xq_blk 9 (pc' := 5) (ls' := [(4, .inl (s5.2 + (1 : Int32))), (3, .inl (s5.1 + ((1 : Int32) - (((M.1 6 1 ((k5v1 + (8 : Int32)) + k5v2).toNatClampNeg) >>> (s5.2 &&& (31 : Int32))) &&& (1 : Int32))))), (0, .inr (.inr (14, 6, 0))), (1, .inl k5v1), (2, .inl k5v2)]) (st' := []) (M' := M) rfl ?_
    exact xq_sub (a := [(0, .inr (.inr (14, 6, 0))), (1, .inl k5v1), (2, .inl k5v2), (3, .inl ((s5.1 + ((1 : Int32) - (((M.1 6 1 ((k5v1 + (8 : Int32)) + k5v2).toNatClampNeg) >>> (s5.2 &&& (31 : Int32))) &&& (1 : Int32))), s5.2 + (1 : Int32)).1)), (4, .inl ((s5.1 + ((1 : Int32) - (((M.1 6 1 ((k5v1 + (8 : Int32)) + k5v2).toNatClampNeg) >>> (s5.2 &&& (31 : Int32))) &&& (1 : Int32))), s5.2 + (1 : Int32)).2))]) ⟨rfl, rfl, rfl, rfl, rfl, trivial⟩ rfl (h0 (s5.1 + ((1 : Int32) - (((M.1 6 1 ((k5v1 + (8 : Int32)) + k5v2).toNatClampNeg) >>> (s5.2 &&& (31 : Int32))) &&& (1 : Int32))), s5.2 + (1 : Int32)) (Option.some.inj h).symm)
  · refine xq_core (pc' := 39) (ls' := [(0, .inr (.inr (14, 6, 0))), (1, .inl k5v1), (2, .inl k5v2), (3, .inl s5.1), (4, .inl s5.2)]) (st' := []) rfl (if_neg c2) ?_
    refine xq_map h (fun p h e => ?_)
    replace hr := fun q e' => hr q (e.symm.trans (congrArg Sum.inr e'))
    clear e
    refine xq_blk 1 (pc' := 40) (ls' := [(0, .inr (.inr (14, 6, 0))), (1, .inl k5v1), (2, .inl k5v2), (3, .inl s5.1), (4, .inl s5.2)]) (st' := [.inl s5.1]) (M' := M) rfl ?_
    exact (hr _ (Option.some.inj h).symm) ▸ xq_ret rfl
def f_X7_racksInUse (a1 : Int32) (a2 : Int32) (M : xM) : Option (Int32) := xlp (f_X7_racksInUse_l5 a1 a2 M) 4000 ((0 : Int32), (0 : Int32))
theorem f_X7_racksInUse_run {X : List Int32} {a1 : Int32} {a2 : Int32} {M : xM} {p : Int32} {r : xR} (h : f_X7_racksInUse a1 a2 M = some p) (hr : ∀ q, p = q → ((some (.inl q), M) : xR) = r) : xq X xe 124 0 [(0, .inr (.inr (14, 6, 0))), (1, .inl a1), (2, .inl a2)] [] M r := by
  unfold f_X7_racksInUse at h
  refine xq_blk 4 (pc' := 5) (ls' := [(4, .inl (0 : Int32)), (3, .inl (0 : Int32)), (0, .inr (.inr (14, 6, 0))), (1, .inl a1), (2, .inl a2)]) (st' := []) (M' := M) rfl ?_
  refine xq_sub (a := [(0, .inr (.inr (14, 6, 0))), (1, .inl a1), (2, .inl a2), (3, .inl (0 : Int32)), (4, .inl (0 : Int32))]) ⟨rfl, rfl, rfl, rfl, rfl, trivial⟩ rfl ?_
  exact xlp_ok (P := fun s5 => xq X xe 124 5 [(0, .inr (.inr (14, 6, 0))), (1, .inl a1), (2, .inl a2), (3, .inl s5.1), (4, .inl s5.2)] [] M r) (fun s p' hb g0 g1 => f_X7_racksInUse_l5_ok hb g0 (fun q e => hr q (g1 _ e).symm)) 4000 _ h
theorem f_X7_racksInUse_ok {X : List Int32} {a1 : Int32} {a2 : Int32} {M : xM} {p : Int32} (h : f_X7_racksInUse a1 a2 M = some p) : xq X xe 124 0 [(0, .inr (.inr (14, 6, 0))), (1, .inl a1), (2, .inl a2)] [] M ((some (.inl p), M) : xR) := f_X7_racksInUse_run h (fun q e => by rw [e])
def f_X7_permits (a1 : Int32) (a2 : Int32) (M : xM) : Option (Int32) := (f_X7_racksInUse a1 a2 M).bind (fun q1 => if xp_in (a1 + (0 : Int32)) 3540 = true then (some ((q1 + (M.1 6 1 (a1 + (0 : Int32)).toNatClampNeg)))) else none)
theorem f_X7_permits_run {X : List Int32} {a1 : Int32} {a2 : Int32} {M : xM} {p : Int32} {r : xR} (h : f_X7_permits a1 a2 M = some p) (hr : ∀ q, p = q → ((some (.inl q), M) : xR) = r) : xq X xe 125 0 [(0, .inr (.inr (14, 6, 0))), (1, .inl a1), (2, .inl a2)] [] M r := by
  unfold f_X7_permits at h
  refine xq_blk 3 (pc' := 3) (ls' := [(0, .inr (.inr (14, 6, 0))), (1, .inl a1), (2, .inl a2)]) (st' := [.inl a2, .inl a1, .inr (.inr (14, 6, 0))]) (M' := M) rfl ?_
  refine xq_bind h (fun q1 e2 h => ?_)
  refine xq_call (j := 124) (as := [.inr (.inr (14, 6, 0)), .inl a1, .inl a2]) (pc' := 6) (ls' := [(0, .inr (.inr (14, 6, 0))), (1, .inl a1), (2, .inl a2)]) (st' := []) rfl rfl (f_X7_racksInUse_ok e2) ?_
  refine xq_blk 5 (pc' := 13) (ls' := [(0, .inr (.inr (14, 6, 0))), (1, .inl a1), (2, .inl a2)]) (st' := [.inl (a1 + (0 : Int32)), .inr (.inr (15, 6, 1)), .inl q1]) (M' := M) rfl ?_
  refine xq_guard h (fun g3 h => ?_)
  refine xq_prim (st' := [.inl (M.1 6 1 (a1 + (0 : Int32)).toNatClampNeg), .inl q1]) (M' := M) rfl rfl rfl (xg_ald0 rfl g3) ?_
  refine xq_blk 1 (pc' := 15) (ls' := [(0, .inr (.inr (14, 6, 0))), (1, .inl a1), (2, .inl a2)]) (st' := [.inl (q1 + (M.1 6 1 (a1 + (0 : Int32)).toNatClampNeg))]) (M' := M) rfl ?_
  exact (hr _ (Option.some.inj h).symm) ▸ xq_ret rfl
theorem f_X7_permits_ok {X : List Int32} {a1 : Int32} {a2 : Int32} {M : xM} {p : Int32} (h : f_X7_permits a1 a2 M = some p) : xq X xe 125 0 [(0, .inr (.inr (14, 6, 0))), (1, .inl a1), (2, .inl a2)] [] M ((some (.inl p), M) : xR) := f_X7_permits_run h (fun q e => by rw [e])
def f_X7_placeAt (a0 : Int32) (a1 : Int32) (a2 : Int32) (M : xM) : Option (Int32) := some (((a0 + (174 : Int32)) + ((3 : Int32) * (((20 : Int32) * a1) + a2))))
theorem f_X7_placeAt_run {X : List Int32} {a0 : Int32} {a1 : Int32} {a2 : Int32} {M : xM} {p : Int32} {r : xR} (h : f_X7_placeAt a0 a1 a2 M = some p) (hr : ∀ q, p = q → ((some (.inl q), M) : xR) = r) : xq X xe 123 0 [(0, .inl a0), (1, .inl a1), (2, .inl a2)] [] M r := by
  unfold f_X7_placeAt at h
  refine xq_blk 10 (pc' := 13) (ls' := [(0, .inl a0), (1, .inl a1), (2, .inl a2)]) (st' := [.inl ((3 : Int32) * (((20 : Int32) * a1) + a2)), .inl (a0 + (174 : Int32))]) (M' := M) rfl ?_
  refine xq_blk 1 (pc' := 14) (ls' := [(0, .inl a0), (1, .inl a1), (2, .inl a2)]) (st' := [.inl ((a0 + (174 : Int32)) + ((3 : Int32) * (((20 : Int32) * a1) + a2)))]) (M' := M) rfl ?_
  exact (hr _ (Option.some.inj h).symm) ▸ xq_ret rfl
theorem f_X7_placeAt_ok {X : List Int32} {a0 : Int32} {a1 : Int32} {a2 : Int32} {M : xM} {p : Int32} (h : f_X7_placeAt a0 a1 a2 M = some p) : xq X xe 123 0 [(0, .inl a0), (1, .inl a1), (2, .inl a2)] [] M ((some (.inl p), M) : xR) := f_X7_placeAt_run h (fun q e => by rw [e])
def f_X7_placeOf_l7 (k7v1 : Int32) (k7v2 : Int32) (k7v3 : Int32) (M : xM) (s7 : Int32 × Int32) : Option ((Int32 × Int32) ⊕ (Int32)) := if xp_in ((k7v1 + (11 : Int32)) + k7v2) 3540 = true then (if s7.2 < (M.1 6 1 ((k7v1 + (11 : Int32)) + k7v2).toNatClampNeg) then ((f_X7_placeAt k7v1 k7v2 s7.2 M).bind (fun q2 => if xp_in q2 3540 = true then (if (M.1 6 1 q2.toNatClampNeg) = k7v3 then (some (.inl (s7.2, s7.2 + (1 : Int32)))) else (some (.inl (s7.1, s7.2 + (1 : Int32))))) else none)) else (Option.map Sum.inr (some (s7.1)))) else none
theorem f_X7_placeOf_l7_ok {X : List Int32} {k7v1 : Int32} {k7v2 : Int32} {k7v3 : Int32} {M : xM} {s7 : Int32 × Int32} {p : (Int32 × Int32) ⊕ (Int32)} {r : xR} (h : f_X7_placeOf_l7 k7v1 k7v2 k7v3 M s7 = some p) (h0 : ∀ s', p = .inl s' → xq X xe 127 7 [(0, .inr (.inr (14, 6, 0))), (1, .inl k7v1), (2, .inl k7v2), (3, .inl k7v3), (4, .inl s'.1), (5, .inl s'.2)] [] M r) (hr : ∀ q, p = .inr (q) → ((some (.inl q), M) : xR) = r) : xq X xe 127 7 [(0, .inr (.inr (14, 6, 0))), (1, .inl k7v1), (2, .inl k7v2), (3, .inl k7v3), (4, .inl s7.1), (5, .inl s7.2)] [] M r := by
  unfold f_X7_placeOf_l7 at h
  refine xq_blk 8 (pc' := 19) (ls' := [(0, .inr (.inr (14, 6, 0))), (1, .inl k7v1), (2, .inl k7v2), (3, .inl k7v3), (4, .inl s7.1), (5, .inl s7.2)]) (st' := [.inl ((k7v1 + (11 : Int32)) + k7v2), .inr (.inr (15, 6, 1)), .inl s7.2]) (M' := M) rfl ?_
  refine xq_guard h (fun g1 h => ?_)
  refine xq_prim (st' := [.inl (M.1 6 1 ((k7v1 + (11 : Int32)) + k7v2).toNatClampNeg), .inl s7.2]) (M' := M) rfl rfl rfl (xg_ald0 rfl g1) ?_
  refine xq_ite h (fun c6 h => ?_) (fun c6 h => ?_)
  · refine xq_core (pc' := 23) (ls' := [(0, .inr (.inr (14, 6, 0))), (1, .inl k7v1), (2, .inl k7v2), (3, .inl k7v3), (4, .inl s7.1), (5, .inl s7.2)]) (st' := []) rfl (if_pos c6) ?_
    refine xq_blk 5 (pc' := 31) (ls' := [(0, .inr (.inr (14, 6, 0))), (1, .inl k7v1), (2, .inl k7v2), (3, .inl k7v3), (4, .inl s7.1), (5, .inl s7.2)]) (st' := [.inl s7.2, .inl k7v2, .inl k7v1, .inr (.inr (15, 6, 1))]) (M' := M) rfl ?_
    refine xq_bind h (fun q2 e3 h => ?_)
    refine xq_call (j := 123) (as := [.inl k7v1, .inl k7v2, .inl s7.2]) (pc' := 34) (ls' := [(0, .inr (.inr (14, 6, 0))), (1, .inl k7v1), (2, .inl k7v2), (3, .inl k7v3), (4, .inl s7.1), (5, .inl s7.2)]) (st' := [.inr (.inr (15, 6, 1))]) rfl rfl (f_X7_placeAt_ok e3) ?_
    refine xq_guard h (fun g4 h => ?_)
    refine xq_prim (st' := [.inl (M.1 6 1 q2.toNatClampNeg)]) (M' := M) rfl rfl rfl (xg_ald0 rfl g4) ?_
    refine xq_blk 1 (pc' := 36) (ls' := [(0, .inr (.inr (14, 6, 0))), (1, .inl k7v1), (2, .inl k7v2), (3, .inl k7v3), (4, .inl s7.1), (5, .inl s7.2)]) (st' := [.inl k7v3, .inl (M.1 6 1 q2.toNatClampNeg)]) (M' := M) rfl ?_
    refine xq_ite h (fun c5 h => ?_) (fun c5 h => ?_)
    · refine xq_core (pc' := 39) (ls' := [(0, .inr (.inr (14, 6, 0))), (1, .inl k7v1), (2, .inl k7v2), (3, .inl k7v3), (4, .inl s7.1), (5, .inl s7.2)]) (st' := []) rfl (if_pos c5) ?_
      refine xq_blk 5 (pc' := 7) (ls' := [(5, .inl (s7.2 + (1 : Int32))), (4, .inl s7.2), (0, .inr (.inr (14, 6, 0))), (1, .inl k7v1), (2, .inl k7v2), (3, .inl k7v3)]) (st' := []) (M' := M) rfl ?_
      exact xq_sub (a := [(0, .inr (.inr (14, 6, 0))), (1, .inl k7v1), (2, .inl k7v2), (3, .inl k7v3), (4, .inl ((s7.2, s7.2 + (1 : Int32)).1)), (5, .inl ((s7.2, s7.2 + (1 : Int32)).2))]) ⟨rfl, rfl, rfl, rfl, rfl, rfl, trivial⟩ rfl (h0 (s7.2, s7.2 + (1 : Int32)) (Option.some.inj h).symm)
    · refine xq_core (pc' := 44) (ls' := [(0, .inr (.inr (14, 6, 0))), (1, .inl k7v1), (2, .inl k7v2), (3, .inl k7v3), (4, .inl s7.1), (5, .inl s7.2)]) (st' := []) rfl (if_neg c5) ?_
      refine xq_blk 4 (pc' := 7) (ls' := [(5, .inl (s7.2 + (1 : Int32))), (4, .inl s7.1), (0, .inr (.inr (14, 6, 0))), (1, .inl k7v1), (2, .inl k7v2), (3, .inl k7v3)]) (st' := []) (M' := M) rfl ?_
      exact xq_sub (a := [(0, .inr (.inr (14, 6, 0))), (1, .inl k7v1), (2, .inl k7v2), (3, .inl k7v3), (4, .inl ((s7.1, s7.2 + (1 : Int32)).1)), (5, .inl ((s7.1, s7.2 + (1 : Int32)).2))]) ⟨rfl, rfl, rfl, rfl, rfl, rfl, trivial⟩ rfl (h0 (s7.1, s7.2 + (1 : Int32)) (Option.some.inj h).symm)
  · refine xq_core (pc' := 54) (ls' := [(0, .inr (.inr (14, 6, 0))), (1, .inl k7v1), (2, .inl k7v2), (3, .inl k7v3), (4, .inl s7.1), (5, .inl s7.2)]) (st' := []) rfl (if_neg c6) ?_
    refine xq_map h (fun p h e => ?_)
    replace hr := fun q e' => hr q (e.symm.trans (congrArg Sum.inr e'))
    clear e
    refine xq_blk 1 (pc' := 56) (ls' := [(0, .inr (.inr (14, 6, 0))), (1, .inl k7v1), (2, .inl k7v2), (3, .inl k7v3), (4, .inl s7.1), (5, .inl s7.2)]) (st' := [.inl s7.1]) (M' := M) rfl ?_
    exact (hr _ (Option.some.inj h).symm) ▸ xq_ret rfl
def f_X7_placeOf (a1 : Int32) (a2 : Int32) (a3 : Int32) (M : xM) : Option (Int32) := xlp (f_X7_placeOf_l7 a1 a2 a3 M) 4000 ((-6 : Int32), (0 : Int32))
theorem f_X7_placeOf_run {X : List Int32} {a1 : Int32} {a2 : Int32} {a3 : Int32} {M : xM} {p : Int32} {r : xR} (h : f_X7_placeOf a1 a2 a3 M = some p) (hr : ∀ q, p = q → ((some (.inl q), M) : xR) = r) : xq X xe 127 0 [(0, .inr (.inr (14, 6, 0))), (1, .inl a1), (2, .inl a2), (3, .inl a3)] [] M r := by
  unfold f_X7_placeOf at h
  refine xq_blk 4 (pc' := 7) (ls' := [(5, .inl (0 : Int32)), (4, .inl (-6 : Int32)), (0, .inr (.inr (14, 6, 0))), (1, .inl a1), (2, .inl a2), (3, .inl a3)]) (st' := []) (M' := M) rfl ?_
  refine xq_sub (a := [(0, .inr (.inr (14, 6, 0))), (1, .inl a1), (2, .inl a2), (3, .inl a3), (4, .inl (-6 : Int32)), (5, .inl (0 : Int32))]) ⟨rfl, rfl, rfl, rfl, rfl, rfl, trivial⟩ rfl ?_
  exact xlp_ok (P := fun s7 => xq X xe 127 7 [(0, .inr (.inr (14, 6, 0))), (1, .inl a1), (2, .inl a2), (3, .inl a3), (4, .inl s7.1), (5, .inl s7.2)] [] M r) (fun s p' hb g0 g1 => f_X7_placeOf_l7_ok hb g0 (fun q e => hr q (g1 _ e).symm)) 4000 _ h
theorem f_X7_placeOf_ok {X : List Int32} {a1 : Int32} {a2 : Int32} {a3 : Int32} {M : xM} {p : Int32} (h : f_X7_placeOf a1 a2 a3 M = some p) : xq X xe 127 0 [(0, .inr (.inr (14, 6, 0))), (1, .inl a1), (2, .inl a2), (3, .inl a3)] [] M ((some (.inl p), M) : xR) := f_X7_placeOf_run h (fun q e => by rw [e])
def f_X7_leavesLists_l47_2 (k2v1 : Int32) (k2v2 : Int32) (k47v3 : Int32) (s47 : Int32 × xM) : Option ((Int32 × xM) ⊕ ((Int32 × xM) ⊕ (xM))) := if xp_in ((k2v1 + (11 : Int32)) + k47v3) 3540 = true then ((f_X7_placeAt k2v1 k47v3 (s47.2.1 6 1 ((k2v1 + (11 : Int32)) + k47v3).toNatClampNeg) s47.2).bind (fun q8 => if s47.1 < q8 then (if xp_in (s47.1 + (3 : Int32)) 3540 = true then (if xp_in s47.1 3540 = true then (some (.inl (s47.1 + (1 : Int32), xd_up s47.2 6 1 s47.1.toNatClampNeg (s47.2.1 6 1 (s47.1 + (3 : Int32)).toNatClampNeg)))) else none) else none) else (Option.map Sum.inr (some (.inl (k47v3 + (1 : Int32), s47.2)))))) else none
theorem f_X7_leavesLists_l47_2_ok {X : List Int32} {k2v1 : Int32} {k2v2 : Int32} {k47v3 : Int32} {s47 : Int32 × xM} {p : (Int32 × xM) ⊕ ((Int32 × xM) ⊕ (xM))} {r : xR} (h : f_X7_leavesLists_l47_2 k2v1 k2v2 k47v3 s47 = some p) (h0 : ∀ s', p = .inl s' → xq X xe 129 47 [(0, .inr (.inr (14, 6, 0))), (1, .inl k2v1), (2, .inl k2v2), (3, .inl k47v3), (5, .inl s'.1)] [] s'.2 r) (h1 : ∀ s', p = .inr (.inl s') → xq X xe 129 2 [(0, .inr (.inr (14, 6, 0))), (1, .inl k2v1), (2, .inl k2v2), (3, .inl s'.1)] [] s'.2 r) (hr : ∀ q, p = .inr (.inr (q)) → ((none, q) : xR) = r) : xq X xe 129 47 [(0, .inr (.inr (14, 6, 0))), (1, .inl k2v1), (2, .inl k2v2), (3, .inl k47v3), (5, .inl s47.1)] [] s47.2 r := by
  unfold f_X7_leavesLists_l47_2 at h
  refine xq_blk 10 (pc' := 61) (ls' := [(0, .inr (.inr (14, 6, 0))), (1, .inl k2v1), (2, .inl k2v2), (3, .inl k47v3), (5, .inl s47.1)]) (st' := [.inl ((k2v1 + (11 : Int32)) + k47v3), .inr (.inr (15, 6, 1)), .inl k47v3, .inl k2v1, .inl s47.1]) (M' := s47.2) rfl ?_
  refine xq_guard h (fun g7 h => ?_)
  refine xq_prim (st' := [.inl (s47.2.1 6 1 ((k2v1 + (11 : Int32)) + k47v3).toNatClampNeg), .inl k47v3, .inl k2v1, .inl s47.1]) (M' := s47.2) rfl rfl rfl (xg_ald0 rfl g7) ?_
  refine xq_bind h (fun q8 e9 h => ?_)
  refine xq_call (j := 123) (as := [.inl k2v1, .inl k47v3, .inl (s47.2.1 6 1 ((k2v1 + (11 : Int32)) + k47v3).toNatClampNeg)]) (pc' := 65) (ls' := [(0, .inr (.inr (14, 6, 0))), (1, .inl k2v1), (2, .inl k2v2), (3, .inl k47v3), (5, .inl s47.1)]) (st' := [.inl s47.1]) rfl rfl (f_X7_placeAt_ok e9) ?_
  refine xq_ite h (fun c12 h => ?_) (fun c12 h => ?_)
  · refine xq_core (pc' := 68) (ls' := [(0, .inr (.inr (14, 6, 0))), (1, .inl k2v1), (2, .inl k2v2), (3, .inl k47v3), (5, .inl s47.1)]) (st' := []) rfl (if_pos c12) ?_
    refine xq_blk 8 (pc' := 82) (ls' := [(0, .inr (.inr (14, 6, 0))), (1, .inl k2v1), (2, .inl k2v2), (3, .inl k47v3), (5, .inl s47.1)]) (st' := [.inl (s47.1 + (3 : Int32)), .inr (.inr (15, 6, 1)), .inl s47.1, .inr (.inr (15, 6, 1))]) (M' := s47.2) rfl ?_
    refine xq_guard h (fun g10 h => ?_)
    refine xq_prim (st' := [.inl (s47.2.1 6 1 (s47.1 + (3 : Int32)).toNatClampNeg), .inl s47.1, .inr (.inr (15, 6, 1))]) (M' := s47.2) rfl rfl rfl (xg_ald0 rfl g10) ?_
    refine xq_guard h (fun g11 h => ?_)
    refine xq_prim (st' := []) (M' := xd_up s47.2 6 1 s47.1.toNatClampNeg (s47.2.1 6 1 (s47.1 + (3 : Int32)).toNatClampNeg)) rfl rfl rfl (xg_ast0 rfl g11) ?_
    refine xq_blk 2 (pc' := 47) (ls' := [(5, .inl (s47.1 + (1 : Int32))), (0, .inr (.inr (14, 6, 0))), (1, .inl k2v1), (2, .inl k2v2), (3, .inl k47v3)]) (st' := []) (M' := xd_up s47.2 6 1 s47.1.toNatClampNeg (s47.2.1 6 1 (s47.1 + (3 : Int32)).toNatClampNeg)) rfl ?_
    exact xq_sub (a := [(0, .inr (.inr (14, 6, 0))), (1, .inl k2v1), (2, .inl k2v2), (3, .inl k47v3), (5, .inl ((s47.1 + (1 : Int32), xd_up s47.2 6 1 s47.1.toNatClampNeg (s47.2.1 6 1 (s47.1 + (3 : Int32)).toNatClampNeg)).1))]) ⟨rfl, rfl, rfl, rfl, rfl, trivial⟩ rfl (h0 (s47.1 + (1 : Int32), xd_up s47.2 6 1 s47.1.toNatClampNeg (s47.2.1 6 1 (s47.1 + (3 : Int32)).toNatClampNeg)) (Option.some.inj h).symm)
  · refine xq_core (pc' := 90) (ls' := [(0, .inr (.inr (14, 6, 0))), (1, .inl k2v1), (2, .inl k2v2), (3, .inl k47v3), (5, .inl s47.1)]) (st' := []) rfl (if_neg c12) ?_
    refine xq_map h (fun p h e => ?_)
    replace h0 := fun s' e' => h1 s' (e.symm.trans (congrArg Sum.inr e'))
    replace hr := fun q e' => hr q (e.symm.trans (congrArg Sum.inr e'))
    clear e
    refine xq_blk 2 (pc' := 2) (ls' := [(3, .inl (k47v3 + (1 : Int32))), (0, .inr (.inr (14, 6, 0))), (1, .inl k2v1), (2, .inl k2v2), (5, .inl s47.1)]) (st' := []) (M' := s47.2) rfl ?_
    exact xq_sub (a := [(0, .inr (.inr (14, 6, 0))), (1, .inl k2v1), (2, .inl k2v2), (3, .inl ((k47v3 + (1 : Int32), s47.2).1))]) ⟨rfl, rfl, rfl, rfl, trivial⟩ rfl (h0 (k47v3 + (1 : Int32), s47.2) (Option.some.inj h).symm)
def f_X7_leavesLists_l2 (k2v1 : Int32) (k2v2 : Int32) (s2 : Int32 × xM) : Option ((Int32 × xM) ⊕ (xM)) := if s2.1 < (3 : Int32) then ((f_X7_placeOf k2v1 s2.1 k2v2 s2.2).bind (fun q1 => if q1 = (-6 : Int32) then (some (.inl (s2.1 + (1 : Int32), s2.2))) else (if xp_in ((k2v1 + (11 : Int32)) + s2.1) 3540 = true then (if xp_in ((k2v1 + (11 : Int32)) + s2.1) 3540 = true then ((f_X7_placeAt k2v1 s2.1 q1 (xd_up s2.2 6 1 ((k2v1 + (11 : Int32)) + s2.1).toNatClampNeg ((s2.2.1 6 1 ((k2v1 + (11 : Int32)) + s2.1).toNatClampNeg) - (1 : Int32)))).bind (fun q5 => xlp (f_X7_leavesLists_l47_2 k2v1 k2v2 s2.1) 4000 (q5, xd_up s2.2 6 1 ((k2v1 + (11 : Int32)) + s2.1).toNatClampNeg ((s2.2.1 6 1 ((k2v1 + (11 : Int32)) + s2.1).toNatClampNeg) - (1 : Int32))))) else none) else none))) else (Option.map Sum.inr (some (s2.2)))
theorem f_X7_leavesLists_l2_ok {X : List Int32} {k2v1 : Int32} {k2v2 : Int32} {s2 : Int32 × xM} {p : (Int32 × xM) ⊕ (xM)} {r : xR} (h : f_X7_leavesLists_l2 k2v1 k2v2 s2 = some p) (h0 : ∀ s', p = .inl s' → xq X xe 129 2 [(0, .inr (.inr (14, 6, 0))), (1, .inl k2v1), (2, .inl k2v2), (3, .inl s'.1)] [] s'.2 r) (hr : ∀ q, p = .inr (q) → ((none, q) : xR) = r) : xq X xe 129 2 [(0, .inr (.inr (14, 6, 0))), (1, .inl k2v1), (2, .inl k2v2), (3, .inl s2.1)] [] s2.2 r := by
  unfold f_X7_leavesLists_l2 at h
  refine xq_blk 2 (pc' := 4) (ls' := [(0, .inr (.inr (14, 6, 0))), (1, .inl k2v1), (2, .inl k2v2), (3, .inl s2.1)]) (st' := [.inl (3 : Int32), .inl s2.1]) (M' := s2.2) rfl ?_
  refine xq_ite h (fun c14 h => ?_) (fun c14 h => ?_)
  · refine xq_core (pc' := 7) (ls' := [(0, .inr (.inr (14, 6, 0))), (1, .inl k2v1), (2, .inl k2v2), (3, .inl s2.1)]) (st' := []) rfl (if_pos c14) ?_
    refine xq_blk 4 (pc' := 11) (ls' := [(0, .inr (.inr (14, 6, 0))), (1, .inl k2v1), (2, .inl k2v2), (3, .inl s2.1)]) (st' := [.inl k2v2, .inl s2.1, .inl k2v1, .inr (.inr (14, 6, 0))]) (M' := s2.2) rfl ?_
    refine xq_bind h (fun q1 e2 h => ?_)
    refine xq_call (j := 127) (as := [.inr (.inr (14, 6, 0)), .inl k2v1, .inl s2.1, .inl k2v2]) (pc' := 14) (ls' := [(0, .inr (.inr (14, 6, 0))), (1, .inl k2v1), (2, .inl k2v2), (3, .inl s2.1)]) (st' := []) rfl rfl (f_X7_placeOf_ok e2) ?_
    refine xq_blk 3 (pc' := 20) (ls' := [(4, .inl q1), (0, .inr (.inr (14, 6, 0))), (1, .inl k2v1), (2, .inl k2v2), (3, .inl s2.1)]) (st' := [.inl (-6 : Int32), .inl q1]) (M' := s2.2) rfl ?_
    refine xq_ite h (fun c13 h => ?_) (fun c13 h => ?_)
    · refine xq_core (pc' := 90) (ls' := [(4, .inl q1), (0, .inr (.inr (14, 6, 0))), (1, .inl k2v1), (2, .inl k2v2), (3, .inl s2.1)]) (st' := []) rfl (if_pos c13) ?_
      refine xq_blk 2 (pc' := 2) (ls' := [(3, .inl (s2.1 + (1 : Int32))), (4, .inl q1), (0, .inr (.inr (14, 6, 0))), (1, .inl k2v1), (2, .inl k2v2)]) (st' := []) (M' := s2.2) rfl ?_
      exact xq_sub (a := [(0, .inr (.inr (14, 6, 0))), (1, .inl k2v1), (2, .inl k2v2), (3, .inl ((s2.1 + (1 : Int32), s2.2).1))]) ⟨rfl, rfl, rfl, rfl, trivial⟩ rfl (h0 (s2.1 + (1 : Int32), s2.2) (Option.some.inj h).symm)
    · refine xq_core (pc' := 23) (ls' := [(4, .inl q1), (0, .inr (.inr (14, 6, 0))), (1, .inl k2v1), (2, .inl k2v2), (3, .inl s2.1)]) (st' := []) rfl (if_neg c13) ?_
      refine xq_blk 8 (pc' := 34) (ls' := [(4, .inl q1), (0, .inr (.inr (14, 6, 0))), (1, .inl k2v1), (2, .inl k2v2), (3, .inl s2.1)]) (st' := [.inl ((k2v1 + (11 : Int32)) + s2.1), .inr (.inr (15, 6, 1)), .inl ((k2v1 + (11 : Int32)) + s2.1), .inr (.inr (15, 6, 1))]) (M' := s2.2) rfl ?_
      refine xq_guard h (fun g3 h => ?_)
      refine xq_prim (st' := [.inl (s2.2.1 6 1 ((k2v1 + (11 : Int32)) + s2.1).toNatClampNeg), .inl ((k2v1 + (11 : Int32)) + s2.1), .inr (.inr (15, 6, 1))]) (M' := s2.2) rfl rfl rfl (xg_ald0 rfl g3) ?_
      refine xq_blk 2 (pc' := 37) (ls' := [(4, .inl q1), (0, .inr (.inr (14, 6, 0))), (1, .inl k2v1), (2, .inl k2v2), (3, .inl s2.1)]) (st' := [.inl ((s2.2.1 6 1 ((k2v1 + (11 : Int32)) + s2.1).toNatClampNeg) - (1 : Int32)), .inl ((k2v1 + (11 : Int32)) + s2.1), .inr (.inr (15, 6, 1))]) (M' := s2.2) rfl ?_
      refine xq_guard h (fun g4 h => ?_)
      refine xq_prim (st' := []) (M' := xd_up s2.2 6 1 ((k2v1 + (11 : Int32)) + s2.1).toNatClampNeg ((s2.2.1 6 1 ((k2v1 + (11 : Int32)) + s2.1).toNatClampNeg) - (1 : Int32))) rfl rfl rfl (xg_ast0 rfl g4) ?_
      refine xq_blk 3 (pc' := 42) (ls' := [(4, .inl q1), (0, .inr (.inr (14, 6, 0))), (1, .inl k2v1), (2, .inl k2v2), (3, .inl s2.1)]) (st' := [.inl q1, .inl s2.1, .inl k2v1]) (M' := xd_up s2.2 6 1 ((k2v1 + (11 : Int32)) + s2.1).toNatClampNeg ((s2.2.1 6 1 ((k2v1 + (11 : Int32)) + s2.1).toNatClampNeg) - (1 : Int32))) rfl ?_
      refine xq_bind h (fun q5 e6 h => ?_)
      refine xq_call (j := 123) (as := [.inl k2v1, .inl s2.1, .inl q1]) (pc' := 45) (ls' := [(4, .inl q1), (0, .inr (.inr (14, 6, 0))), (1, .inl k2v1), (2, .inl k2v2), (3, .inl s2.1)]) (st' := []) rfl rfl (f_X7_placeAt_ok e6) ?_
      refine xq_blk 1 (pc' := 47) (ls' := [(5, .inl q5), (4, .inl q1), (0, .inr (.inr (14, 6, 0))), (1, .inl k2v1), (2, .inl k2v2), (3, .inl s2.1)]) (st' := []) (M' := xd_up s2.2 6 1 ((k2v1 + (11 : Int32)) + s2.1).toNatClampNeg ((s2.2.1 6 1 ((k2v1 + (11 : Int32)) + s2.1).toNatClampNeg) - (1 : Int32))) rfl ?_
      refine xq_sub (a := [(0, .inr (.inr (14, 6, 0))), (1, .inl k2v1), (2, .inl k2v2), (3, .inl s2.1), (5, .inl q5)]) ⟨rfl, rfl, rfl, rfl, rfl, trivial⟩ rfl ?_
      exact xlp_ok (P := fun s47 => xq X xe 129 47 [(0, .inr (.inr (14, 6, 0))), (1, .inl k2v1), (2, .inl k2v2), (3, .inl s2.1), (5, .inl s47.1)] [] s47.2 r) (fun s p' hb g0 g1 => f_X7_leavesLists_l47_2_ok hb g0 (fun s' e => h0 s' (g1 _ e).symm) (fun q e => hr q (g1 _ e).symm)) 4000 _ h
  · refine xq_core (pc' := 96) (ls' := [(0, .inr (.inr (14, 6, 0))), (1, .inl k2v1), (2, .inl k2v2), (3, .inl s2.1)]) (st' := []) rfl (if_neg c14) ?_
    refine xq_map h (fun p h e => ?_)
    replace hr := fun q e' => hr q (e.symm.trans (congrArg Sum.inr e'))
    clear e
    exact (hr _ (Option.some.inj h).symm) ▸ xq_ret rfl
def f_X7_leavesLists (a1 : Int32) (a2 : Int32) (M : xM) : Option (xM) := xlp (f_X7_leavesLists_l2 a1 a2) 4000 ((0 : Int32), M)
theorem f_X7_leavesLists_run {X : List Int32} {a1 : Int32} {a2 : Int32} {M : xM} {p : xM} {r : xR} (h : f_X7_leavesLists a1 a2 M = some p) (hr : ∀ q, p = q → ((none, q) : xR) = r) : xq X xe 129 0 [(0, .inr (.inr (14, 6, 0))), (1, .inl a1), (2, .inl a2)] [] M r := by
  unfold f_X7_leavesLists at h
  refine xq_blk 2 (pc' := 2) (ls' := [(3, .inl (0 : Int32)), (0, .inr (.inr (14, 6, 0))), (1, .inl a1), (2, .inl a2)]) (st' := []) (M' := M) rfl ?_
  refine xq_sub (a := [(0, .inr (.inr (14, 6, 0))), (1, .inl a1), (2, .inl a2), (3, .inl (0 : Int32))]) ⟨rfl, rfl, rfl, rfl, trivial⟩ rfl ?_
  exact xlp_ok (P := fun s2 => xq X xe 129 2 [(0, .inr (.inr (14, 6, 0))), (1, .inl a1), (2, .inl a2), (3, .inl s2.1)] [] s2.2 r) (fun s p' hb g0 g1 => f_X7_leavesLists_l2_ok hb g0 (fun q e => hr q (g1 _ e).symm)) 4000 _ h
theorem f_X7_leavesLists_ok {X : List Int32} {a1 : Int32} {a2 : Int32} {M : xM} {p : xM} (h : f_X7_leavesLists a1 a2 M = some p) : xq X xe 129 0 [(0, .inr (.inr (14, 6, 0))), (1, .inl a1), (2, .inl a2)] [] M ((none, p) : xR) := f_X7_leavesLists_run h (fun q e => by rw [e])
def f_X7_getsPermit (a1 : Int32) (a2 : Int32) (a3 : Int32) (a4 : Int32) (M : xM) : Option (xM) := (f_X7_personAt a1 a2 M).bind (fun q1 => if xp_in q1 3540 = true then ((f_X7_personAt a1 a2 (xd_up M 6 1 q1.toNatClampNeg a3)).bind (fun q4 => if xp_in (a1 + (4 : Int32)) 3540 = true then (if xp_in (q4 + (1 : Int32)) 3540 = true then (if xp_in (a1 + (7 : Int32)) 3540 = true then (if xp_in (a1 + (7 : Int32)) 3540 = true then ((f_X7_leavesLists a1 a2 (xd_up (xd_up (xd_up M 6 1 q1.toNatClampNeg a3) 6 1 (q4 + (1 : Int32)).toNatClampNeg ((((xd_up M 6 1 q1.toNatClampNeg a3).1 6 1 (a1 + (4 : Int32)).toNatClampNeg) + a4) - (1 : Int32))) 6 1 (a1 + (7 : Int32)).toNatClampNeg (((xd_up (xd_up M 6 1 q1.toNatClampNeg a3) 6 1 (q4 + (1 : Int32)).toNatClampNeg ((((xd_up M 6 1 q1.toNatClampNeg a3).1 6 1 (a1 + (4 : Int32)).toNatClampNeg) + a4) - (1 : Int32))).1 6 1 (a1 + (7 : Int32)).toNatClampNeg) + (1 : Int32)))).bind (fun q10 => some (q10))) else none) else none) else none) else none)) else none)
theorem f_X7_getsPermit_run {X : List Int32} {a1 : Int32} {a2 : Int32} {a3 : Int32} {a4 : Int32} {M : xM} {p : xM} {r : xR} (h : f_X7_getsPermit a1 a2 a3 a4 M = some p) (hr : ∀ q, p = q → ((none, q) : xR) = r) : xq X xe 130 0 [(0, .inr (.inr (14, 6, 0))), (1, .inl a1), (2, .inl a2), (3, .inl a3), (4, .inl a4)] [] M r := by
  unfold f_X7_getsPermit at h
  refine xq_blk 4 (pc' := 6) (ls' := [(0, .inr (.inr (14, 6, 0))), (1, .inl a1), (2, .inl a2), (3, .inl a3), (4, .inl a4)]) (st' := [.inl a2, .inl a1, .inr (.inr (15, 6, 1))]) (M' := M) rfl ?_
  refine xq_bind h (fun q1 e2 h => ?_)
  refine xq_call (j := 117) (as := [.inl a1, .inl a2]) (pc' := 9) (ls' := [(0, .inr (.inr (14, 6, 0))), (1, .inl a1), (2, .inl a2), (3, .inl a3), (4, .inl a4)]) (st' := [.inr (.inr (15, 6, 1))]) rfl rfl (f_X7_personAt_ok e2) ?_
  refine xq_blk 1 (pc' := 10) (ls' := [(0, .inr (.inr (14, 6, 0))), (1, .inl a1), (2, .inl a2), (3, .inl a3), (4, .inl a4)]) (st' := [.inl a3, .inl q1, .inr (.inr (15, 6, 1))]) (M' := M) rfl ?_
  refine xq_guard h (fun g3 h => ?_)
  refine xq_prim (st' := []) (M' := xd_up M 6 1 q1.toNatClampNeg a3) rfl rfl rfl (xg_ast0 rfl g3) ?_
  refine xq_blk 4 (pc' := 17) (ls' := [(0, .inr (.inr (14, 6, 0))), (1, .inl a1), (2, .inl a2), (3, .inl a3), (4, .inl a4)]) (st' := [.inl a2, .inl a1, .inr (.inr (15, 6, 1))]) (M' := xd_up M 6 1 q1.toNatClampNeg a3) rfl ?_
  refine xq_bind h (fun q4 e5 h => ?_)
  refine xq_call (j := 117) (as := [.inl a1, .inl a2]) (pc' := 20) (ls' := [(0, .inr (.inr (14, 6, 0))), (1, .inl a1), (2, .inl a2), (3, .inl a3), (4, .inl a4)]) (st' := [.inr (.inr (15, 6, 1))]) rfl rfl (f_X7_personAt_ok e5) ?_
  refine xq_blk 7 (pc' := 29) (ls' := [(0, .inr (.inr (14, 6, 0))), (1, .inl a1), (2, .inl a2), (3, .inl a3), (4, .inl a4)]) (st' := [.inl (a1 + (4 : Int32)), .inr (.inr (15, 6, 1)), .inl (q4 + (1 : Int32)), .inr (.inr (15, 6, 1))]) (M' := xd_up M 6 1 q1.toNatClampNeg a3) rfl ?_
  refine xq_guard h (fun g6 h => ?_)
  refine xq_prim (st' := [.inl ((xd_up M 6 1 q1.toNatClampNeg a3).1 6 1 (a1 + (4 : Int32)).toNatClampNeg), .inl (q4 + (1 : Int32)), .inr (.inr (15, 6, 1))]) (M' := xd_up M 6 1 q1.toNatClampNeg a3) rfl rfl rfl (xg_ald0 rfl g6) ?_
  refine xq_blk 4 (pc' := 35) (ls' := [(0, .inr (.inr (14, 6, 0))), (1, .inl a1), (2, .inl a2), (3, .inl a3), (4, .inl a4)]) (st' := [.inl ((((xd_up M 6 1 q1.toNatClampNeg a3).1 6 1 (a1 + (4 : Int32)).toNatClampNeg) + a4) - (1 : Int32)), .inl (q4 + (1 : Int32)), .inr (.inr (15, 6, 1))]) (M' := xd_up M 6 1 q1.toNatClampNeg a3) rfl ?_
  refine xq_guard h (fun g7 h => ?_)
  refine xq_prim (st' := []) (M' := xd_up (xd_up M 6 1 q1.toNatClampNeg a3) 6 1 (q4 + (1 : Int32)).toNatClampNeg ((((xd_up M 6 1 q1.toNatClampNeg a3).1 6 1 (a1 + (4 : Int32)).toNatClampNeg) + a4) - (1 : Int32))) rfl rfl rfl (xg_ast0 rfl g7) ?_
  refine xq_blk 6 (pc' := 45) (ls' := [(0, .inr (.inr (14, 6, 0))), (1, .inl a1), (2, .inl a2), (3, .inl a3), (4, .inl a4)]) (st' := [.inl (a1 + (7 : Int32)), .inr (.inr (15, 6, 1)), .inl (a1 + (7 : Int32)), .inr (.inr (15, 6, 1))]) (M' := xd_up (xd_up M 6 1 q1.toNatClampNeg a3) 6 1 (q4 + (1 : Int32)).toNatClampNeg ((((xd_up M 6 1 q1.toNatClampNeg a3).1 6 1 (a1 + (4 : Int32)).toNatClampNeg) + a4) - (1 : Int32))) rfl ?_
  refine xq_guard h (fun g8 h => ?_)
  refine xq_prim (st' := [.inl ((xd_up (xd_up M 6 1 q1.toNatClampNeg a3) 6 1 (q4 + (1 : Int32)).toNatClampNeg ((((xd_up M 6 1 q1.toNatClampNeg a3).1 6 1 (a1 + (4 : Int32)).toNatClampNeg) + a4) - (1 : Int32))).1 6 1 (a1 + (7 : Int32)).toNatClampNeg), .inl (a1 + (7 : Int32)), .inr (.inr (15, 6, 1))]) (M' := xd_up (xd_up M 6 1 q1.toNatClampNeg a3) 6 1 (q4 + (1 : Int32)).toNatClampNeg ((((xd_up M 6 1 q1.toNatClampNeg a3).1 6 1 (a1 + (4 : Int32)).toNatClampNeg) + a4) - (1 : Int32))) rfl rfl rfl (xg_ald0 rfl g8) ?_
  refine xq_blk 2 (pc' := 48) (ls' := [(0, .inr (.inr (14, 6, 0))), (1, .inl a1), (2, .inl a2), (3, .inl a3), (4, .inl a4)]) (st' := [.inl (((xd_up (xd_up M 6 1 q1.toNatClampNeg a3) 6 1 (q4 + (1 : Int32)).toNatClampNeg ((((xd_up M 6 1 q1.toNatClampNeg a3).1 6 1 (a1 + (4 : Int32)).toNatClampNeg) + a4) - (1 : Int32))).1 6 1 (a1 + (7 : Int32)).toNatClampNeg) + (1 : Int32)), .inl (a1 + (7 : Int32)), .inr (.inr (15, 6, 1))]) (M' := xd_up (xd_up M 6 1 q1.toNatClampNeg a3) 6 1 (q4 + (1 : Int32)).toNatClampNeg ((((xd_up M 6 1 q1.toNatClampNeg a3).1 6 1 (a1 + (4 : Int32)).toNatClampNeg) + a4) - (1 : Int32))) rfl ?_
  refine xq_guard h (fun g9 h => ?_)
  refine xq_prim (st' := []) (M' := xd_up (xd_up (xd_up M 6 1 q1.toNatClampNeg a3) 6 1 (q4 + (1 : Int32)).toNatClampNeg ((((xd_up M 6 1 q1.toNatClampNeg a3).1 6 1 (a1 + (4 : Int32)).toNatClampNeg) + a4) - (1 : Int32))) 6 1 (a1 + (7 : Int32)).toNatClampNeg (((xd_up (xd_up M 6 1 q1.toNatClampNeg a3) 6 1 (q4 + (1 : Int32)).toNatClampNeg ((((xd_up M 6 1 q1.toNatClampNeg a3).1 6 1 (a1 + (4 : Int32)).toNatClampNeg) + a4) - (1 : Int32))).1 6 1 (a1 + (7 : Int32)).toNatClampNeg) + (1 : Int32))) rfl rfl rfl (xg_ast0 rfl g9) ?_
  refine xq_blk 3 (pc' := 52) (ls' := [(0, .inr (.inr (14, 6, 0))), (1, .inl a1), (2, .inl a2), (3, .inl a3), (4, .inl a4)]) (st' := [.inl a2, .inl a1, .inr (.inr (14, 6, 0))]) (M' := xd_up (xd_up (xd_up M 6 1 q1.toNatClampNeg a3) 6 1 (q4 + (1 : Int32)).toNatClampNeg ((((xd_up M 6 1 q1.toNatClampNeg a3).1 6 1 (a1 + (4 : Int32)).toNatClampNeg) + a4) - (1 : Int32))) 6 1 (a1 + (7 : Int32)).toNatClampNeg (((xd_up (xd_up M 6 1 q1.toNatClampNeg a3) 6 1 (q4 + (1 : Int32)).toNatClampNeg ((((xd_up M 6 1 q1.toNatClampNeg a3).1 6 1 (a1 + (4 : Int32)).toNatClampNeg) + a4) - (1 : Int32))).1 6 1 (a1 + (7 : Int32)).toNatClampNeg) + (1 : Int32))) rfl ?_
  refine xq_bind h (fun q10 e11 h => ?_)
  refine xq_call (j := 129) (as := [.inr (.inr (14, 6, 0)), .inl a1, .inl a2]) (pc' := 55) (ls' := [(0, .inr (.inr (14, 6, 0))), (1, .inl a1), (2, .inl a2), (3, .inl a3), (4, .inl a4)]) (st' := []) rfl rfl (f_X7_leavesLists_ok e11) ?_
  exact (hr _ (Option.some.inj h).symm) ▸ xq_ret rfl
theorem f_X7_getsPermit_ok {X : List Int32} {a1 : Int32} {a2 : Int32} {a3 : Int32} {a4 : Int32} {M : xM} {p : xM} (h : f_X7_getsPermit a1 a2 a3 a4 M = some p) : xq X xe 130 0 [(0, .inr (.inr (14, 6, 0))), (1, .inl a1), (2, .inl a2), (3, .inl a3), (4, .inl a4)] [] M ((none, p) : xR) := f_X7_getsPermit_run h (fun q e => by rw [e])
def f_X7_movesUp_l9_4 (k4v1 : Int32) (k9v3 : Int32) (s9 : Int32 × xM) : Option ((Int32 × xM) ⊕ ((Int32 × Int32 × xM) ⊕ (Int32 × xM))) := if xp_in ((k4v1 + (11 : Int32)) + k9v3) 3540 = true then (if (0 : Int32) < (s9.2.1 6 1 ((k4v1 + (11 : Int32)) + k9v3).toNatClampNeg) then ((f_X7_given k4v1 k9v3 s9.2).bind (fun q2 => (f_X7_permits k4v1 k9v3 s9.2).bind (fun q4 => if q2 < q4 then ((f_X7_placeAt k4v1 k9v3 (0 : Int32) s9.2).bind (fun q6 => if xp_in q6 3540 = true then ((f_X7_placeAt k4v1 k9v3 (0 : Int32) s9.2).bind (fun q9 => if xp_in (q9 + (1 : Int32)) 3540 = true then ((f_X7_getsPermit k4v1 (s9.2.1 6 1 q6.toNatClampNeg) k9v3 (s9.2.1 6 1 (q9 + (1 : Int32)).toNatClampNeg) s9.2).bind (fun q12 => some (.inl (s9.1 + (1 : Int32), q12)))) else none)) else none)) else (Option.map Sum.inr (some (.inl (s9.1, k9v3 + (1 : Int32), s9.2))))))) else (Option.map Sum.inr (some (.inl (s9.1, k9v3 + (1 : Int32), s9.2))))) else none
theorem f_X7_movesUp_l9_4_ok {X : List Int32} {k4v1 : Int32} {k9v3 : Int32} {s9 : Int32 × xM} {p : (Int32 × xM) ⊕ ((Int32 × Int32 × xM) ⊕ (Int32 × xM))} {r : xR} (h : f_X7_movesUp_l9_4 k4v1 k9v3 s9 = some p) (h0 : ∀ s', p = .inl s' → xq X xe 131 9 [(0, .inr (.inr (14, 6, 0))), (1, .inl k4v1), (2, .inl s'.1), (3, .inl k9v3)] [] s'.2 r) (h1 : ∀ s', p = .inr (.inl s') → xq X xe 131 4 [(0, .inr (.inr (14, 6, 0))), (1, .inl k4v1), (2, .inl s'.1), (3, .inl s'.2.1)] [] s'.2.2 r) (hr : ∀ q, p = .inr (.inr (q)) → ((some (.inl q.1), q.2) : xR) = r) : xq X xe 131 9 [(0, .inr (.inr (14, 6, 0))), (1, .inl k4v1), (2, .inl s9.1), (3, .inl k9v3)] [] s9.2 r := by
  unfold f_X7_movesUp_l9_4 at h
  refine xq_blk 7 (pc' := 19) (ls' := [(0, .inr (.inr (14, 6, 0))), (1, .inl k4v1), (2, .inl s9.1), (3, .inl k9v3)]) (st' := [.inl ((k4v1 + (11 : Int32)) + k9v3), .inr (.inr (15, 6, 1))]) (M' := s9.2) rfl ?_
  refine xq_guard h (fun g1 h => ?_)
  refine xq_prim (st' := [.inl (s9.2.1 6 1 ((k4v1 + (11 : Int32)) + k9v3).toNatClampNeg)]) (M' := s9.2) rfl rfl rfl (xg_ald0 rfl g1) ?_
  refine xq_ite h (fun c15 h => ?_) (fun c15 h => ?_)
  · refine xq_core (pc' := 23) (ls' := [(0, .inr (.inr (14, 6, 0))), (1, .inl k4v1), (2, .inl s9.1), (3, .inl k9v3)]) (st' := []) rfl (if_pos c15) ?_
    refine xq_blk 3 (pc' := 26) (ls' := [(0, .inr (.inr (14, 6, 0))), (1, .inl k4v1), (2, .inl s9.1), (3, .inl k9v3)]) (st' := [.inl k9v3, .inl k4v1, .inr (.inr (14, 6, 0))]) (M' := s9.2) rfl ?_
    refine xq_bind h (fun q2 e3 h => ?_)
    refine xq_call (j := 126) (as := [.inr (.inr (14, 6, 0)), .inl k4v1, .inl k9v3]) (pc' := 29) (ls' := [(0, .inr (.inr (14, 6, 0))), (1, .inl k4v1), (2, .inl s9.1), (3, .inl k9v3)]) (st' := []) rfl rfl (f_X7_given_ok e3) ?_
    refine xq_blk 3 (pc' := 32) (ls' := [(0, .inr (.inr (14, 6, 0))), (1, .inl k4v1), (2, .inl s9.1), (3, .inl k9v3)]) (st' := [.inl k9v3, .inl k4v1, .inr (.inr (14, 6, 0)), .inl q2]) (M' := s9.2) rfl ?_
    refine xq_bind h (fun q4 e5 h => ?_)
    refine xq_call (j := 125) (as := [.inr (.inr (14, 6, 0)), .inl k4v1, .inl k9v3]) (pc' := 35) (ls' := [(0, .inr (.inr (14, 6, 0))), (1, .inl k4v1), (2, .inl s9.1), (3, .inl k9v3)]) (st' := [.inl q2]) rfl rfl (f_X7_permits_ok e5) ?_
    refine xq_ite h (fun c14 h => ?_) (fun c14 h => ?_)
    · refine xq_core (pc' := 38) (ls' := [(0, .inr (.inr (14, 6, 0))), (1, .inl k4v1), (2, .inl s9.1), (3, .inl k9v3)]) (st' := []) rfl (if_pos c14) ?_
      refine xq_blk 7 (pc' := 47) (ls' := [(0, .inr (.inr (14, 6, 0))), (1, .inl k4v1), (2, .inl s9.1), (3, .inl k9v3)]) (st' := [.inl (0 : Int32), .inl k9v3, .inl k4v1, .inr (.inr (15, 6, 1)), .inl k4v1, .inr (.inr (14, 6, 0))]) (M' := s9.2) rfl ?_
      refine xq_bind h (fun q6 e7 h => ?_)
      refine xq_call (j := 123) (as := [.inl k4v1, .inl k9v3, .inl (0 : Int32)]) (pc' := 50) (ls' := [(0, .inr (.inr (14, 6, 0))), (1, .inl k4v1), (2, .inl s9.1), (3, .inl k9v3)]) (st' := [.inr (.inr (15, 6, 1)), .inl k4v1, .inr (.inr (14, 6, 0))]) rfl rfl (f_X7_placeAt_ok e7) ?_
      refine xq_guard h (fun g8 h => ?_)
      refine xq_prim (st' := [.inl (s9.2.1 6 1 q6.toNatClampNeg), .inl k4v1, .inr (.inr (14, 6, 0))]) (M' := s9.2) rfl rfl rfl (xg_ald0 rfl g8) ?_
      refine xq_blk 6 (pc' := 59) (ls' := [(0, .inr (.inr (14, 6, 0))), (1, .inl k4v1), (2, .inl s9.1), (3, .inl k9v3)]) (st' := [.inl (0 : Int32), .inl k9v3, .inl k4v1, .inr (.inr (15, 6, 1)), .inl k9v3, .inl (s9.2.1 6 1 q6.toNatClampNeg), .inl k4v1, .inr (.inr (14, 6, 0))]) (M' := s9.2) rfl ?_
      refine xq_bind h (fun q9 e10 h => ?_)
      refine xq_call (j := 123) (as := [.inl k4v1, .inl k9v3, .inl (0 : Int32)]) (pc' := 62) (ls' := [(0, .inr (.inr (14, 6, 0))), (1, .inl k4v1), (2, .inl s9.1), (3, .inl k9v3)]) (st' := [.inr (.inr (15, 6, 1)), .inl k9v3, .inl (s9.2.1 6 1 q6.toNatClampNeg), .inl k4v1, .inr (.inr (14, 6, 0))]) rfl rfl (f_X7_placeAt_ok e10) ?_
      refine xq_blk 2 (pc' := 64) (ls' := [(0, .inr (.inr (14, 6, 0))), (1, .inl k4v1), (2, .inl s9.1), (3, .inl k9v3)]) (st' := [.inl (q9 + (1 : Int32)), .inr (.inr (15, 6, 1)), .inl k9v3, .inl (s9.2.1 6 1 q6.toNatClampNeg), .inl k4v1, .inr (.inr (14, 6, 0))]) (M' := s9.2) rfl ?_
      refine xq_guard h (fun g11 h => ?_)
      refine xq_prim (st' := [.inl (s9.2.1 6 1 (q9 + (1 : Int32)).toNatClampNeg), .inl k9v3, .inl (s9.2.1 6 1 q6.toNatClampNeg), .inl k4v1, .inr (.inr (14, 6, 0))]) (M' := s9.2) rfl rfl rfl (xg_ald0 rfl g11) ?_
      refine xq_bind h (fun q12 e13 h => ?_)
      refine xq_call (j := 130) (as := [.inr (.inr (14, 6, 0)), .inl k4v1, .inl (s9.2.1 6 1 q6.toNatClampNeg), .inl k9v3, .inl (s9.2.1 6 1 (q9 + (1 : Int32)).toNatClampNeg)]) (pc' := 68) (ls' := [(0, .inr (.inr (14, 6, 0))), (1, .inl k4v1), (2, .inl s9.1), (3, .inl k9v3)]) (st' := []) rfl rfl (f_X7_getsPermit_ok e13) ?_
      refine xq_blk 2 (pc' := 9) (ls' := [(2, .inl (s9.1 + (1 : Int32))), (0, .inr (.inr (14, 6, 0))), (1, .inl k4v1), (3, .inl k9v3)]) (st' := []) (M' := q12) rfl ?_
      exact xq_sub (a := [(0, .inr (.inr (14, 6, 0))), (1, .inl k4v1), (2, .inl ((s9.1 + (1 : Int32), q12).1)), (3, .inl k9v3)]) ⟨rfl, rfl, rfl, rfl, trivial⟩ rfl (h0 (s9.1 + (1 : Int32), q12) (Option.some.inj h).symm)
    · refine xq_core (pc' := 74) (ls' := [(0, .inr (.inr (14, 6, 0))), (1, .inl k4v1), (2, .inl s9.1), (3, .inl k9v3)]) (st' := []) rfl (if_neg c14) ?_
      refine xq_map h (fun p h e => ?_)
      replace h0 := fun s' e' => h1 s' (e.symm.trans (congrArg Sum.inr e'))
      replace hr := fun q e' => hr q (e.symm.trans (congrArg Sum.inr e'))
      clear e
      refine xq_blk 2 (pc' := 4) (ls' := [(3, .inl (k9v3 + (1 : Int32))), (0, .inr (.inr (14, 6, 0))), (1, .inl k4v1), (2, .inl s9.1)]) (st' := []) (M' := s9.2) rfl ?_
      exact xq_sub (a := [(0, .inr (.inr (14, 6, 0))), (1, .inl k4v1), (2, .inl ((s9.1, k9v3 + (1 : Int32), s9.2).1)), (3, .inl ((s9.1, k9v3 + (1 : Int32), s9.2).2.1))]) ⟨rfl, rfl, rfl, rfl, trivial⟩ rfl (h0 (s9.1, k9v3 + (1 : Int32), s9.2) (Option.some.inj h).symm)
  · refine xq_core (pc' := 74) (ls' := [(0, .inr (.inr (14, 6, 0))), (1, .inl k4v1), (2, .inl s9.1), (3, .inl k9v3)]) (st' := []) rfl (if_neg c15) ?_
    refine xq_map h (fun p h e => ?_)
    replace h0 := fun s' e' => h1 s' (e.symm.trans (congrArg Sum.inr e'))
    replace hr := fun q e' => hr q (e.symm.trans (congrArg Sum.inr e'))
    clear e
    refine xq_blk 2 (pc' := 4) (ls' := [(3, .inl (k9v3 + (1 : Int32))), (0, .inr (.inr (14, 6, 0))), (1, .inl k4v1), (2, .inl s9.1)]) (st' := []) (M' := s9.2) rfl ?_
    exact xq_sub (a := [(0, .inr (.inr (14, 6, 0))), (1, .inl k4v1), (2, .inl ((s9.1, k9v3 + (1 : Int32), s9.2).1)), (3, .inl ((s9.1, k9v3 + (1 : Int32), s9.2).2.1))]) ⟨rfl, rfl, rfl, rfl, trivial⟩ rfl (h0 (s9.1, k9v3 + (1 : Int32), s9.2) (Option.some.inj h).symm)
def f_X7_movesUp_l4 (k4v1 : Int32) (s4 : Int32 × Int32 × xM) : Option ((Int32 × Int32 × xM) ⊕ (Int32 × xM)) := if s4.2.1 < (3 : Int32) then (xlp (f_X7_movesUp_l9_4 k4v1 s4.2.1) 4000 (s4.1, s4.2.2)) else (Option.map Sum.inr (some ((s4.1, s4.2.2))))
theorem f_X7_movesUp_l4_ok {X : List Int32} {k4v1 : Int32} {s4 : Int32 × Int32 × xM} {p : (Int32 × Int32 × xM) ⊕ (Int32 × xM)} {r : xR} (h : f_X7_movesUp_l4 k4v1 s4 = some p) (h0 : ∀ s', p = .inl s' → xq X xe 131 4 [(0, .inr (.inr (14, 6, 0))), (1, .inl k4v1), (2, .inl s'.1), (3, .inl s'.2.1)] [] s'.2.2 r) (hr : ∀ q, p = .inr (q) → ((some (.inl q.1), q.2) : xR) = r) : xq X xe 131 4 [(0, .inr (.inr (14, 6, 0))), (1, .inl k4v1), (2, .inl s4.1), (3, .inl s4.2.1)] [] s4.2.2 r := by
  unfold f_X7_movesUp_l4 at h
  refine xq_blk 2 (pc' := 6) (ls' := [(0, .inr (.inr (14, 6, 0))), (1, .inl k4v1), (2, .inl s4.1), (3, .inl s4.2.1)]) (st' := [.inl (3 : Int32), .inl s4.2.1]) (M' := s4.2.2) rfl ?_
  refine xq_ite h (fun c16 h => ?_) (fun c16 h => ?_)
  · refine xq_core (pc' := 9) (ls' := [(0, .inr (.inr (14, 6, 0))), (1, .inl k4v1), (2, .inl s4.1), (3, .inl s4.2.1)]) (st' := []) rfl (if_pos c16) ?_
    refine xq_sub (a := [(0, .inr (.inr (14, 6, 0))), (1, .inl k4v1), (2, .inl s4.1), (3, .inl s4.2.1)]) ⟨rfl, rfl, rfl, rfl, trivial⟩ rfl ?_
    exact xlp_ok (P := fun s9 => xq X xe 131 9 [(0, .inr (.inr (14, 6, 0))), (1, .inl k4v1), (2, .inl s9.1), (3, .inl s4.2.1)] [] s9.2 r) (fun s p' hb g0 g1 => f_X7_movesUp_l9_4_ok hb g0 (fun s' e => h0 s' (g1 _ e).symm) (fun q e => hr q (g1 _ e).symm)) 4000 _ h
  · refine xq_core (pc' := 80) (ls' := [(0, .inr (.inr (14, 6, 0))), (1, .inl k4v1), (2, .inl s4.1), (3, .inl s4.2.1)]) (st' := []) rfl (if_neg c16) ?_
    refine xq_map h (fun p h e => ?_)
    replace hr := fun q e' => hr q (e.symm.trans (congrArg Sum.inr e'))
    clear e
    refine xq_blk 1 (pc' := 81) (ls' := [(0, .inr (.inr (14, 6, 0))), (1, .inl k4v1), (2, .inl s4.1), (3, .inl s4.2.1)]) (st' := [.inl s4.1]) (M' := s4.2.2) rfl ?_
    exact (hr _ (Option.some.inj h).symm) ▸ xq_ret rfl
def f_X7_movesUp (a1 : Int32) (M : xM) : Option (Int32 × xM) := xlp (f_X7_movesUp_l4 a1) 4000 ((0 : Int32), (0 : Int32), M)
theorem f_X7_movesUp_run {X : List Int32} {a1 : Int32} {M : xM} {p : Int32 × xM} {r : xR} (h : f_X7_movesUp a1 M = some p) (hr : ∀ q, p = q → ((some (.inl q.1), q.2) : xR) = r) : xq X xe 131 0 [(0, .inr (.inr (14, 6, 0))), (1, .inl a1)] [] M r := by
  unfold f_X7_movesUp at h
  refine xq_blk 4 (pc' := 4) (ls' := [(3, .inl (0 : Int32)), (2, .inl (0 : Int32)), (0, .inr (.inr (14, 6, 0))), (1, .inl a1)]) (st' := []) (M' := M) rfl ?_
  refine xq_sub (a := [(0, .inr (.inr (14, 6, 0))), (1, .inl a1), (2, .inl (0 : Int32)), (3, .inl (0 : Int32))]) ⟨rfl, rfl, rfl, rfl, trivial⟩ rfl ?_
  exact xlp_ok (P := fun s4 => xq X xe 131 4 [(0, .inr (.inr (14, 6, 0))), (1, .inl a1), (2, .inl s4.1), (3, .inl s4.2.1)] [] s4.2.2 r) (fun s p' hb g0 g1 => f_X7_movesUp_l4_ok hb g0 (fun q e => hr q (g1 _ e).symm)) 4000 _ h
theorem f_X7_movesUp_ok {X : List Int32} {a1 : Int32} {M : xM} {p : Int32 × xM} (h : f_X7_movesUp a1 M = some p) : xq X xe 131 0 [(0, .inr (.inr (14, 6, 0))), (1, .inl a1)] [] M ((some (.inl p.1), p.2) : xR) := f_X7_movesUp_run h (fun q e => by rw [e])
