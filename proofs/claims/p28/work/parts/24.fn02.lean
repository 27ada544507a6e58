def f_X5_changeSetting (a0r : Nat) (a1 : Int32) (a2 : Int32) (M : xM) : Option (Int32 × xM) := (f_X6_isFrom (0 : Int32) a1 (3 : Int32) M).bind (fun q1 => if q1 = (0 : Int32) then (some (((-2 : Int32), M))) else (if xp_in a1 4 = true then (if xp_in a1 4 = true then ((f_X6_isFrom (([0, 1, 1, 1] : List Int32).getD a1.toNatClampNeg 0) a2 (([5, 60, 30, 99] : List Int32).getD a1.toNatClampNeg 0) M).bind (fun q5 => if q5 = (0 : Int32) then (some (((-2 : Int32), M))) else (if xp_in a1 4 = true then (if xp_in a1 4 = true then ((f_X5_moveUp a0r (xd_up M a0r 1 a1.toNatClampNeg a2)).bind (fun q9 => some ((M.1 a0r 1 a1.toNatClampNeg, q9)))) else none) else none))) else none) else none))
theorem f_X5_changeSetting_run {X : List Int32} {a0r : Nat} {a1 : Int32} {a2 : Int32} {M : xM} {p : Int32 × xM} {r : xR} (h : f_X5_changeSetting a0r a1 a2 M = some p) (hr : ∀ q, p = q → ((some (.inl q.1), q.2) : xR) = r) : xq X xe 52 0 [(0, .inr (.inr (0, a0r, 0))), (1, .inl a1), (2, .inl a2)] [] M r := by
  unfold f_X5_changeSetting at h
  refine xq_blk 3 (pc' := 3) (ls' := [(0, .inr (.inr (0, a0r, 0))), (1, .inl a1), (2, .inl a2)]) (st' := [.inl (3 : Int32), .inl a1, .inl (0 : Int32)]) (M' := M) rfl ?_
  refine xq_bind h (fun q1 e2 h => ?_)
  refine xq_call (j := 48) (as := [.inl (0 : Int32), .inl a1, .inl (3 : Int32)]) (pc' := 6) (ls' := [(0, .inr (.inr (0, a0r, 0))), (1, .inl a1), (2, .inl a2)]) (st' := []) rfl rfl (f_X6_isFrom_ok e2) ?_
  refine xq_ite h (fun c12 h => ?_) (fun c12 h => ?_)
  · refine xq_core (pc' := 26) (ls' := [(0, .inr (.inr (0, a0r, 0))), (1, .inl a1), (2, .inl a2)]) (st' := []) rfl (if_pos c12) ?_
    refine xq_blk 1 (pc' := 28) (ls' := [(0, .inr (.inr (0, a0r, 0))), (1, .inl a1), (2, .inl a2)]) (st' := [.inl (-2 : Int32)]) (M' := M) rfl ?_
    exact (hr _ (Option.some.inj h).symm) ▸ xq_ret rfl
  · refine xq_core (pc' := 9) (ls' := [(0, .inr (.inr (0, a0r, 0))), (1, .inl a1), (2, .inl a2)]) (st' := []) rfl (if_neg c12) ?_
    refine xq_blk 2 (pc' := 13) (ls' := [(0, .inr (.inr (0, a0r, 0))), (1, .inl a1), (2, .inl a2)]) (st' := [.inl a1, .inr (.inr (19, 1, 2))]) (M' := M) rfl ?_
    refine xq_guard h (fun g3 h => ?_)
    refine xq_prim (st' := [.inl (([0, 1, 1, 1] : List Int32).getD a1.toNatClampNeg 0)]) (M' := M) rfl rfl rfl (xg_aldc (Or.inr rfl) g3) ?_
    refine xq_blk 3 (pc' := 19) (ls' := [(0, .inr (.inr (0, a0r, 0))), (1, .inl a1), (2, .inl a2)]) (st' := [.inl a1, .inr (.inr (19, 1, 3)), .inl a2, .inl (([0, 1, 1, 1] : List Int32).getD a1.toNatClampNeg 0)]) (M' := M) rfl ?_
    refine xq_guard h (fun g4 h => ?_)
    refine xq_prim (st' := [.inl (([5, 60, 30, 99] : List Int32).getD a1.toNatClampNeg 0), .inl a2, .inl (([0, 1, 1, 1] : List Int32).getD a1.toNatClampNeg 0)]) (M' := M) rfl rfl rfl (xg_aldc (Or.inr rfl) g4) ?_
    refine xq_bind h (fun q5 e6 h => ?_)
    refine xq_call (j := 48) (as := [.inl (([0, 1, 1, 1] : List Int32).getD a1.toNatClampNeg 0), .inl a2, .inl (([5, 60, 30, 99] : List Int32).getD a1.toNatClampNeg 0)]) (pc' := 23) (ls' := [(0, .inr (.inr (0, a0r, 0))), (1, .inl a1), (2, .inl a2)]) (st' := []) rfl rfl (f_X6_isFrom_ok e6) ?_
    refine xq_ite h (fun c11 h => ?_) (fun c11 h => ?_)
    · refine xq_core (pc' := 26) (ls' := [(0, .inr (.inr (0, a0r, 0))), (1, .inl a1), (2, .inl a2)]) (st' := []) rfl (if_pos c11) ?_
      refine xq_blk 1 (pc' := 28) (ls' := [(0, .inr (.inr (0, a0r, 0))), (1, .inl a1), (2, .inl a2)]) (st' := [.inl (-2 : Int32)]) (M' := M) rfl ?_
      exact (hr _ (Option.some.inj h).symm) ▸ xq_ret rfl
    · refine xq_core (pc' := 29) (ls' := [(0, .inr (.inr (0, a0r, 0))), (1, .inl a1), (2, .inl a2)]) (st' := []) rfl (if_neg c11) ?_
      refine xq_blk 3 (pc' := 34) (ls' := [(0, .inr (.inr (0, a0r, 0))), (1, .inl a1), (2, .inl a2)]) (st' := [.inl a1, .inr (.inr (4, a0r, 1))]) (M' := M) rfl ?_
      refine xq_guard h (fun g7 h => ?_)
      refine xq_prim (st' := [.inl (M.1 a0r 1 a1.toNatClampNeg)]) (M' := M) rfl rfl rfl (xg_ald0 rfl g7) ?_
      refine xq_blk 5 (pc' := 42) (ls' := [(3, .inl (M.1 a0r 1 a1.toNatClampNeg)), (0, .inr (.inr (0, a0r, 0))), (1, .inl a1), (2, .inl a2)]) (st' := [.inl a2, .inl a1, .inr (.inr (4, a0r, 1))]) (M' := M) rfl ?_
      refine xq_guard h (fun g8 h => ?_)
      refine xq_prim (st' := []) (M' := xd_up M a0r 1 a1.toNatClampNeg a2) rfl rfl rfl (xg_ast0 rfl g8) ?_
      refine xq_blk 1 (pc' := 44) (ls' := [(3, .inl (M.1 a0r 1 a1.toNatClampNeg)), (0, .inr (.inr (0, a0r, 0))), (1, .inl a1), (2, .inl a2)]) (st' := [.inr (.inr (0, a0r, 0))]) (M' := xd_up M a0r 1 a1.toNatClampNeg a2) rfl ?_
      refine xq_bind h (fun q9 e10 h => ?_)
      refine xq_call (j := 51) (as := [.inr (.inr (0, a0r, 0))]) (pc' := 47) (ls' := [(3, .inl (M.1 a0r 1 a1.toNatClampNeg)), (0, .inr (.inr (0, a0r, 0))), (1, .inl a1), (2, .inl a2)]) (st' := []) rfl rfl (f_X5_moveUp_ok e10) ?_
      refine xq_blk 1 (pc' := 48) (ls' := [(3, .inl (M.1 a0r 1 a1.toNatClampNeg)), (0, .inr (.inr (0, a0r, 0))), (1, .inl a1), (2, .inl a2)]) (st' := [.inl (M.1 a0r 1 a1.toNatClampNeg)]) (M' := q9) rfl ?_
      exact (hr _ (Option.some.inj h).symm) ▸ xq_ret rfl
theorem f_X5_changeSetting_ok {X : List Int32} {a0r : Nat} {a1 : Int32} {a2 : Int32} {M : xM} {p : Int32 × xM} (h : f_X5_changeSetting a0r a1 a2 M = some p) : xq X xe 52 0 [(0, .inr (.inr (0, a0r, 0))), (1, .inl a1), (2, .inl a2)] [] M ((some (.inl p.1), p.2) : xR) := f_X5_changeSetting_run h (fun q e => by rw [e])
def f_X2_dropOldest_l9 (k9v1r : Nat) (s9 : Int32 × xM) : Option ((Int32 × xM) ⊕ (xM)) := if s9.1 < (6 : Int32) then (if xp_in s9.1 6 = true then (if ((s9.2.1 5 77 s9.1.toNatClampNeg).toNatClampNeg != 0) = true then (if xp_in (s9.1 - (1 : Int32)) 6 = true then (some (.inl (s9.1 + (1 : Int32), xd_up s9.2 5 77 (s9.1 - (1 : Int32)).toNatClampNeg (Int32.ofNat ((s9.2.1 5 77 s9.1.toNatClampNeg).toNatClampNeg))))) else none) else none) else none) else (Option.map Sum.inr (if (k9v1r != 0) = true then (if xp_in (5 : Int32) 6 = true then (some (xd_up (xd_up s9.2 5 77 (5 : Int32).toNatClampNeg (Int32.ofNat k9v1r)) 5 76 1 (((xd_up s9.2 5 77 (5 : Int32).toNatClampNeg (Int32.ofNat k9v1r)).1 5 76 1) - (1 : Int32)))) else none) else none))
theorem f_X2_dropOldest_l9_ok {X : List Int32} {k9v1r : Nat} {s9 : Int32 × xM} {p : (Int32 × xM) ⊕ (xM)} {r : xR} (h : f_X2_dropOldest_l9 k9v1r s9 = some p) (h0 : ∀ s', p = .inl s' → xq X xe 23 9 [(0, .inr (.inr (8, 5, 76))), (1, .inr (.inr (20, k9v1r, 0))), (2, .inl s'.1)] [] s'.2 r) (hr : ∀ q, p = .inr (q) → ((none, q) : xR) = r) : xq X xe 23 9 [(0, .inr (.inr (8, 5, 76))), (1, .inr (.inr (20, k9v1r, 0))), (2, .inl s9.1)] [] s9.2 r := by
  unfold f_X2_dropOldest_l9 at h
  refine xq_blk 2 (pc' := 12) (ls' := [(0, .inr (.inr (8, 5, 76))), (1, .inr (.inr (20, k9v1r, 0))), (2, .inl s9.1)]) (st' := [.inl (6 : Int32), .inl s9.1]) (M' := s9.2) rfl ?_
  refine xq_ite h (fun c7 h => ?_) (fun c7 h => ?_)
  · refine xq_core (pc' := 15) (ls' := [(0, .inr (.inr (8, 5, 76))), (1, .inr (.inr (20, k9v1r, 0))), (2, .inl s9.1)]) (st' := []) rfl (if_pos c7) ?_
    refine xq_blk 8 (pc' := 27) (ls' := [(0, .inr (.inr (8, 5, 76))), (1, .inr (.inr (20, k9v1r, 0))), (2, .inl s9.1)]) (st' := [.inl s9.1, .inr (.inr (9, 5, 77)), .inl (s9.1 - (1 : Int32)), .inr (.inr (9, 5, 77))]) (M' := s9.2) rfl ?_
    refine xq_guard h (fun g2 h => ?_)
    refine xq_prim (st' := [.inr (.inr (20, (s9.2.1 5 77 s9.1.toNatClampNeg).toNatClampNeg, 0)), .inl (s9.1 - (1 : Int32)), .inr (.inr (9, 5, 77))]) (M' := s9.2) rfl rfl rfl (xg_aald (by decide) rfl g2) ?_
    refine xq_guard h (fun g4 h => ?_)
    refine xq_guard h (fun g3 h => ?_)
    refine xq_prim (st' := []) (M' := xd_up s9.2 5 77 (s9.1 - (1 : Int32)).toNatClampNeg (Int32.ofNat ((s9.2.1 5 77 s9.1.toNatClampNeg).toNatClampNeg))) rfl rfl rfl (xg_aast (by decide) rfl (by show (_ && _) = true; rw [g4]; rfl) g3) ?_
    refine xq_blk 2 (pc' := 9) (ls' := [(2, .inl (s9.1 + (1 : Int32))), (0, .inr (.inr (8, 5, 76))), (1, .inr (.inr (20, k9v1r, 0)))]) (st' := []) (M' := xd_up s9.2 5 77 (s9.1 - (1 : Int32)).toNatClampNeg (Int32.ofNat ((s9.2.1 5 77 s9.1.toNatClampNeg).toNatClampNeg))) rfl ?_
    exact xq_sub (a := [(0, .inr (.inr (8, 5, 76))), (1, .inr (.inr (20, k9v1r, 0))), (2, .inl ((s9.1 + (1 : Int32), xd_up s9.2 5 77 (s9.1 - (1 : Int32)).toNatClampNeg (Int32.ofNat ((s9.2.1 5 77 s9.1.toNatClampNeg).toNatClampNeg))).1))]) ⟨rfl, rfl, rfl, trivial⟩ rfl (h0 (s9.1 + (1 : Int32), xd_up s9.2 5 77 (s9.1 - (1 : Int32)).toNatClampNeg (Int32.ofNat ((s9.2.1 5 77 s9.1.toNatClampNeg).toNatClampNeg))) (Option.some.inj h).symm)
  · refine xq_core (pc' := 35) (ls' := [(0, .inr (.inr (8, 5, 76))), (1, .inr (.inr (20, k9v1r, 0))), (2, .inl s9.1)]) (st' := []) rfl (if_neg c7) ?_
    refine xq_map h (fun p h e => ?_)
    replace hr := fun q e' => hr q (e.symm.trans (congrArg Sum.inr e'))
    clear e
    refine xq_blk 4 (pc' := 41) (ls' := [(0, .inr (.inr (8, 5, 76))), (1, .inr (.inr (20, k9v1r, 0))), (2, .inl s9.1)]) (st' := [.inr (.inr (20, k9v1r, 0)), .inl (5 : Int32), .inr (.inr (9, 5, 77))]) (M' := s9.2) rfl ?_
    refine xq_guard h (fun g6 h => ?_)
    refine xq_guard h (fun g5 h => ?_)
    refine xq_prim (st' := []) (M' := xd_up s9.2 5 77 (5 : Int32).toNatClampNeg (Int32.ofNat k9v1r)) rfl rfl rfl (xg_aast (by decide) rfl (by show (_ && _) = true; rw [g6]; rfl) g5) ?_
    refine xq_blk 6 (pc' := 52) (ls' := [(0, .inr (.inr (8, 5, 76))), (1, .inr (.inr (20, k9v1r, 0))), (2, .inl s9.1)]) (st' := []) (M' := xd_up (xd_up s9.2 5 77 (5 : Int32).toNatClampNeg (Int32.ofNat k9v1r)) 5 76 1 (((xd_up s9.2 5 77 (5 : Int32).toNatClampNeg (Int32.ofNat k9v1r)).1 5 76 1) - (1 : Int32))) rfl ?_
    exact (hr _ (Option.some.inj h).symm) ▸ xq_ret rfl
def f_X2_dropOldest  (M : xM) : Option (xM) := if xp_in (0 : Int32) 6 = true then (xlp (f_X2_dropOldest_l9 ((M.1 5 77 (0 : Int32).toNatClampNeg).toNatClampNeg)) 4000 ((1 : Int32), M)) else none
theorem f_X2_dropOldest_run {X : List Int32}  {M : xM} {p : xM} {r : xR} (h : f_X2_dropOldest  M = some p) (hr : ∀ q, p = q → ((none, q) : xR) = r) : xq X xe 23 0 [(0, .inr (.inr (8, 5, 76)))] [] M r := by
  unfold f_X2_dropOldest at h
  refine xq_blk 3 (pc' := 5) (ls' := [(0, .inr (.inr (8, 5, 76)))]) (st' := [.inl (0 : Int32), .inr (.inr (9, 5, 77))]) (M' := M) rfl ?_
  refine xq_guard h (fun g1 h => ?_)
  refine xq_prim (st' := [.inr (.inr (20, (M.1 5 77 (0 : Int32).toNatClampNeg).toNatClampNeg, 0))]) (M' := M) rfl rfl rfl (xg_aald (by decide) rfl g1) ?_
  refine xq_blk 3 (pc' := 9) (ls' := [(2, .inl (1 : Int32)), (1, .inr (.inr (20, (M.1 5 77 (0 : Int32).toNatClampNeg).toNatClampNeg, 0))), (0, .inr (.inr (8, 5, 76)))]) (st' := []) (M' := M) rfl ?_
  refine xq_sub (a := [(0, .inr (.inr (8, 5, 76))), (1, .inr (.inr (20, (M.1 5 77 (0 : Int32).toNatClampNeg).toNatClampNeg, 0))), (2, .inl (1 : Int32))]) ⟨rfl, rfl, rfl, trivial⟩ rfl ?_
  exact xlp_ok (P := fun s9 => xq X xe 23 9 [(0, .inr (.inr (8, 5, 76))), (1, .inr (.inr (20, ((M.1 5 77 (0 : Int32).toNatClampNeg).toNatClampNeg), 0))), (2, .inl s9.1)] [] s9.2 r) (fun s p' hb g0 g1 => f_X2_dropOldest_l9_ok hb g0 (fun q e => hr q (g1 _ e).symm)) 4000 _ h
theorem f_X2_dropOldest_ok {X : List Int32}  {M : xM} {p : xM} (h : f_X2_dropOldest  M = some p) : xq X xe 23 0 [(0, .inr (.inr (8, 5, 76)))] [] M ((none, p) : xR) := f_X2_dropOldest_run h (fun q e => by rw [e])
def f_X2_record_j13 (v1r : Nat) (M : xM) : Option (xM) := if xp_in (M.1 5 76 1) 6 = true then ((xe_ci ((M.1 5 77 (M.1 5 76 1).toNatClampNeg).toNatClampNeg) v1r M).bind (fun q4 => if xp_in (M.1 5 76 1) 6 = true then (some (xd_up (xd_up q4.2 5 77 (M.1 5 76 1).toNatClampNeg (Int32.ofNat q4.1)) 5 76 1 (((xd_up q4.2 5 77 (M.1 5 76 1).toNatClampNeg (Int32.ofNat q4.1)).1 5 76 1) + (1 : Int32)))) else none)) else none
theorem f_X2_record_j13_ok {X : List Int32} {v1r : Nat} {M : xM} {p : xM} {r : xR} (h : f_X2_record_j13 v1r M = some p) (hr : ∀ q, p = q → ((none, q) : xR) = r) : xq X xe 29 13 [(0, .inr (.inr (8, 5, 76))), (1, .inr (.inr (0, v1r, 0)))] [] M r := by
  unfold f_X2_record_j13 at h
  refine xq_blk 8 (pc' := 29) (ls' := [(0, .inr (.inr (8, 5, 76))), (1, .inr (.inr (0, v1r, 0)))]) (st' := [.inl (M.1 5 76 1), .inr (.inr (9, 5, 77)), .inl (M.1 5 76 1), .inr (.inr (9, 5, 77))]) (M' := M) rfl ?_
  refine xq_guard h (fun g3 h => ?_)
  refine xq_prim (st' := [.inr (.inr (20, (M.1 5 77 (M.1 5 76 1).toNatClampNeg).toNatClampNeg, 0)), .inl (M.1 5 76 1), .inr (.inr (9, 5, 77))]) (M' := M) rfl rfl rfl (xg_aald (by decide) rfl g3) ?_
  refine xq_blk 1 (pc' := 31) (ls' := [(0, .inr (.inr (8, 5, 76))), (1, .inr (.inr (0, v1r, 0)))]) (st' := [.inr (.inr (0, v1r, 0)), .inr (.inr (20, (M.1 5 77 (M.1 5 76 1).toNatClampNeg).toNatClampNeg, 0)), .inl (M.1 5 76 1), .inr (.inr (9, 5, 77))]) (M' := M) rfl ?_
  refine xq_bind h (fun q4 e7 h => ?_)
  refine xq_ext (j := 28) (as := [.inr (.inr (20, (M.1 5 77 (M.1 5 76 1).toNatClampNeg).toNatClampNeg, 0)), .inr (.inr (0, v1r, 0))]) (pc' := 34) (ls' := [(0, .inr (.inr (8, 5, 76))), (1, .inr (.inr (0, v1r, 0)))]) (st' := [.inl (M.1 5 76 1), .inr (.inr (9, 5, 77))]) (q := (some (.inr (.inr (0, q4.1, 0))), q4.2)) rfl rfl (xe_ci_ok e7) ?_
  refine xq_guard h (fun g5 h => ?_)
  refine xq_prim (st' := []) (M' := xd_up q4.2 5 77 (M.1 5 76 1).toNatClampNeg (Int32.ofNat q4.1)) rfl rfl rfl (xg_aast (by decide) rfl rfl g5) ?_
  refine xq_blk 6 (pc' := 45) (ls' := [(0, .inr (.inr (8, 5, 76))), (1, .inr (.inr (0, v1r, 0)))]) (st' := []) (M' := xd_up (xd_up q4.2 5 77 (M.1 5 76 1).toNatClampNeg (Int32.ofNat q4.1)) 5 76 1 (((xd_up q4.2 5 77 (M.1 5 76 1).toNatClampNeg (Int32.ofNat q4.1)).1 5 76 1) + (1 : Int32))) rfl ?_
  exact (hr _ (Option.some.inj h).symm) ▸ xq_ret rfl
def f_X2_record (a1r : Nat) (M : xM) : Option (xM) := if (M.1 5 76 1) = (6 : Int32) then ((f_X2_dropOldest M).bind (fun q1 => f_X2_record_j13 a1r q1)) else (f_X2_record_j13 a1r M)
theorem f_X2_record_run {X : List Int32} {a1r : Nat} {M : xM} {p : xM} {r : xR} (h : f_X2_record a1r M = some p) (hr : ∀ q, p = q → ((none, q) : xR) = r) : xq X xe 29 0 [(0, .inr (.inr (8, 5, 76))), (1, .inr (.inr (0, a1r, 0)))] [] M r := by
  unfold f_X2_record at h
  refine xq_blk 3 (pc' := 6) (ls' := [(0, .inr (.inr (8, 5, 76))), (1, .inr (.inr (0, a1r, 0)))]) (st' := [.inl (6 : Int32), .inl (M.1 5 76 1)]) (M' := M) rfl ?_
  refine xq_ite h (fun c8 h => ?_) (fun c8 h => ?_)
  · refine xq_core (pc' := 9) (ls' := [(0, .inr (.inr (8, 5, 76))), (1, .inr (.inr (0, a1r, 0)))]) (st' := []) rfl (if_pos c8) ?_
    refine xq_blk 1 (pc' := 10) (ls' := [(0, .inr (.inr (8, 5, 76))), (1, .inr (.inr (0, a1r, 0)))]) (st' := [.inr (.inr (8, 5, 76))]) (M' := M) rfl ?_
    refine xq_bind h (fun q1 e2 h => ?_)
    refine xq_call (j := 23) (as := [.inr (.inr (8, 5, 76))]) (pc' := 13) (ls' := [(0, .inr (.inr (8, 5, 76))), (1, .inr (.inr (0, a1r, 0)))]) (st' := []) rfl rfl (f_X2_dropOldest_ok e2) ?_
    exact xq_sub (a := [(0, .inr (.inr (8, 5, 76))), (1, .inr (.inr (0, a1r, 0)))]) ⟨rfl, rfl, trivial⟩ rfl (f_X2_record_j13_ok h hr)
  · refine xq_core (pc' := 13) (ls' := [(0, .inr (.inr (8, 5, 76))), (1, .inr (.inr (0, a1r, 0)))]) (st' := []) rfl (if_neg c8) ?_
    exact xq_sub (a := [(0, .inr (.inr (8, 5, 76))), (1, .inr (.inr (0, a1r, 0)))]) ⟨rfl, rfl, trivial⟩ rfl (f_X2_record_j13_ok h hr)
theorem f_X2_record_ok {X : List Int32} {a1r : Nat} {M : xM} {p : xM} (h : f_X2_record a1r M = some p) : xq X xe 29 0 [(0, .inr (.inr (8, 5, 76))), (1, .inr (.inr (0, a1r, 0)))] [] M ((none, p) : xR) := f_X2_record_run h (fun q e => by rw [e])
def f_X6_recorded (a1 : Int32) (M : xM) : Option (Int32 × xM) := if a1 < (0 : Int32) then (some ((a1, M))) else ((f_X2_record 3 M).bind (fun q1 => some ((a1, q1))))
theorem f_X6_recorded_run {X : List Int32} {a1 : Int32} {M : xM} {p : Int32 × xM} {r : xR} (h : f_X6_recorded a1 M = some p) (hr : ∀ q, p = q → ((some (.inl q.1), q.2) : xR) = r) : xq X xe 75 0 [(0, .inr (.inr (7, 5, 0))), (1, .inl a1)] [] M r := by
  unfold f_X6_recorded at h
  refine xq_blk 1 (pc' := 1) (ls' := [(0, .inr (.inr (7, 5, 0))), (1, .inl a1)]) (st' := [.inl a1]) (M' := M) rfl ?_
  refine xq_ite h (fun c3 h => ?_) (fun c3 h => ?_)
  · refine xq_core (pc' := 15) (ls' := [(0, .inr (.inr (7, 5, 0))), (1, .inl a1)]) (st' := []) rfl (if_pos c3) ?_
    refine xq_blk 1 (pc' := 16) (ls' := [(0, .inr (.inr (7, 5, 0))), (1, .inl a1)]) (st' := [.inl a1]) (M' := M) rfl ?_
    exact (hr _ (Option.some.inj h).symm) ▸ xq_ret rfl
  · refine xq_core (pc' := 4) (ls' := [(0, .inr (.inr (7, 5, 0))), (1, .inl a1)]) (st' := []) rfl (if_neg c3) ?_
    refine xq_blk 4 (pc' := 12) (ls' := [(0, .inr (.inr (7, 5, 0))), (1, .inl a1)]) (st' := [.inr (.inr (0, 3, 0)), .inr (.inr (8, 5, 76))]) (M' := M) rfl ?_
    refine xq_bind h (fun q1 e2 h => ?_)
    refine xq_call (j := 29) (as := [.inr (.inr (8, 5, 76)), .inr (.inr (0, 3, 0))]) (pc' := 15) (ls' := [(0, .inr (.inr (7, 5, 0))), (1, .inl a1)]) (st' := []) rfl rfl (f_X2_record_ok e2) ?_
    refine xq_blk 1 (pc' := 16) (ls' := [(0, .inr (.inr (7, 5, 0))), (1, .inl a1)]) (st' := [.inl a1]) (M' := q1) rfl ?_
    exact (hr _ (Option.some.inj h).symm) ▸ xq_ret rfl
theorem f_X6_recorded_ok {X : List Int32} {a1 : Int32} {M : xM} {p : Int32 × xM} (h : f_X6_recorded a1 M = some p) : xq X xe 75 0 [(0, .inr (.inr (7, 5, 0))), (1, .inl a1)] [] M ((some (.inl p.1), p.2) : xR) := f_X6_recorded_run h (fun q e => by rw [e])
def f_X6_set (a1 : Int32) (a2 : Int32) (M : xM) : Option (Int32 × xM) := (f_X5_changeSetting 2 a1 a2 (xe_cp 3 2 M)).bind (fun q1 => (f_X6_recorded q1.1 q1.2).bind (fun q3 => some ((q3.1, q3.2))))
theorem f_X6_set_run {X : List Int32} {a1 : Int32} {a2 : Int32} {M : xM} {p : Int32 × xM} {r : xR} (h : f_X6_set a1 a2 M = some p) (hr : ∀ q, p = q → ((some (.inl q.1), q.2) : xR) = r) : xq X xe 76 0 [(0, .inr (.inr (7, 5, 0))), (1, .inl a1), (2, .inl a2)] [] M r := by
  unfold f_X6_set at h
  refine xq_blk 4 (pc' := 8) (ls' := [(0, .inr (.inr (7, 5, 0))), (1, .inl a1), (2, .inl a2)]) (st' := [.inr (.inr (0, 2, 0)), .inr (.inr (0, 3, 0))]) (M' := M) rfl ?_
  refine xq_ext (j := 27) (as := [.inr (.inr (0, 3, 0)), .inr (.inr (0, 2, 0))]) (pc' := 11) (ls' := [(0, .inr (.inr (7, 5, 0))), (1, .inl a1), (2, .inl a2)]) (st' := []) (q := (none, xe_cp 3 2 M)) rfl rfl rfl ?_
  refine xq_blk 5 (pc' := 18) (ls' := [(0, .inr (.inr (7, 5, 0))), (1, .inl a1), (2, .inl a2)]) (st' := [.inl a2, .inl a1, .inr (.inr (0, 2, 0)), .inr (.inr (7, 5, 0))]) (M' := xe_cp 3 2 M) rfl ?_
  refine xq_bind h (fun q1 e2 h => ?_)
  refine xq_call (j := 52) (as := [.inr (.inr (0, 2, 0)), .inl a1, .inl a2]) (pc' := 21) (ls' := [(0, .inr (.inr (7, 5, 0))), (1, .inl a1), (2, .inl a2)]) (st' := [.inr (.inr (7, 5, 0))]) rfl rfl (f_X5_changeSetting_ok e2) ?_
  refine xq_bind h (fun q3 e4 h => ?_)
  refine xq_call (j := 75) (as := [.inr (.inr (7, 5, 0)), .inl q1.1]) (pc' := 24) (ls' := [(0, .inr (.inr (7, 5, 0))), (1, .inl a1), (2, .inl a2)]) (st' := []) rfl rfl (f_X6_recorded_ok e4) ?_
  exact (hr _ (Option.some.inj h).symm) ▸ xq_ret rfl
theorem f_X6_set_ok {X : List Int32} {a1 : Int32} {a2 : Int32} {M : xM} {p : Int32 × xM} (h : f_X6_set a1 a2 M = some p) : xq X xe 76 0 [(0, .inr (.inr (7, 5, 0))), (1, .inl a1), (2, .inl a2)] [] M ((some (.inl p.1), p.2) : xR) := f_X6_set_run h (fun q e => by rw [e])
def f_X6_isShed (a0 : Int32) (M : xM) : Option (Int32) := if a0 < (0 : Int32) then (some ((vp_nar .boolean (0 : Int32)))) else (if a0 < (3 : Int32) then (some ((vp_nar .boolean (1 : Int32)))) else (some ((vp_nar .boolean (0 : Int32)))))
theorem f_X6_isShed_run {X : List Int32} {a0 : Int32} {M : xM} {p : Int32} {r : xR} (h : f_X6_isShed a0 M = some p) (hr : ∀ q, p = q → ((some (.inl q), M) : xR) = r) : xq X xe 31 0 [(0, .inl a0)] [] M r := by
  unfold f_X6_isShed at h
  refine xq_blk 2 (pc' := 2) (ls' := [(0, .inl a0)]) (st' := [.inl a0, .inl (0 : Int32)]) (M' := M) rfl ?_
  refine xq_ite h (fun c2 h => ?_) (fun c2 h => ?_)
  · refine xq_core (pc' := 14) (ls' := [(0, .inl a0)]) (st' := []) rfl (if_pos c2) ?_
    refine xq_blk 1 (pc' := 15) (ls' := [(0, .inl a0)]) (st' := [.inl (0 : Int32)]) (M' := M) rfl ?_
    exact (hr _ (Option.some.inj h).symm) ▸ xq_ret rfl
  · refine xq_core (pc' := 5) (ls' := [(0, .inl a0)]) (st' := []) rfl (if_neg c2) ?_
    refine xq_blk 2 (pc' := 7) (ls' := [(0, .inl a0)]) (st' := [.inl (3 : Int32), .inl a0]) (M' := M) rfl ?_
    refine xq_ite h (fun c1 h => ?_) (fun c1 h => ?_)
    · refine xq_core (pc' := 10) (ls' := [(0, .inl a0)]) (st' := []) rfl (if_pos c1) ?_
      refine xq_blk 2 (pc' := 15) (ls' := [(0, .inl a0)]) (st' := [.inl (1 : Int32)]) (M' := M) rfl ?_
      exact (hr _ (Option.some.inj h).symm) ▸ xq_ret rfl
    · refine xq_core (pc' := 14) (ls' := [(0, .inl a0)]) (st' := []) rfl (if_neg c1) ?_
      refine xq_blk 1 (pc' := 15) (ls' := [(0, .inl a0)]) (st' := [.inl (0 : Int32)]) (M' := M) rfl ?_
      exact (hr _ (Option.some.inj h).symm) ▸ xq_ret rfl
theorem f_X6_isShed_ok {X : List Int32} {a0 : Int32} {M : xM} {p : Int32} (h : f_X6_isShed a0 M = some p) : xq X xe 31 0 [(0, .inl a0)] [] M ((some (.inl p), M) : xR) := f_X6_isShed_run h (fun q e => by rw [e])
def f_X4_hasPermit (a0r : Nat) (a1 : Int32) (M : xM) : Option (Int32) := if xp_in a1 20 = true then ((f_X6_isShed (M.1 a0r 4 a1.toNatClampNeg) M).bind (fun q2 => some ((vp_nar .boolean q2)))) else none
theorem f_X4_hasPermit_run {X : List Int32} {a0r : Nat} {a1 : Int32} {M : xM} {p : Int32} {r : xR} (h : f_X4_hasPermit a0r a1 M = some p) (hr : ∀ q, p = q → ((some (.inl q), M) : xR) = r) : xq X xe 32 0 [(0, .inr (.inr (1, a0r, 3))), (1, .inl a1)] [] M r := by
  unfold f_X4_hasPermit at h
  refine xq_blk 3 (pc' := 5) (ls' := [(0, .inr (.inr (1, a0r, 3))), (1, .inl a1)]) (st' := [.inl a1, .inr (.inr (3, a0r, 4))]) (M' := M) rfl ?_
  refine xq_guard h (fun g1 h => ?_)
  refine xq_prim (st' := [.inl (M.1 a0r 4 a1.toNatClampNeg)]) (M' := M) rfl rfl rfl (xg_ald0 rfl g1) ?_
  refine xq_bind h (fun q2 e3 h => ?_)
  refine xq_call (j := 31) (as := [.inl (M.1 a0r 4 a1.toNatClampNeg)]) (pc' := 9) (ls' := [(0, .inr (.inr (1, a0r, 3))), (1, .inl a1)]) (st' := []) rfl rfl (f_X6_isShed_ok e3) ?_
  exact (hr _ (Option.some.inj h).symm) ▸ xq_ret rfl
theorem f_X4_hasPermit_ok {X : List Int32} {a0r : Nat} {a1 : Int32} {M : xM} {p : Int32} (h : f_X4_hasPermit a0r a1 M = some p) : xq X xe 32 0 [(0, .inr (.inr (1, a0r, 3))), (1, .inl a1)] [] M ((some (.inl p), M) : xR) := f_X4_hasPermit_run h (fun q e => by rw [e])
def f_X6_countPeople_l4 (k4v0r : Nat) (k4v0o : Nat) (M : xM) (s4 : Int32 × Int32) : Option ((Int32 × Int32) ⊕ (Int32)) := if s4.2 < (20 : Int32) then (if xp_in s4.2 20 = true then (if (M.1 k4v0r k4v0o s4.2.toNatClampNeg) = (-6 : Int32) then (some (.inl (s4.1, s4.2 + (1 : Int32)))) else (some (.inl (s4.1 + (1 : Int32), s4.2 + (1 : Int32))))) else none) else (Option.map Sum.inr (some (s4.1)))
theorem f_X6_countPeople_l4_ok {X : List Int32} {k4v0r : Nat} {k4v0o : Nat} {M : xM} {s4 : Int32 × Int32} {p : (Int32 × Int32) ⊕ (Int32)} {r : xR} (h : f_X6_countPeople_l4 k4v0r k4v0o M s4 = some p) (h0 : ∀ s', p = .inl s' → xq X xe 15 4 [(0, .inr (.inr (3, k4v0r, k4v0o))), (1, .inl s'.1), (2, .inl s'.2)] [] M r) (hr : ∀ q, p = .inr (q) → ((some (.inl q), M) : xR) = r) : xq X xe 15 4 [(0, .inr (.inr (3, k4v0r, k4v0o))), (1, .inl s4.1), (2, .inl s4.2)] [] M r := by
  unfold f_X6_countPeople_l4 at h
  refine xq_blk 3 (pc' := 7) (ls' := [(0, .inr (.inr (3, k4v0r, k4v0o))), (1, .inl s4.1), (2, .inl s4.2)]) (st' := [.inl (20 : Int32), .inl s4.2]) (M' := M) rfl ?_
  refine xq_ite h (fun c3 h => ?_) (fun c3 h => ?_)
  · refine xq_core (pc' := 10) (ls' := [(0, .inr (.inr (3, k4v0r, k4v0o))), (1, .inl s4.1), (2, .inl s4.2)]) (st' := []) rfl (if_pos c3) ?_
    refine xq_blk 2 (pc' := 12) (ls' := [(0, .inr (.inr (3, k4v0r, k4v0o))), (1, .inl s4.1), (2, .inl s4.2)]) (st' := [.inl s4.2, .inr (.inr (3, k4v0r, k4v0o))]) (M' := M) rfl ?_
    refine xq_guard h (fun g1 h => ?_)
    refine xq_prim (st' := [.inl (M.1 k4v0r k4v0o s4.2.toNatClampNeg)]) (M' := M) rfl rfl rfl (xg_ald0 rfl g1) ?_
    refine xq_blk 1 (pc' := 15) (ls' := [(0, .inr (.inr (3, k4v0r, k4v0o))), (1, .inl s4.1), (2, .inl s4.2)]) (st' := [.inl (-6 : Int32), .inl (M.1 k4v0r k4v0o s4.2.toNatClampNeg)]) (M' := M) rfl ?_
    refine xq_ite h (fun c2 h => ?_) (fun c2 h => ?_)
    · refine xq_core (pc' := 21) (ls' := [(0, .inr (.inr (3, k4v0r, k4v0o))), (1, .inl s4.1), (2, .inl s4.2)]) (st' := []) rfl (if_pos c2) ?_
      refine xq_blk 2 (pc' := 4) (ls' := [(2, .inl (s4.2 + (1 : Int32))), (0, .inr (.inr (3, k4v0r, k4v0o))), (1, .inl s4.1)]) (st' := []) (M' := M) rfl ?_
      exact xq_sub (a := [(0, .inr (.inr (3, k4v0r, k4v0o))), (1, .inl ((s4.1, s4.2 + (1 : Int32)).1)), (2, .inl ((s4.1, s4.2 + (1 : Int32)).2))]) ⟨rfl, rfl, rfl, trivial⟩ rfl (h0 (s4.1, s4.2 + (1 : Int32)) (Option.some.inj h).symm)
    · refine xq_core (pc' := 18) (ls' := [(0, .inr (.inr (3, k4v0r, k4v0o))), (1, .inl s4.1), (2, .inl s4.2)]) (st' := []) rfl (if_neg c2) ?_
      refine xq_blk 3 (pc' := 4) (ls' := [(2, .inl (s4.2 + (1 : Int32))), (1, .inl (s4.1 + (1 : Int32))), (0, .inr (.inr (3, k4v0r, k4v0o)))]) (st' := []) (M' := M) rfl ?_
      exact xq_sub (a := [(0, .inr (.inr (3, k4v0r, k4v0o))), (1, .inl ((s4.1 + (1 : Int32), s4.2 + (1 : Int32)).1)), (2, .inl ((s4.1 + (1 : Int32), s4.2 + (1 : Int32)).2))]) ⟨rfl, rfl, rfl, trivial⟩ rfl (h0 (s4.1 + (1 : Int32), s4.2 + (1 : Int32)) (Option.some.inj h).symm)
  · refine xq_core (pc' := 27) (ls' := [(0, .inr (.inr (3, k4v0r, k4v0o))), (1, .inl s4.1), (2, .inl s4.2)]) (st' := []) rfl (if_neg c3) ?_
    refine xq_map h (fun p h e => ?_)
    replace hr := fun q e' => hr q (e.symm.trans (congrArg Sum.inr e'))
    clear e
    refine xq_blk 1 (pc' := 28) (ls' := [(0, .inr (.inr (3, k4v0r, k4v0o))), (1, .inl s4.1), (2, .inl s4.2)]) (st' := [.inl s4.1]) (M' := M) rfl ?_
    exact (hr _ (Option.some.inj h).symm) ▸ xq_ret rfl
def f_X6_countPeople (a0r : Nat) (a0o : Nat) (M : xM) : Option (Int32) := xlp (f_X6_countPeople_l4 a0r a0o M) 4000 ((0 : Int32), (0 : Int32))
theorem f_X6_countPeople_run {X : List Int32} {a0r : Nat} {a0o : Nat} {M : xM} {p : Int32} {r : xR} (h : f_X6_countPeople a0r a0o M = some p) (hr : ∀ q, p = q → ((some (.inl q), M) : xR) = r) : xq X xe 15 0 [(0, .inr (.inr (3, a0r, a0o)))] [] M r := by
  unfold f_X6_countPeople at h
  refine xq_blk 4 (pc' := 4) (ls' := [(2, .inl (0 : Int32)), (1, .inl (0 : Int32)), (0, .inr (.inr (3, a0r, a0o)))]) (st' := []) (M' := M) rfl ?_
  refine xq_sub (a := [(0, .inr (.inr (3, a0r, a0o))), (1, .inl (0 : Int32)), (2, .inl (0 : Int32))]) ⟨rfl, rfl, rfl, trivial⟩ rfl ?_
  exact xlp_ok (P := fun s4 => xq X xe 15 4 [(0, .inr (.inr (3, a0r, a0o))), (1, .inl s4.1), (2, .inl s4.2)] [] M r) (fun s p' hb g0 g1 => f_X6_countPeople_l4_ok hb g0 (fun q e => hr q (g1 _ e).symm)) 4000 _ h
theorem f_X6_countPeople_ok {X : List Int32} {a0r : Nat} {a0o : Nat} {M : xM} {p : Int32} (h : f_X6_countPeople a0r a0o M = some p) : xq X xe 15 0 [(0, .inr (.inr (3, a0r, a0o)))] [] M ((some (.inl p), M) : xR) := f_X6_countPeople_run h (fun q e => by rw [e])
def f_X4_countWaiting (a0r : Nat) (a1 : Int32) (M : xM) : Option (Int32) := if xp_in a1 3 = true then ((f_X6_countPeople a0r (6 + 1 + a1.toNatClampNeg) M).bind (fun q2 => some (q2))) else none
theorem f_X4_countWaiting_run {X : List Int32} {a0r : Nat} {a1 : Int32} {M : xM} {p : Int32} {r : xR} (h : f_X4_countWaiting a0r a1 M = some p) (hr : ∀ q, p = q → ((some (.inl q), M) : xR) = r) : xq X xe 38 0 [(0, .inr (.inr (1, a0r, 3))), (1, .inl a1)] [] M r := by
  unfold f_X4_countWaiting at h
  refine xq_blk 3 (pc' := 5) (ls' := [(0, .inr (.inr (1, a0r, 3))), (1, .inl a1)]) (st' := [.inl a1, .inr (.inr (6, a0r, 6))]) (M' := M) rfl ?_
  refine xq_guard h (fun g1 h => ?_)
  refine xq_prim (st' := [.inr (.inr (3, a0r, (6 + 1 + a1.toNatClampNeg)))]) (M' := M) rfl rfl rfl (xg_aald6 g1) ?_
  refine xq_bind h (fun q2 e3 h => ?_)
  refine xq_call (j := 15) (as := [.inr (.inr (3, a0r, (6 + 1 + a1.toNatClampNeg)))]) (pc' := 9) (ls' := [(0, .inr (.inr (1, a0r, 3))), (1, .inl a1)]) (st' := []) rfl rfl (f_X6_countPeople_ok e3) ?_
  exact (hr _ (Option.some.inj h).symm) ▸ xq_ret rfl
theorem f_X4_countWaiting_ok {X : List Int32} {a0r : Nat} {a1 : Int32} {M : xM} {p : Int32} (h : f_X4_countWaiting a0r a1 M = some p) : xq X xe 38 0 [(0, .inr (.inr (1, a0r, 3))), (1, .inl a1)] [] M ((some (.inl p), M) : xR) := f_X4_countWaiting_run h (fun q e => by rw [e])
def f_X4_queue (a0r : Nat) (a1 : Int32) (a2 : Int32) (a3 : Int32) (a4 : Int32) (M : xM) : Option (Int32 × xM) := (f_X4_countWaiting a0r a2 M).bind (fun q1 => if xp_in a2 3 = true then (if xp_in a1 20 = true then (if xp_in a2 3 = true then (if xp_in a1 20 = true then (if xp_in a2 3 = true then (if xp_in a1 20 = true then (some ((q1 + (1 : Int32), xd_up (xd_up (xd_up M a0r (6 + 1 + a2.toNatClampNeg) a1.toNatClampNeg q1) a0r (10 + 1 + a2.toNatClampNeg) a1.toNatClampNeg a3) a0r (14 + 1 + a2.toNatClampNeg) a1.toNatClampNeg a4))) else none) else none) else none) else none) else none) else none)
theorem f_X4_queue_run {X : List Int32} {a0r : Nat} {a1 : Int32} {a2 : Int32} {a3 : Int32} {a4 : Int32} {M : xM} {p : Int32 × xM} {r : xR} (h : f_X4_queue a0r a1 a2 a3 a4 M = some p) (hr : ∀ q, p = q → ((some (.inl q.1), q.2) : xR) = r) : xq X xe 44 0 [(0, .inr (.inr (1, a0r, 3))), (1, .inl a1), (2, .inl a2), (3, .inl a3), (4, .inl a4)] [] M r := by
  unfold f_X4_queue at h
  refine xq_blk 2 (pc' := 2) (ls' := [(0, .inr (.inr (1, a0r, 3))), (1, .inl a1), (2, .inl a2), (3, .inl a3), (4, .inl a4)]) (st' := [.inl a2, .inr (.inr (1, a0r, 3))]) (M' := M) rfl ?_
  refine xq_bind h (fun q1 e2 h => ?_)
  refine xq_call (j := 38) (as := [.inr (.inr (1, a0r, 3)), .inl a2]) (pc' := 5) (ls' := [(0, .inr (.inr (1, a0r, 3))), (1, .inl a1), (2, .inl a2), (3, .inl a3), (4, .inl a4)]) (st' := []) rfl rfl (f_X4_countWaiting_ok e2) ?_
  refine xq_blk 4 (pc' := 12) (ls' := [(5, .inl q1), (0, .inr (.inr (1, a0r, 3))), (1, .inl a1), (2, .inl a2), (3, .inl a3), (4, .inl a4)]) (st' := [.inl a2, .inr (.inr (6, a0r, 6))]) (M' := M) rfl ?_
  refine xq_guard h (fun g3 h => ?_)
  refine xq_prim (st' := [.inr (.inr (3, a0r, (6 + 1 + a2.toNatClampNeg)))]) (M' := M) rfl rfl rfl (xg_aald6 g3) ?_
  refine xq_blk 2 (pc' := 16) (ls' := [(5, .inl q1), (0, .inr (.inr (1, a0r, 3))), (1, .inl a1), (2, .inl a2), (3, .inl a3), (4, .inl a4)]) (st' := [.inl q1, .inl a1, .inr (.inr (3, a0r, (6 + 1 + a2.toNatClampNeg)))]) (M' := M) rfl ?_
  refine xq_guard h (fun g4 h => ?_)
  refine xq_prim (st' := []) (M' := xd_up M a0r (6 + 1 + a2.toNatClampNeg) a1.toNatClampNeg q1) rfl rfl rfl (xg_ast0 rfl g4) ?_
  refine xq_blk 3 (pc' := 22) (ls' := [(5, .inl q1), (0, .inr (.inr (1, a0r, 3))), (1, .inl a1), (2, .inl a2), (3, .inl a3), (4, .inl a4)]) (st' := [.inl a2, .inr (.inr (6, a0r, 10))]) (M' := xd_up M a0r (6 + 1 + a2.toNatClampNeg) a1.toNatClampNeg q1) rfl ?_
  refine xq_guard h (fun g5 h => ?_)
  refine xq_prim (st' := [.inr (.inr (3, a0r, (10 + 1 + a2.toNatClampNeg)))]) (M' := xd_up M a0r (6 + 1 + a2.toNatClampNeg) a1.toNatClampNeg q1) rfl rfl rfl (xg_aald6 g5) ?_
  refine xq_blk 2 (pc' := 25) (ls' := [(5, .inl q1), (0, .inr (.inr (1, a0r, 3))), (1, .inl a1), (2, .inl a2), (3, .inl a3), (4, .inl a4)]) (st' := [.inl a3, .inl a1, .inr (.inr (3, a0r, (10 + 1 + a2.toNatClampNeg)))]) (M' := xd_up M a0r (6 + 1 + a2.toNatClampNeg) a1.toNatClampNeg q1) rfl ?_
  refine xq_guard h (fun g6 h => ?_)
  refine xq_prim (st' := []) (M' := xd_up (xd_up M a0r (6 + 1 + a2.toNatClampNeg) a1.toNatClampNeg q1) a0r (10 + 1 + a2.toNatClampNeg) a1.toNatClampNeg a3) rfl rfl rfl (xg_ast0 rfl g6) ?_
  refine xq_blk 3 (pc' := 31) (ls' := [(5, .inl q1), (0, .inr (.inr (1, a0r, 3))), (1, .inl a1), (2, .inl a2), (3, .inl a3), (4, .inl a4)]) (st' := [.inl a2, .inr (.inr (6, a0r, 14))]) (M' := xd_up (xd_up M a0r (6 + 1 + a2.toNatClampNeg) a1.toNatClampNeg q1) a0r (10 + 1 + a2.toNatClampNeg) a1.toNatClampNeg a3) rfl ?_
  refine xq_guard h (fun g7 h => ?_)
  refine xq_prim (st' := [.inr (.inr (3, a0r, (14 + 1 + a2.toNatClampNeg)))]) (M' := xd_up (xd_up M a0r (6 + 1 + a2.toNatClampNeg) a1.toNatClampNeg q1) a0r (10 + 1 + a2.toNatClampNeg) a1.toNatClampNeg a3) rfl rfl rfl (xg_aald6 g7) ?_
  refine xq_blk 2 (pc' := 35) (ls' := [(5, .inl q1), (0, .inr (.inr (1, a0r, 3))), (1, .inl a1), (2, .inl a2), (3, .inl a3), (4, .inl a4)]) (st' := [.inl a4, .inl a1, .inr (.inr (3, a0r, (14 + 1 + a2.toNatClampNeg)))]) (M' := xd_up (xd_up M a0r (6 + 1 + a2.toNatClampNeg) a1.toNatClampNeg q1) a0r (10 + 1 + a2.toNatClampNeg) a1.toNatClampNeg a3) rfl ?_
  refine xq_guard h (fun g8 h => ?_)
  refine xq_prim (st' := []) (M' := xd_up (xd_up (xd_up M a0r (6 + 1 + a2.toNatClampNeg) a1.toNatClampNeg q1) a0r (10 + 1 + a2.toNatClampNeg) a1.toNatClampNeg a3) a0r (14 + 1 + a2.toNatClampNeg) a1.toNatClampNeg a4) rfl rfl rfl (xg_ast0 rfl g8) ?_
  refine xq_blk 3 (pc' := 40) (ls' := [(5, .inl q1), (0, .inr (.inr (1, a0r, 3))), (1, .inl a1), (2, .inl a2), (3, .inl a3), (4, .inl a4)]) (st' := [.inl (q1 + (1 : Int32))]) (M' := xd_up (xd_up (xd_up M a0r (6 + 1 + a2.toNatClampNeg) a1.toNatClampNeg q1) a0r (10 + 1 + a2.toNatClampNeg) a1.toNatClampNeg a3) a0r (14 + 1 + a2.toNatClampNeg) a1.toNatClampNeg a4) rfl ?_
  exact (hr _ (Option.some.inj h).symm) ▸ xq_ret rfl
theorem f_X4_queue_ok {X : List Int32} {a0r : Nat} {a1 : Int32} {a2 : Int32} {a3 : Int32} {a4 : Int32} {M : xM} {p : Int32 × xM} (h : f_X4_queue a0r a1 a2 a3 a4 M = some p) : xq X xe 44 0 [(0, .inr (.inr (1, a0r, 3))), (1, .inl a1), (2, .inl a2), (3, .inl a3), (4, .inl a4)] [] M ((some (.inl p.1), p.2) : xR) := f_X4_queue_run h (fun q e => by rw [e])
def f_X5_askFor_j98 (v0r : Nat) (v1 : Int32) (v2 : Int32) (v3 : Int32) (M : xM) : Option (Int32 × xM) := (f_X4_queue v0r v1 v2 v3 (M.1 v0r 0 4) M).bind (fun q19 => some ((q19.1, q19.2)))
theorem f_X5_askFor_j98_ok {X : List Int32} {v0r : Nat} {v1 : Int32} {v2 : Int32} {v3 : Int32} {M : xM} {p : Int32 × xM} {r : xR} (h : f_X5_askFor_j98 v0r v1 v2 v3 M = some p) (hr : ∀ q, p = q → ((some (.inl q.1), q.2) : xR) = r) : xq X xe 53 98 [(0, .inr (.inr (0, v0r, 0))), (1, .inl v1), (2, .inl v2), (3, .inl v3)] [] M r := by
  unfold f_X5_askFor_j98 at h
  refine xq_blk 7 (pc' := 109) (ls' := [(0, .inr (.inr (0, v0r, 0))), (1, .inl v1), (2, .inl v2), (3, .inl v3)]) (st' := [.inl (M.1 v0r 0 4), .inl v3, .inl v2, .inl v1, .inr (.inr (1, v0r, 3))]) (M' := M) rfl ?_
  refine xq_bind h (fun q19 e20 h => ?_)
  refine xq_call (j := 44) (as := [.inr (.inr (1, v0r, 3)), .inl v1, .inl v2, .inl v3, .inl (M.1 v0r 0 4)]) (pc' := 112) (ls' := [(0, .inr (.inr (0, v0r, 0))), (1, .inl v1), (2, .inl v2), (3, .inl v3)]) (st' := []) rfl rfl (f_X4_queue_ok e20) ?_
  exact (hr _ (Option.some.inj h).symm) ▸ xq_ret rfl
def f_X5_askFor (a0r : Nat) (a1 : Int32) (a2 : Int32) (a3 : Int32) (M : xM) : Option (Int32 × xM) := (f_X6_isPerson a1 M).bind (fun q1 => if q1 = (0 : Int32) then (some (((-1 : Int32), M))) else ((f_X6_isShed a2 M).bind (fun q3 => if q3 = (0 : Int32) then (some (((-1 : Int32), M))) else ((f_X6_isFrom (1 : Int32) a3 (99 : Int32) M).bind (fun q5 => if q5 = (0 : Int32) then (some (((-2 : Int32), M))) else ((f_X4_hasPermit a0r a1 M).bind (fun q7 => if q7 = (0 : Int32) then ((f_X4_waitsFor a0r a1 a2 M).bind (fun q9 => if q9 = (0 : Int32) then ((f_X4_countOf a0r a2 M).bind (fun q11 => (f_X5_permitsToGive a0r a2 M).bind (fun q13 => if q11 < q13 then ((f_X4_countWaiting a0r a2 M).bind (fun q15 => if q15 = (0 : Int32) then ((f_X4_give a0r a1 a2 a3 (M.1 a0r 0 4) M).bind (fun q17 => some (((0 : Int32), q17)))) else (f_X5_askFor_j98 a0r a1 a2 a3 M))) else (f_X5_askFor_j98 a0r a1 a2 a3 M)))) else (some (((-5 : Int32), M))))) else (some (((-5 : Int32), M))))))))))
theorem f_X5_askFor_run {X : List Int32} {a0r : Nat} {a1 : Int32} {a2 : Int32} {a3 : Int32} {M : xM} {p : Int32 × xM} {r : xR} (h : f_X5_askFor a0r a1 a2 a3 M = some p) (hr : ∀ q, p = q → ((some (.inl q.1), q.2) : xR) = r) : xq X xe 53 0 [(0, .inr (.inr (0, a0r, 0))), (1, .inl a1), (2, .inl a2), (3, .inl a3)] [] M r := by
  unfold f_X5_askFor at h
  refine xq_blk 1 (pc' := 1) (ls' := [(0, .inr (.inr (0, a0r, 0))), (1, .inl a1), (2, .inl a2), (3, .inl a3)]) (st' := [.inl a1]) (M' := M) rfl ?_
  refine xq_bind h (fun q1 e2 h => ?_)
  refine xq_call (j := 46) (as := [.inl a1]) (pc' := 4) (ls' := [(0, .inr (.inr (0, a0r, 0))), (1, .inl a1), (2, .inl a2), (3, .inl a3)]) (st' := []) rfl rfl (f_X6_isPerson_ok e2) ?_
  refine xq_ite h (fun c27 h => ?_) (fun c27 h => ?_)
  · refine xq_core (pc' := 14) (ls' := [(0, .inr (.inr (0, a0r, 0))), (1, .inl a1), (2, .inl a2), (3, .inl a3)]) (st' := []) rfl (if_pos c27) ?_
    refine xq_blk 1 (pc' := 15) (ls' := [(0, .inr (.inr (0, a0r, 0))), (1, .inl a1), (2, .inl a2), (3, .inl a3)]) (st' := [.inl (-1 : Int32)]) (M' := M) rfl ?_
    exact (hr _ (Option.some.inj h).symm) ▸ xq_ret rfl
  · refine xq_core (pc' := 7) (ls' := [(0, .inr (.inr (0, a0r, 0))), (1, .inl a1), (2, .inl a2), (3, .inl a3)]) (st' := []) rfl (if_neg c27) ?_
    refine xq_blk 1 (pc' := 8) (ls' := [(0, .inr (.inr (0, a0r, 0))), (1, .inl a1), (2, .inl a2), (3, .inl a3)]) (st' := [.inl a2]) (M' := M) rfl ?_
    refine xq_bind h (fun q3 e4 h => ?_)
    refine xq_call (j := 31) (as := [.inl a2]) (pc' := 11) (ls' := [(0, .inr (.inr (0, a0r, 0))), (1, .inl a1), (2, .inl a2), (3, .inl a3)]) (st' := []) rfl rfl (f_X6_isShed_ok e4) ?_
    refine xq_ite h (fun c26 h => ?_) (fun c26 h => ?_)
    · refine xq_core (pc' := 14) (ls' := [(0, .inr (.inr (0, a0r, 0))), (1, .inl a1), (2, .inl a2), (3, .inl a3)]) (st' := []) rfl (if_pos c26) ?_
      refine xq_blk 1 (pc' := 15) (ls' := [(0, .inr (.inr (0, a0r, 0))), (1, .inl a1), (2, .inl a2), (3, .inl a3)]) (st' := [.inl (-1 : Int32)]) (M' := M) rfl ?_
      exact (hr _ (Option.some.inj h).symm) ▸ xq_ret rfl
    · refine xq_core (pc' := 16) (ls' := [(0, .inr (.inr (0, a0r, 0))), (1, .inl a1), (2, .inl a2), (3, .inl a3)]) (st' := []) rfl (if_neg c26) ?_
      refine xq_blk 3 (pc' := 20) (ls' := [(0, .inr (.inr (0, a0r, 0))), (1, .inl a1), (2, .inl a2), (3, .inl a3)]) (st' := [.inl (99 : Int32), .inl a3, .inl (1 : Int32)]) (M' := M) rfl ?_
      refine xq_bind h (fun q5 e6 h => ?_)
      refine xq_call (j := 48) (as := [.inl (1 : Int32), .inl a3, .inl (99 : Int32)]) (pc' := 23) (ls' := [(0, .inr (.inr (0, a0r, 0))), (1, .inl a1), (2, .inl a2), (3, .inl a3)]) (st' := []) rfl rfl (f_X6_isFrom_ok e6) ?_
      refine xq_ite h (fun c25 h => ?_) (fun c25 h => ?_)
      · refine xq_core (pc' := 26) (ls' := [(0, .inr (.inr (0, a0r, 0))), (1, .inl a1), (2, .inl a2), (3, .inl a3)]) (st' := []) rfl (if_pos c25) ?_
        refine xq_blk 1 (pc' := 28) (ls' := [(0, .inr (.inr (0, a0r, 0))), (1, .inl a1), (2, .inl a2), (3, .inl a3)]) (st' := [.inl (-2 : Int32)]) (M' := M) rfl ?_
        exact (hr _ (Option.some.inj h).symm) ▸ xq_ret rfl
      · refine xq_core (pc' := 29) (ls' := [(0, .inr (.inr (0, a0r, 0))), (1, .inl a1), (2, .inl a2), (3, .inl a3)]) (st' := []) rfl (if_neg c25) ?_
        refine xq_blk 3 (pc' := 34) (ls' := [(0, .inr (.inr (0, a0r, 0))), (1, .inl a1), (2, .inl a2), (3, .inl a3)]) (st' := [.inl a1, .inr (.inr (1, a0r, 3))]) (M' := M) rfl ?_
        refine xq_bind h (fun q7 e8 h => ?_)
        refine xq_call (j := 32) (as := [.inr (.inr (1, a0r, 3)), .inl a1]) (pc' := 37) (ls' := [(0, .inr (.inr (0, a0r, 0))), (1, .inl a1), (2, .inl a2), (3, .inl a3)]) (st' := []) rfl rfl (f_X4_hasPermit_ok e8) ?_
        refine xq_ite h (fun c24 h => ?_) (fun c24 h => ?_)
        · refine xq_core (pc' := 40) (ls' := [(0, .inr (.inr (0, a0r, 0))), (1, .inl a1), (2, .inl a2), (3, .inl a3)]) (st' := []) rfl (if_pos c24) ?_
          refine xq_blk 4 (pc' := 46) (ls' := [(0, .inr (.inr (0, a0r, 0))), (1, .inl a1), (2, .inl a2), (3, .inl a3)]) (st' := [.inl a2, .inl a1, .inr (.inr (1, a0r, 3))]) (M' := M) rfl ?_
          refine xq_bind h (fun q9 e10 h => ?_)
          refine xq_call (j := 33) (as := [.inr (.inr (1, a0r, 3)), .inl a1, .inl a2]) (pc' := 49) (ls' := [(0, .inr (.inr (0, a0r, 0))), (1, .inl a1), (2, .inl a2), (3, .inl a3)]) (st' := []) rfl rfl (f_X4_waitsFor_ok e10) ?_
          refine xq_ite h (fun c23 h => ?_) (fun c23 h => ?_)
          · refine xq_core (pc' := 55) (ls' := [(0, .inr (.inr (0, a0r, 0))), (1, .inl a1), (2, .inl a2), (3, .inl a3)]) (st' := []) rfl (if_pos c23) ?_
            refine xq_blk 3 (pc' := 60) (ls' := [(0, .inr (.inr (0, a0r, 0))), (1, .inl a1), (2, .inl a2), (3, .inl a3)]) (st' := [.inl a2, .inr (.inr (1, a0r, 3))]) (M' := M) rfl ?_
            refine xq_bind h (fun q11 e12 h => ?_)
            refine xq_call (j := 36) (as := [.inr (.inr (1, a0r, 3)), .inl a2]) (pc' := 63) (ls' := [(0, .inr (.inr (0, a0r, 0))), (1, .inl a1), (2, .inl a2), (3, .inl a3)]) (st' := []) rfl rfl (f_X4_countOf_ok e12) ?_
            refine xq_blk 2 (pc' := 65) (ls' := [(0, .inr (.inr (0, a0r, 0))), (1, .inl a1), (2, .inl a2), (3, .inl a3)]) (st' := [.inl a2, .inr (.inr (0, a0r, 0)), .inl q11]) (M' := M) rfl ?_
            refine xq_bind h (fun q13 e14 h => ?_)
            refine xq_call (j := 50) (as := [.inr (.inr (0, a0r, 0)), .inl a2]) (pc' := 68) (ls' := [(0, .inr (.inr (0, a0r, 0))), (1, .inl a1), (2, .inl a2), (3, .inl a3)]) (st' := [.inl q11]) rfl rfl (f_X5_permitsToGive_ok e14) ?_
            refine xq_ite h (fun c22 h => ?_) (fun c22 h => ?_)
            · refine xq_core (pc' := 71) (ls' := [(0, .inr (.inr (0, a0r, 0))), (1, .inl a1), (2, .inl a2), (3, .inl a3)]) (st' := []) rfl (if_pos c22) ?_
              refine xq_blk 3 (pc' := 76) (ls' := [(0, .inr (.inr (0, a0r, 0))), (1, .inl a1), (2, .inl a2), (3, .inl a3)]) (st' := [.inl a2, .inr (.inr (1, a0r, 3))]) (M' := M) rfl ?_
              refine xq_bind h (fun q15 e16 h => ?_)
              refine xq_call (j := 38) (as := [.inr (.inr (1, a0r, 3)), .inl a2]) (pc' := 79) (ls' := [(0, .inr (.inr (0, a0r, 0))), (1, .inl a1), (2, .inl a2), (3, .inl a3)]) (st' := []) rfl rfl (f_X4_countWaiting_ok e16) ?_
              refine xq_ite h (fun c21 h => ?_) (fun c21 h => ?_)
              · refine xq_core (pc' := 82) (ls' := [(0, .inr (.inr (0, a0r, 0))), (1, .inl a1), (2, .inl a2), (3, .inl a3)]) (st' := []) rfl (if_pos c21) ?_
                refine xq_blk 7 (pc' := 93) (ls' := [(0, .inr (.inr (0, a0r, 0))), (1, .inl a1), (2, .inl a2), (3, .inl a3)]) (st' := [.inl (M.1 a0r 0 4), .inl a3, .inl a2, .inl a1, .inr (.inr (1, a0r, 3))]) (M' := M) rfl ?_
                refine xq_bind h (fun q17 e18 h => ?_)
                refine xq_call (j := 41) (as := [.inr (.inr (1, a0r, 3)), .inl a1, .inl a2, .inl a3, .inl (M.1 a0r 0 4)]) (pc' := 96) (ls' := [(0, .inr (.inr (0, a0r, 0))), (1, .inl a1), (2, .inl a2), (3, .inl a3)]) (st' := []) rfl rfl (f_X4_give_ok e18) ?_
                refine xq_blk 1 (pc' := 97) (ls' := [(0, .inr (.inr (0, a0r, 0))), (1, .inl a1), (2, .inl a2), (3, .inl a3)]) (st' := [.inl (0 : Int32)]) (M' := q17) rfl ?_
                exact (hr _ (Option.some.inj h).symm) ▸ xq_ret rfl
              · refine xq_core (pc' := 98) (ls' := [(0, .inr (.inr (0, a0r, 0))), (1, .inl a1), (2, .inl a2), (3, .inl a3)]) (st' := []) rfl (if_neg c21) ?_
                exact xq_sub (a := [(0, .inr (.inr (0, a0r, 0))), (1, .inl a1), (2, .inl a2), (3, .inl a3)]) ⟨rfl, rfl, rfl, rfl, trivial⟩ rfl (f_X5_askFor_j98_ok h hr)
            · refine xq_core (pc' := 98) (ls' := [(0, .inr (.inr (0, a0r, 0))), (1, .inl a1), (2, .inl a2), (3, .inl a3)]) (st' := []) rfl (if_neg c22) ?_
              exact xq_sub (a := [(0, .inr (.inr (0, a0r, 0))), (1, .inl a1), (2, .inl a2), (3, .inl a3)]) ⟨rfl, rfl, rfl, rfl, trivial⟩ rfl (f_X5_askFor_j98_ok h hr)
          · refine xq_core (pc' := 52) (ls' := [(0, .inr (.inr (0, a0r, 0))), (1, .inl a1), (2, .inl a2), (3, .inl a3)]) (st' := []) rfl (if_neg c23) ?_
            refine xq_blk 1 (pc' := 54) (ls' := [(0, .inr (.inr (0, a0r, 0))), (1, .inl a1), (2, .inl a2), (3, .inl a3)]) (st' := [.inl (-5 : Int32)]) (M' := M) rfl ?_
            exact (hr _ (Option.some.inj h).symm) ▸ xq_ret rfl
        · refine xq_core (pc' := 52) (ls' := [(0, .inr (.inr (0, a0r, 0))), (1, .inl a1), (2, .inl a2), (3, .inl a3)]) (st' := []) rfl (if_neg c24) ?_
          refine xq_blk 1 (pc' := 54) (ls' := [(0, .inr (.inr (0, a0r, 0))), (1, .inl a1), (2, .inl a2), (3, .inl a3)]) (st' := [.inl (-5 : Int32)]) (M' := M) rfl ?_
          exact (hr _ (Option.some.inj h).symm) ▸ xq_ret rfl
theorem f_X5_askFor_ok {X : List Int32} {a0r : Nat} {a1 : Int32} {a2 : Int32} {a3 : Int32} {M : xM} {p : Int32 × xM} (h : f_X5_askFor a0r a1 a2 a3 M = some p) : xq X xe 53 0 [(0, .inr (.inr (0, a0r, 0))), (1, .inl a1), (2, .inl a2), (3, .inl a3)] [] M ((some (.inl p.1), p.2) : xR) := f_X5_askFor_run h (fun q e => by rw [e])
def f_X6_ask (a1 : Int32) (a2 : Int32) (a3 : Int32) (M : xM) : Option (Int32 × xM) := (f_X5_askFor 2 a1 a2 a3 (xe_cp 3 2 M)).bind (fun q1 => (f_X6_recorded q1.1 q1.2).bind (fun q3 => some ((q3.1, q3.2))))
theorem f_X6_ask_run {X : List Int32} {a1 : Int32} {a2 : Int32} {a3 : Int32} {M : xM} {p : Int32 × xM} {r : xR} (h : f_X6_ask a1 a2 a3 M = some p) (hr : ∀ q, p = q → ((some (.inl q.1), q.2) : xR) = r) : xq X xe 77 0 [(0, .inr (.inr (7, 5, 0))), (1, .inl a1), (2, .inl a2), (3, .inl a3)] [] M r := by
  unfold f_X6_ask at h
  refine xq_blk 4 (pc' := 8) (ls' := [(0, .inr (.inr (7, 5, 0))), (1, .inl a1), (2, .inl a2), (3, .inl a3)]) (st' := [.inr (.inr (0, 2, 0)), .inr (.inr (0, 3, 0))]) (M' := M) rfl ?_
  refine xq_ext (j := 27) (as := [.inr (.inr (0, 3, 0)), .inr (.inr (0, 2, 0))]) (pc' := 11) (ls' := [(0, .inr (.inr (7, 5, 0))), (1, .inl a1), (2, .inl a2), (3, .inl a3)]) (st' := []) (q := (none, xe_cp 3 2 M)) rfl rfl rfl ?_
  refine xq_blk 6 (pc' := 19) (ls' := [(0, .inr (.inr (7, 5, 0))), (1, .inl a1), (2, .inl a2), (3, .inl a3)]) (st' := [.inl a3, .inl a2, .inl a1, .inr (.inr (0, 2, 0)), .inr (.inr (7, 5, 0))]) (M' := xe_cp 3 2 M) rfl ?_
  refine xq_bind h (fun q1 e2 h => ?_)
  refine xq_call (j := 53) (as := [.inr (.inr (0, 2, 0)), .inl a1, .inl a2, .inl a3]) (pc' := 22) (ls' := [(0, .inr (.inr (7, 5, 0))), (1, .inl a1), (2, .inl a2), (3, .inl a3)]) (st' := [.inr (.inr (7, 5, 0))]) rfl rfl (f_X5_askFor_ok e2) ?_
  refine xq_bind h (fun q3 e4 h => ?_)
  refine xq_call (j := 75) (as := [.inr (.inr (7, 5, 0)), .inl q1.1]) (pc' := 25) (ls' := [(0, .inr (.inr (7, 5, 0))), (1, .inl a1), (2, .inl a2), (3, .inl a3)]) (st' := []) rfl rfl (f_X6_recorded_ok e4) ?_
  exact (hr _ (Option.some.inj h).symm) ▸ xq_ret rfl
theorem f_X6_ask_ok {X : List Int32} {a1 : Int32} {a2 : Int32} {a3 : Int32} {M : xM} {p : Int32 × xM} (h : f_X6_ask a1 a2 a3 M = some p) : xq X xe 77 0 [(0, .inr (.inr (7, 5, 0))), (1, .inl a1), (2, .inl a2), (3, .inl a3)] [] M ((some (.inl p.1), p.2) : xR) := f_X6_ask_run h (fun q e => by rw [e])
def f_X4_shedsWaitedFor_l4 (k4v0r : Nat) (k4v1 : Int32) (M : xM) (s4 : Int32 × Int32) : Option ((Int32 × Int32) ⊕ (Int32)) := if s4.2 < (3 : Int32) then ((f_X4_waitsFor k4v0r k4v1 s4.2 M).bind (fun q1 => if q1 = (0 : Int32) then (some (.inl (s4.1, s4.2 + (1 : Int32)))) else (some (.inl (s4.1 ||| ((1 : Int32) <<< (s4.2 &&& (31 : Int32))), s4.2 + (1 : Int32)))))) else (Option.map Sum.inr (some (s4.1)))
theorem f_X4_shedsWaitedFor_l4_ok {X : List Int32} {k4v0r : Nat} {k4v1 : Int32} {M : xM} {s4 : Int32 × Int32} {p : (Int32 × Int32) ⊕ (Int32)} {r : xR} (h : f_X4_shedsWaitedFor_l4 k4v0r k4v1 M s4 = some p) (h0 : ∀ s', p = .inl s' → xq X xe 34 4 [(0, .inr (.inr (1, k4v0r, 3))), (1, .inl k4v1), (2, .inl s'.1), (3, .inl s'.2)] [] M r) (hr : ∀ q, p = .inr (q) → ((some (.inl q), M) : xR) = r) : xq X xe 34 4 [(0, .inr (.inr (1, k4v0r, 3))), (1, .inl k4v1), (2, .inl s4.1), (3, .inl s4.2)] [] M r := by
  unfold f_X4_shedsWaitedFor_l4 at h
  refine xq_blk 2 (pc' := 6) (ls' := [(0, .inr (.inr (1, k4v0r, 3))), (1, .inl k4v1), (2, .inl s4.1), (3, .inl s4.2)]) (st' := [.inl (3 : Int32), .inl s4.2]) (M' := M) rfl ?_
  refine xq_ite h (fun c4 h => ?_) (fun c4 h => ?_)
  · refine xq_core (pc' := 9) (ls' := [(0, .inr (.inr (1, k4v0r, 3))), (1, .inl k4v1), (2, .inl s4.1), (3, .inl s4.2)]) (st' := []) rfl (if_pos c4) ?_
    refine xq_blk 3 (pc' := 12) (ls' := [(0, .inr (.inr (1, k4v0r, 3))), (1, .inl k4v1), (2, .inl s4.1), (3, .inl s4.2)]) (st' := [.inl s4.2, .inl k4v1, .inr (.inr (1, k4v0r, 3))]) (M' := M) rfl ?_
    refine xq_bind h (fun q1 e2 h => ?_)
    refine xq_call (j := 33) (as := [.inr (.inr (1, k4v0r, 3)), .inl k4v1, .inl s4.2]) (pc' := 15) (ls' := [(0, .inr (.inr (1, k4v0r, 3))), (1, .inl k4v1), (2, .inl s4.1), (3, .inl s4.2)]) (st' := []) rfl rfl (f_X4_waitsFor_ok e2) ?_
    refine xq_ite h (fun c3 h => ?_) (fun c3 h => ?_)
    · refine xq_core (pc' := 24) (ls' := [(0, .inr (.inr (1, k4v0r, 3))), (1, .inl k4v1), (2, .inl s4.1), (3, .inl s4.2)]) (st' := []) rfl (if_pos c3) ?_
      refine xq_blk 2 (pc' := 4) (ls' := [(3, .inl (s4.2 + (1 : Int32))), (0, .inr (.inr (1, k4v0r, 3))), (1, .inl k4v1), (2, .inl s4.1)]) (st' := []) (M' := M) rfl ?_
      exact xq_sub (a := [(0, .inr (.inr (1, k4v0r, 3))), (1, .inl k4v1), (2, .inl ((s4.1, s4.2 + (1 : Int32)).1)), (3, .inl ((s4.1, s4.2 + (1 : Int32)).2))]) ⟨rfl, rfl, rfl, rfl, trivial⟩ rfl (h0 (s4.1, s4.2 + (1 : Int32)) (Option.some.inj h).symm)
    · refine xq_core (pc' := 18) (ls' := [(0, .inr (.inr (1, k4v0r, 3))), (1, .inl k4v1), (2, .inl s4.1), (3, .inl s4.2)]) (st' := []) rfl (if_neg c3) ?_
      refine xq_blk 8 (pc' := 4) (ls' := [(3, .inl (s4.2 + (1 : Int32))), (2, .inl (s4.1 ||| ((1 : Int32) <<< (s4.2 &&& (31 : Int32))))), (0, .inr (.inr (1, k4v0r, 3))), (1, .inl k4v1)]) (st' := []) (M' := M) rfl ?_
      exact xq_sub (a := [(0, .inr (.inr (1, k4v0r, 3))), (1, .inl k4v1), (2, .inl ((s4.1 ||| ((1 : Int32) <<< (s4.2 &&& (31 : Int32))), s4.2 + (1 : Int32)).1)), (3, .inl ((s4.1 ||| ((1 : Int32) <<< (s4.2 &&& (31 : Int32))), s4.2 + (1 : Int32)).2))]) ⟨rfl, rfl, rfl, rfl, trivial⟩ rfl (h0 (s4.1 ||| ((1 : Int32) <<< (s4.2 &&& (31 : Int32))), s4.2 + (1 : Int32)) (Option.some.inj h).symm)
  · refine xq_core (pc' := 30) (ls' := [(0, .inr (.inr (1, k4v0r, 3))), (1, .inl k4v1), (2, .inl s4.1), (3, .inl s4.2)]) (st' := []) rfl (if_neg c4) ?_
    refine xq_map h (fun p h e => ?_)
    replace hr := fun q e' => hr q (e.symm.trans (congrArg Sum.inr e'))
    clear e
    refine xq_blk 1 (pc' := 31) (ls' := [(0, .inr (.inr (1, k4v0r, 3))), (1, .inl k4v1), (2, .inl s4.1), (3, .inl s4.2)]) (st' := [.inl s4.1]) (M' := M) rfl ?_
    exact (hr _ (Option.some.inj h).symm) ▸ xq_ret rfl
def f_X4_shedsWaitedFor (a0r : Nat) (a1 : Int32) (M : xM) : Option (Int32) := xlp (f_X4_shedsWaitedFor_l4 a0r a1 M) 4000 ((0 : Int32), (0 : Int32))
theorem f_X4_shedsWaitedFor_run {X : List Int32} {a0r : Nat} {a1 : Int32} {M : xM} {p : Int32} {r : xR} (h : f_X4_shedsWaitedFor a0r a1 M = some p) (hr : ∀ q, p = q → ((some (.inl q), M) : xR) = r) : xq X xe 34 0 [(0, .inr (.inr (1, a0r, 3))), (1, .inl a1)] [] M r := by
  unfold f_X4_shedsWaitedFor at h
  refine xq_blk 4 (pc' := 4) (ls' := [(3, .inl (0 : Int32)), (2, .inl (0 : Int32)), (0, .inr (.inr (1, a0r, 3))), (1, .inl a1)]) (st' := []) (M' := M) rfl ?_
  refine xq_sub (a := [(0, .inr (.inr (1, a0r, 3))), (1, .inl a1), (2, .inl (0 : Int32)), (3, .inl (0 : Int32))]) ⟨rfl, rfl, rfl, rfl, trivial⟩ rfl ?_
  exact xlp_ok (P := fun s4 => xq X xe 34 4 [(0, .inr (.inr (1, a0r, 3))), (1, .inl a1), (2, .inl s4.1), (3, .inl s4.2)] [] M r) (fun s p' hb g0 g1 => f_X4_shedsWaitedFor_l4_ok hb g0 (fun q e => hr q (g1 _ e).symm)) 4000 _ h
theorem f_X4_shedsWaitedFor_ok {X : List Int32} {a0r : Nat} {a1 : Int32} {M : xM} {p : Int32} (h : f_X4_shedsWaitedFor a0r a1 M = some p) : xq X xe 34 0 [(0, .inr (.inr (1, a0r, 3))), (1, .inl a1)] [] M ((some (.inl p), M) : xR) := f_X4_shedsWaitedFor_run h (fun q e => by rw [e])
def f_X4_waitsForSome (a0r : Nat) (a1 : Int32) (M : xM) : Option (Int32) := (f_X4_shedsWaitedFor a0r a1 M).bind (fun q1 => if q1 = (0 : Int32) then (some ((vp_nar .boolean (0 : Int32)))) else (some ((vp_nar .boolean (1 : Int32)))))
theorem f_X4_waitsForSome_run {X : List Int32} {a0r : Nat} {a1 : Int32} {M : xM} {p : Int32} {r : xR} (h : f_X4_waitsForSome a0r a1 M = some p) (hr : ∀ q, p = q → ((some (.inl q), M) : xR) = r) : xq X xe 35 0 [(0, .inr (.inr (1, a0r, 3))), (1, .inl a1)] [] M r := by
  unfold f_X4_waitsForSome at h
  refine xq_blk 2 (pc' := 2) (ls' := [(0, .inr (.inr (1, a0r, 3))), (1, .inl a1)]) (st' := [.inl a1, .inr (.inr (1, a0r, 3))]) (M' := M) rfl ?_
  refine xq_bind h (fun q1 e2 h => ?_)
  refine xq_call (j := 34) (as := [.inr (.inr (1, a0r, 3)), .inl a1]) (pc' := 5) (ls' := [(0, .inr (.inr (1, a0r, 3))), (1, .inl a1)]) (st' := []) rfl rfl (f_X4_shedsWaitedFor_ok e2) ?_
  refine xq_ite h (fun c3 h => ?_) (fun c3 h => ?_)
  · refine xq_core (pc' := 12) (ls' := [(0, .inr (.inr (1, a0r, 3))), (1, .inl a1)]) (st' := []) rfl (if_pos c3) ?_
    refine xq_blk 1 (pc' := 13) (ls' := [(0, .inr (.inr (1, a0r, 3))), (1, .inl a1)]) (st' := [.inl (0 : Int32)]) (M' := M) rfl ?_
    exact (hr _ (Option.some.inj h).symm) ▸ xq_ret rfl
  · refine xq_core (pc' := 8) (ls' := [(0, .inr (.inr (1, a0r, 3))), (1, .inl a1)]) (st' := []) rfl (if_neg c3) ?_
    refine xq_blk 2 (pc' := 13) (ls' := [(0, .inr (.inr (1, a0r, 3))), (1, .inl a1)]) (st' := [.inl (1 : Int32)]) (M' := M) rfl ?_
    exact (hr _ (Option.some.inj h).symm) ▸ xq_ret rfl
theorem f_X4_waitsForSome_ok {X : List Int32} {a0r : Nat} {a1 : Int32} {M : xM} {p : Int32} (h : f_X4_waitsForSome a0r a1 M = some p) : xq X xe 35 0 [(0, .inr (.inr (1, a0r, 3))), (1, .inl a1)] [] M ((some (.inl p), M) : xR) := f_X4_waitsForSome_run h (fun q e => by rw [e])
def f_X4_end (a0r : Nat) (a1 : Int32) (M : xM) : Option (xM) := if xp_in a1 20 = true then (if xp_in a1 20 = true then (some (xd_up (xd_up M a0r 4 a1.toNatClampNeg (-6 : Int32)) a0r 5 a1.toNatClampNeg (-6 : Int32))) else none) else none
theorem f_X4_end_run {X : List Int32} {a0r : Nat} {a1 : Int32} {M : xM} {p : xM} {r : xR} (h : f_X4_end a0r a1 M = some p) (hr : ∀ q, p = q → ((none, q) : xR) = r) : xq X xe 42 0 [(0, .inr (.inr (1, a0r, 3))), (1, .inl a1)] [] M r := by
  unfold f_X4_end at h
  refine xq_blk 4 (pc' := 7) (ls' := [(0, .inr (.inr (1, a0r, 3))), (1, .inl a1)]) (st' := [.inl (-6 : Int32), .inl a1, .inr (.inr (3, a0r, 4))]) (M' := M) rfl ?_
  refine xq_guard h (fun g1 h => ?_)
  refine xq_prim (st' := []) (M' := xd_up M a0r 4 a1.toNatClampNeg (-6 : Int32)) rfl rfl rfl (xg_ast0 rfl g1) ?_
  refine xq_blk 4 (pc' := 15) (ls' := [(0, .inr (.inr (1, a0r, 3))), (1, .inl a1)]) (st' := [.inl (-6 : Int32), .inl a1, .inr (.inr (3, a0r, 5))]) (M' := xd_up M a0r 4 a1.toNatClampNeg (-6 : Int32)) rfl ?_
  refine xq_guard h (fun g2 h => ?_)
  refine xq_prim (st' := []) (M' := xd_up (xd_up M a0r 4 a1.toNatClampNeg (-6 : Int32)) a0r 5 a1.toNatClampNeg (-6 : Int32)) rfl rfl rfl (xg_ast0 rfl g2) ?_
  exact (hr _ (Option.some.inj h).symm) ▸ xq_ret rfl
theorem f_X4_end_ok {X : List Int32} {a0r : Nat} {a1 : Int32} {M : xM} {p : xM} (h : f_X4_end a0r a1 M = some p) : xq X xe 42 0 [(0, .inr (.inr (1, a0r, 3))), (1, .inl a1)] [] M ((none, p) : xR) := f_X4_end_run h (fun q e => by rw [e])
def f_X5_giveUpAll_j65 (v0r : Nat) (v1 : Int32) (t0 : Int32) (M : xM) : Option (Int32 × xM) := (f_X4_end v0r v1 M).bind (fun q9 => (f_X4_leaveLists v0r v1 q9).bind (fun q11 => (f_X5_moveUp v0r q11).bind (fun q13 => some ((t0, q13)))))
theorem f_X5_giveUpAll_j65_ok {X : List Int32} {v0r : Nat} {v1 : Int32} {t0 : Int32} {M : xM} {p : Int32 × xM} {r : xR} (h : f_X5_giveUpAll_j65 v0r v1 t0 M = some p) (hr : ∀ q, p = q → ((some (.inl q.1), q.2) : xR) = r) : xq X xe 54 65 [(0, .inr (.inr (0, v0r, 0))), (1, .inl v1)] [.inl t0] M r := by
  unfold f_X5_giveUpAll_j65 at h
  refine xq_blk 4 (pc' := 71) (ls' := [(2, .inl t0), (0, .inr (.inr (0, v0r, 0))), (1, .inl v1)]) (st' := [.inl v1, .inr (.inr (1, v0r, 3))]) (M' := M) rfl ?_
  refine xq_bind h (fun q9 e10 h => ?_)
  refine xq_call (j := 42) (as := [.inr (.inr (1, v0r, 3)), .inl v1]) (pc' := 74) (ls' := [(2, .inl t0), (0, .inr (.inr (0, v0r, 0))), (1, .inl v1)]) (st' := []) rfl rfl (f_X4_end_ok e10) ?_
  refine xq_blk 3 (pc' := 79) (ls' := [(2, .inl t0), (0, .inr (.inr (0, v0r, 0))), (1, .inl v1)]) (st' := [.inl v1, .inr (.inr (1, v0r, 3))]) (M' := q9) rfl ?_
  refine xq_bind h (fun q11 e12 h => ?_)
  refine xq_call (j := 40) (as := [.inr (.inr (1, v0r, 3)), .inl v1]) (pc' := 82) (ls' := [(2, .inl t0), (0, .inr (.inr (0, v0r, 0))), (1, .inl v1)]) (st' := []) rfl rfl (f_X4_leaveLists_ok e12) ?_
  refine xq_blk 1 (pc' := 83) (ls' := [(2, .inl t0), (0, .inr (.inr (0, v0r, 0))), (1, .inl v1)]) (st' := [.inr (.inr (0, v0r, 0))]) (M' := q11) rfl ?_
  refine xq_bind h (fun q13 e14 h => ?_)
  refine xq_call (j := 51) (as := [.inr (.inr (0, v0r, 0))]) (pc' := 86) (ls' := [(2, .inl t0), (0, .inr (.inr (0, v0r, 0))), (1, .inl v1)]) (st' := []) rfl rfl (f_X5_moveUp_ok e14) ?_
  refine xq_blk 1 (pc' := 87) (ls' := [(2, .inl t0), (0, .inr (.inr (0, v0r, 0))), (1, .inl v1)]) (st' := [.inl t0]) (M' := q13) rfl ?_
  exact (hr _ (Option.some.inj h).symm) ▸ xq_ret rfl
def f_X5_giveUpAll_j34 (v0r : Nat) (v1 : Int32) (M : xM) : Option (Int32 × xM) := (f_X4_hasPermit v0r v1 M).bind (fun q7 => if q7 = (0 : Int32) then (f_X5_giveUpAll_j65 v0r v1 (0 : Int32) M) else (if xp_in v1 20 = true then (f_X5_giveUpAll_j65 v0r v1 (((M.1 v0r 5 v1.toNatClampNeg) - (M.1 v0r 0 4)) + (1 : Int32)) M) else none))
theorem f_X5_giveUpAll_j34_ok {X : List Int32} {v0r : Nat} {v1 : Int32} {M : xM} {p : Int32 × xM} {r : xR} (h : f_X5_giveUpAll_j34 v0r v1 M = some p) (hr : ∀ q, p = q → ((some (.inl q.1), q.2) : xR) = r) : xq X xe 54 34 [(0, .inr (.inr (0, v0r, 0))), (1, .inl v1)] [] M r := by
  unfold f_X5_giveUpAll_j34 at h
  refine xq_blk 3 (pc' := 39) (ls' := [(0, .inr (.inr (0, v0r, 0))), (1, .inl v1)]) (st' := [.inl v1, .inr (.inr (1, v0r, 3))]) (M' := M) rfl ?_
  refine xq_bind h (fun q7 e8 h => ?_)
  refine xq_call (j := 32) (as := [.inr (.inr (1, v0r, 3)), .inl v1]) (pc' := 42) (ls' := [(0, .inr (.inr (0, v0r, 0))), (1, .inl v1)]) (st' := []) rfl rfl (f_X4_hasPermit_ok e8) ?_
  refine xq_ite h (fun c16 h => ?_) (fun c16 h => ?_)
  · refine xq_core (pc' := 64) (ls' := [(0, .inr (.inr (0, v0r, 0))), (1, .inl v1)]) (st' := []) rfl (if_pos c16) ?_
    refine xq_blk 1 (pc' := 65) (ls' := [(0, .inr (.inr (0, v0r, 0))), (1, .inl v1)]) (st' := [.inl (0 : Int32)]) (M' := M) rfl ?_
    exact xq_sub (a := [(0, .inr (.inr (0, v0r, 0))), (1, .inl v1)]) ⟨rfl, rfl, trivial⟩ rfl (f_X5_giveUpAll_j65_ok h hr)
  · refine xq_core (pc' := 45) (ls' := [(0, .inr (.inr (0, v0r, 0))), (1, .inl v1)]) (st' := []) rfl (if_neg c16) ?_
    refine xq_blk 4 (pc' := 53) (ls' := [(0, .inr (.inr (0, v0r, 0))), (1, .inl v1)]) (st' := [.inl v1, .inr (.inr (3, v0r, 5))]) (M' := M) rfl ?_
    refine xq_guard h (fun g15 h => ?_)
    refine xq_prim (st' := [.inl (M.1 v0r 5 v1.toNatClampNeg)]) (M' := M) rfl rfl rfl (xg_ald0 rfl g15) ?_
    refine xq_blk 6 (pc' := 65) (ls' := [(0, .inr (.inr (0, v0r, 0))), (1, .inl v1)]) (st' := [.inl (((M.1 v0r 5 v1.toNatClampNeg) - (M.1 v0r 0 4)) + (1 : Int32))]) (M' := M) rfl ?_
    exact xq_sub (a := [(0, .inr (.inr (0, v0r, 0))), (1, .inl v1)]) ⟨rfl, rfl, trivial⟩ rfl (f_X5_giveUpAll_j65_ok h hr)
def f_X5_giveUpAll (a0r : Nat) (a1 : Int32) (M : xM) : Option (Int32 × xM) := (f_X6_isPerson a1 M).bind (fun q1 => if q1 = (0 : Int32) then (some (((-1 : Int32), M))) else ((f_X4_hasPermit a0r a1 M).bind (fun q3 => if q3 = (0 : Int32) then ((f_X4_waitsForSome a0r a1 M).bind (fun q5 => if q5 = (0 : Int32) then (some (((-5 : Int32), M))) else (f_X5_giveUpAll_j34 a0r a1 M))) else (f_X5_giveUpAll_j34 a0r a1 M))))
theorem f_X5_giveUpAll_run {X : List Int32} {a0r : Nat} {a1 : Int32} {M : xM} {p : Int32 × xM} {r : xR} (h : f_X5_giveUpAll a0r a1 M = some p) (hr : ∀ q, p = q → ((some (.inl q.1), q.2) : xR) = r) : xq X xe 54 0 [(0, .inr (.inr (0, a0r, 0))), (1, .inl a1)] [] M r := by
  unfold f_X5_giveUpAll at h
  refine xq_blk 1 (pc' := 1) (ls' := [(0, .inr (.inr (0, a0r, 0))), (1, .inl a1)]) (st' := [.inl a1]) (M' := M) rfl ?_
  refine xq_bind h (fun q1 e2 h => ?_)
  refine xq_call (j := 46) (as := [.inl a1]) (pc' := 4) (ls' := [(0, .inr (.inr (0, a0r, 0))), (1, .inl a1)]) (st' := []) rfl rfl (f_X6_isPerson_ok e2) ?_
  refine xq_ite h (fun c19 h => ?_) (fun c19 h => ?_)
  · refine xq_core (pc' := 7) (ls' := [(0, .inr (.inr (0, a0r, 0))), (1, .inl a1)]) (st' := []) rfl (if_pos c19) ?_
    refine xq_blk 1 (pc' := 8) (ls' := [(0, .inr (.inr (0, a0r, 0))), (1, .inl a1)]) (st' := [.inl (-1 : Int32)]) (M' := M) rfl ?_
    exact (hr _ (Option.some.inj h).symm) ▸ xq_ret rfl
  · refine xq_core (pc' := 9) (ls' := [(0, .inr (.inr (0, a0r, 0))), (1, .inl a1)]) (st' := []) rfl (if_neg c19) ?_
    refine xq_blk 3 (pc' := 14) (ls' := [(0, .inr (.inr (0, a0r, 0))), (1, .inl a1)]) (st' := [.inl a1, .inr (.inr (1, a0r, 3))]) (M' := M) rfl ?_
    refine xq_bind h (fun q3 e4 h => ?_)
    refine xq_call (j := 32) (as := [.inr (.inr (1, a0r, 3)), .inl a1]) (pc' := 17) (ls' := [(0, .inr (.inr (0, a0r, 0))), (1, .inl a1)]) (st' := []) rfl rfl (f_X4_hasPermit_ok e4) ?_
    refine xq_ite h (fun c18 h => ?_) (fun c18 h => ?_)
    · refine xq_core (pc' := 20) (ls' := [(0, .inr (.inr (0, a0r, 0))), (1, .inl a1)]) (st' := []) rfl (if_pos c18) ?_
      refine xq_blk 3 (pc' := 25) (ls' := [(0, .inr (.inr (0, a0r, 0))), (1, .inl a1)]) (st' := [.inl a1, .inr (.inr (1, a0r, 3))]) (M' := M) rfl ?_
      refine xq_bind h (fun q5 e6 h => ?_)
      refine xq_call (j := 35) (as := [.inr (.inr (1, a0r, 3)), .inl a1]) (pc' := 28) (ls' := [(0, .inr (.inr (0, a0r, 0))), (1, .inl a1)]) (st' := []) rfl rfl (f_X4_waitsForSome_ok e6) ?_
      refine xq_ite h (fun c17 h => ?_) (fun c17 h => ?_)
      · refine xq_core (pc' := 31) (ls' := [(0, .inr (.inr (0, a0r, 0))), (1, .inl a1)]) (st' := []) rfl (if_pos c17) ?_
        refine xq_blk 1 (pc' := 33) (ls' := [(0, .inr (.inr (0, a0r, 0))), (1, .inl a1)]) (st' := [.inl (-5 : Int32)]) (M' := M) rfl ?_
        exact (hr _ (Option.some.inj h).symm) ▸ xq_ret rfl
      · refine xq_core (pc' := 34) (ls' := [(0, .inr (.inr (0, a0r, 0))), (1, .inl a1)]) (st' := []) rfl (if_neg c17) ?_
        exact xq_sub (a := [(0, .inr (.inr (0, a0r, 0))), (1, .inl a1)]) ⟨rfl, rfl, trivial⟩ rfl (f_X5_giveUpAll_j34_ok h hr)
    · refine xq_core (pc' := 34) (ls' := [(0, .inr (.inr (0, a0r, 0))), (1, .inl a1)]) (st' := []) rfl (if_neg c18) ?_
      exact xq_sub (a := [(0, .inr (.inr (0, a0r, 0))), (1, .inl a1)]) ⟨rfl, rfl, trivial⟩ rfl (f_X5_giveUpAll_j34_ok h hr)
theorem f_X5_giveUpAll_ok {X : List Int32} {a0r : Nat} {a1 : Int32} {M : xM} {p : Int32 × xM} (h : f_X5_giveUpAll a0r a1 M = some p) : xq X xe 54 0 [(0, .inr (.inr (0, a0r, 0))), (1, .inl a1)] [] M ((some (.inl p.1), p.2) : xR) := f_X5_giveUpAll_run h (fun q e => by rw [e])
