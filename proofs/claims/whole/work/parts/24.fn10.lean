def f_X7_owner_l7 (k7v1 : Int32) (k7v2 : Int32) (k7v3 : Int32) (M : xM) (s7 : Int32 × Int32) : Option ((Int32 × Int32) ⊕ (Int32)) := if s7.2 < (20 : Int32) then ((f_X7_personAt k7v1 s7.2 M).bind (fun q1 => if xp_in (q1 + (2 : Int32)) 3540 = true then (if (M.1 6 1 (q1 + (2 : Int32)).toNatClampNeg) = k7v2 then (if xp_in (q1 + (3 : Int32)) 3540 = true then (if (M.1 6 1 (q1 + (3 : Int32)).toNatClampNeg) = k7v3 then (some (.inl (s7.2, s7.2 + (1 : Int32)))) else (some (.inl (s7.1, s7.2 + (1 : Int32))))) else none) else (some (.inl (s7.1, s7.2 + (1 : Int32))))) else none)) else (Option.map Sum.inr (some (s7.1)))
theorem f_X7_owner_l7_ok {X : List Int32} {k7v1 : Int32} {k7v2 : Int32} {k7v3 : Int32} {M : xM} {s7 : Int32 × Int32} {p : (Int32 × Int32) ⊕ (Int32)} {r : xR} (h : f_X7_owner_l7 k7v1 k7v2 k7v3 M s7 = some p) (h0 : ∀ s', p = .inl s' → xq X xe 137 7 [(0, .inr (.inr (14, 6, 0))), (1, .inl k7v1), (2, .inl k7v2), (3, .inl k7v3), (4, .inl s'.1), (5, .inl s'.2)] [] M r) (hr : ∀ q, p = .inr (q) → ((some (.inl q), M) : xR) = r) : xq X xe 137 7 [(0, .inr (.inr (14, 6, 0))), (1, .inl k7v1), (2, .inl k7v2), (3, .inl k7v3), (4, .inl s7.1), (5, .inl s7.2)] [] M r := by
  unfold f_X7_owner_l7 at h
  refine xq_blk 2 (pc' := 11) (ls' := [(0, .inr (.inr (14, 6, 0))), (1, .inl k7v1), (2, .inl k7v2), (3, .inl k7v3), (4, .inl s7.1), (5, .inl s7.2)]) (st' := [.inl (20 : Int32), .inl s7.2]) (M' := M) rfl ?_
  refine xq_ite h (fun c7 h => ?_) (fun c7 h => ?_)
  · refine xq_core (pc' := 14) (ls' := [(0, .inr (.inr (14, 6, 0))), (1, .inl k7v1), (2, .inl k7v2), (3, .inl k7v3), (4, .inl s7.1), (5, .inl s7.2)]) (st' := []) rfl (if_pos c7) ?_
    refine xq_blk 2 (pc' := 17) (ls' := [(0, .inr (.inr (14, 6, 0))), (1, .inl k7v1), (2, .inl k7v2), (3, .inl k7v3), (4, .inl s7.1), (5, .inl s7.2)]) (st' := [.inl s7.2, .inl k7v1]) (M' := M) rfl ?_
    refine xq_bind h (fun q1 e2 h => ?_)
    refine xq_call (j := 117) (as := [.inl k7v1, .inl s7.2]) (pc' := 20) (ls' := [(0, .inr (.inr (14, 6, 0))), (1, .inl k7v1), (2, .inl k7v2), (3, .inl k7v3), (4, .inl s7.1), (5, .inl s7.2)]) (st' := []) rfl rfl (f_X7_personAt_ok e2) ?_
    refine xq_blk 6 (pc' := 30) (ls' := [(6, .inl q1), (0, .inr (.inr (14, 6, 0))), (1, .inl k7v1), (2, .inl k7v2), (3, .inl k7v3), (4, .inl s7.1), (5, .inl s7.2)]) (st' := [.inl (q1 + (2 : Int32)), .inr (.inr (15, 6, 1))]) (M' := M) rfl ?_
    refine xq_guard h (fun g3 h => ?_)
    refine xq_prim (st' := [.inl (M.1 6 1 (q1 + (2 : Int32)).toNatClampNeg)]) (M' := M) rfl rfl rfl (xg_ald0 rfl g3) ?_
    refine xq_blk 1 (pc' := 32) (ls' := [(6, .inl q1), (0, .inr (.inr (14, 6, 0))), (1, .inl k7v1), (2, .inl k7v2), (3, .inl k7v3), (4, .inl s7.1), (5, .inl s7.2)]) (st' := [.inl k7v2, .inl (M.1 6 1 (q1 + (2 : Int32)).toNatClampNeg)]) (M' := M) rfl ?_
    refine xq_ite h (fun c6 h => ?_) (fun c6 h => ?_)
    · refine xq_core (pc' := 35) (ls' := [(6, .inl q1), (0, .inr (.inr (14, 6, 0))), (1, .inl k7v1), (2, .inl k7v2), (3, .inl k7v3), (4, .inl s7.1), (5, .inl s7.2)]) (st' := []) rfl (if_pos c6) ?_
      refine xq_blk 5 (pc' := 43) (ls' := [(6, .inl q1), (0, .inr (.inr (14, 6, 0))), (1, .inl k7v1), (2, .inl k7v2), (3, .inl k7v3), (4, .inl s7.1), (5, .inl s7.2)]) (st' := [.inl (q1 + (3 : Int32)), .inr (.inr (15, 6, 1))]) (M' := M) rfl ?_
      refine xq_guard h (fun g4 h => ?_)
      refine xq_prim (st' := [.inl (M.1 6 1 (q1 + (3 : Int32)).toNatClampNeg)]) (M' := M) rfl rfl rfl (xg_ald0 rfl g4) ?_
      refine xq_blk 1 (pc' := 45) (ls' := [(6, .inl q1), (0, .inr (.inr (14, 6, 0))), (1, .inl k7v1), (2, .inl k7v2), (3, .inl k7v3), (4, .inl s7.1), (5, .inl s7.2)]) (st' := [.inl k7v3, .inl (M.1 6 1 (q1 + (3 : Int32)).toNatClampNeg)]) (M' := M) rfl ?_
      refine xq_ite h (fun c5 h => ?_) (fun c5 h => ?_)
      · refine xq_core (pc' := 48) (ls' := [(6, .inl q1), (0, .inr (.inr (14, 6, 0))), (1, .inl k7v1), (2, .inl k7v2), (3, .inl k7v3), (4, .inl s7.1), (5, .inl s7.2)]) (st' := []) rfl (if_pos c5) ?_
        refine xq_blk 5 (pc' := 7) (ls' := [(5, .inl (s7.2 + (1 : Int32))), (4, .inl s7.2), (6, .inl q1), (0, .inr (.inr (14, 6, 0))), (1, .inl k7v1), (2, .inl k7v2), (3, .inl k7v3)]) (st' := []) (M' := M) rfl ?_
        exact xq_sub (a := [(0, .inr (.inr (14, 6, 0))), (1, .inl k7v1), (2, .inl k7v2), (3, .inl k7v3), (4, .inl ((s7.2, s7.2 + (1 : Int32)).1)), (5, .inl ((s7.2, s7.2 + (1 : Int32)).2))]) ⟨rfl, rfl, rfl, rfl, rfl, rfl, trivial⟩ rfl (h0 (s7.2, s7.2 + (1 : Int32)) (Option.some.inj h).symm)
      · refine xq_core (pc' := 53) (ls' := [(6, .inl q1), (0, .inr (.inr (14, 6, 0))), (1, .inl k7v1), (2, .inl k7v2), (3, .inl k7v3), (4, .inl s7.1), (5, .inl s7.2)]) (st' := []) rfl (if_neg c5) ?_
        refine xq_blk 4 (pc' := 7) (ls' := [(5, .inl (s7.2 + (1 : Int32))), (4, .inl s7.1), (6, .inl q1), (0, .inr (.inr (14, 6, 0))), (1, .inl k7v1), (2, .inl k7v2), (3, .inl k7v3)]) (st' := []) (M' := M) rfl ?_
        exact xq_sub (a := [(0, .inr (.inr (14, 6, 0))), (1, .inl k7v1), (2, .inl k7v2), (3, .inl k7v3), (4, .inl ((s7.1, s7.2 + (1 : Int32)).1)), (5, .inl ((s7.1, s7.2 + (1 : Int32)).2))]) ⟨rfl, rfl, rfl, rfl, rfl, rfl, trivial⟩ rfl (h0 (s7.1, s7.2 + (1 : Int32)) (Option.some.inj h).symm)
    · refine xq_core (pc' := 53) (ls' := [(6, .inl q1), (0, .inr (.inr (14, 6, 0))), (1, .inl k7v1), (2, .inl k7v2), (3, .inl k7v3), (4, .inl s7.1), (5, .inl s7.2)]) (st' := []) rfl (if_neg c6) ?_
      refine xq_blk 4 (pc' := 7) (ls' := [(5, .inl (s7.2 + (1 : Int32))), (4, .inl s7.1), (6, .inl q1), (0, .inr (.inr (14, 6, 0))), (1, .inl k7v1), (2, .inl k7v2), (3, .inl k7v3)]) (st' := []) (M' := M) rfl ?_
      exact xq_sub (a := [(0, .inr (.inr (14, 6, 0))), (1, .inl k7v1), (2, .inl k7v2), (3, .inl k7v3), (4, .inl ((s7.1, s7.2 + (1 : Int32)).1)), (5, .inl ((s7.1, s7.2 + (1 : Int32)).2))]) ⟨rfl, rfl, rfl, rfl, rfl, rfl, trivial⟩ rfl (h0 (s7.1, s7.2 + (1 : Int32)) (Option.some.inj h).symm)
  · refine xq_core (pc' := 63) (ls' := [(0, .inr (.inr (14, 6, 0))), (1, .inl k7v1), (2, .inl k7v2), (3, .inl k7v3), (4, .inl s7.1), (5, .inl s7.2)]) (st' := []) rfl (if_neg c7) ?_
    refine xq_map h (fun p h e => ?_)
    replace hr := fun q e' => hr q (e.symm.trans (congrArg Sum.inr e'))
    clear e
    refine xq_blk 1 (pc' := 65) (ls' := [(0, .inr (.inr (14, 6, 0))), (1, .inl k7v1), (2, .inl k7v2), (3, .inl k7v3), (4, .inl s7.1), (5, .inl s7.2)]) (st' := [.inl s7.1]) (M' := M) rfl ?_
    exact (hr _ (Option.some.inj h).symm) ▸ xq_ret rfl
def f_X7_owner (a1 : Int32) (a2 : Int32) (a3 : Int32) (M : xM) : Option (Int32) := xlp (f_X7_owner_l7 a1 a2 a3 M) 4000 ((-6 : Int32), (0 : Int32))
theorem f_X7_owner_run {X : List Int32} {a1 : Int32} {a2 : Int32} {a3 : Int32} {M : xM} {p : Int32} {r : xR} (h : f_X7_owner a1 a2 a3 M = some p) (hr : ∀ q, p = q → ((some (.inl q), M) : xR) = r) : xq X xe 137 0 [(0, .inr (.inr (14, 6, 0))), (1, .inl a1), (2, .inl a2), (3, .inl a3)] [] M r := by
  unfold f_X7_owner at h
  refine xq_blk 4 (pc' := 7) (ls' := [(5, .inl (0 : Int32)), (4, .inl (-6 : Int32)), (0, .inr (.inr (14, 6, 0))), (1, .inl a1), (2, .inl a2), (3, .inl a3)]) (st' := []) (M' := M) rfl ?_
  refine xq_sub (a := [(0, .inr (.inr (14, 6, 0))), (1, .inl a1), (2, .inl a2), (3, .inl a3), (4, .inl (-6 : Int32)), (5, .inl (0 : Int32))]) ⟨rfl, rfl, rfl, rfl, rfl, rfl, trivial⟩ rfl ?_
  exact xlp_ok (P := fun s7 => xq X xe 137 7 [(0, .inr (.inr (14, 6, 0))), (1, .inl a1), (2, .inl a2), (3, .inl a3), (4, .inl s7.1), (5, .inl s7.2)] [] M r) (fun s p' hb g0 g1 => f_X7_owner_l7_ok hb g0 (fun q e => hr q (g1 _ e).symm)) 4000 _ h
theorem f_X7_owner_ok {X : List Int32} {a1 : Int32} {a2 : Int32} {a3 : Int32} {M : xM} {p : Int32} (h : f_X7_owner a1 a2 a3 M = some p) : xq X xe 137 0 [(0, .inr (.inr (14, 6, 0))), (1, .inl a1), (2, .inl a2), (3, .inl a3)] [] M ((some (.inl p), M) : xR) := f_X7_owner_run h (fun q e => by rw [e])
def f_X7_freeRack_j49_7 (k7v1 : Int32) (k7v2 : Int32) (v3 : Int32) (v4 : Int32) (t0 : Int32) (M : xM) : Option ((Int32 × Int32) ⊕ (Int32)) := if t0 = (0 : Int32) then (some (.inl (v3, v4 + (-1 : Int32)))) else (some (.inl (v4, v4 + (-1 : Int32))))
theorem f_X7_freeRack_j49_7_ok {X : List Int32} {k7v1 : Int32} {k7v2 : Int32} {v3 : Int32} {v4 : Int32} {t0 : Int32} {M : xM} {p : (Int32 × Int32) ⊕ (Int32)} {r : xR} (h : f_X7_freeRack_j49_7 k7v1 k7v2 v3 v4 t0 M = some p) (h0 : ∀ s', p = .inl s' → xq X xe 140 7 [(0, .inr (.inr (14, 6, 0))), (1, .inl k7v1), (2, .inl k7v2), (3, .inl s'.1), (4, .inl s'.2)] [] M r) (hr : ∀ q, p = .inr (q) → ((some (.inl q), M) : xR) = r) : xq X xe 140 49 [(0, .inr (.inr (14, 6, 0))), (1, .inl k7v1), (2, .inl k7v2), (3, .inl v3), (4, .inl v4)] [.inl t0] M r := by
  unfold f_X7_freeRack_j49_7 at h
  refine xq_blk 2 (pc' := 53) (ls' := [(5, .inl t0), (0, .inr (.inr (14, 6, 0))), (1, .inl k7v1), (2, .inl k7v2), (3, .inl v3), (4, .inl v4)]) (st' := [.inl t0]) (M' := M) rfl ?_
  refine xq_ite h (fun c4 h => ?_) (fun c4 h => ?_)
  · refine xq_core (pc' := 61) (ls' := [(5, .inl t0), (0, .inr (.inr (14, 6, 0))), (1, .inl k7v1), (2, .inl k7v2), (3, .inl v3), (4, .inl v4)]) (st' := []) rfl (if_pos c4) ?_
    refine xq_blk 4 (pc' := 7) (ls' := [(4, .inl (v4 + (-1 : Int32))), (3, .inl v3), (5, .inl t0), (0, .inr (.inr (14, 6, 0))), (1, .inl k7v1), (2, .inl k7v2)]) (st' := []) (M' := M) rfl ?_
    exact xq_sub (a := [(0, .inr (.inr (14, 6, 0))), (1, .inl k7v1), (2, .inl k7v2), (3, .inl ((v3, v4 + (-1 : Int32)).1)), (4, .inl ((v3, v4 + (-1 : Int32)).2))]) ⟨rfl, rfl, rfl, rfl, rfl, trivial⟩ rfl (h0 (v3, v4 + (-1 : Int32)) (Option.some.inj h).symm)
  · refine xq_core (pc' := 56) (ls' := [(5, .inl t0), (0, .inr (.inr (14, 6, 0))), (1, .inl k7v1), (2, .inl k7v2), (3, .inl v3), (4, .inl v4)]) (st' := []) rfl (if_neg c4) ?_
    refine xq_blk 5 (pc' := 7) (ls' := [(4, .inl (v4 + (-1 : Int32))), (3, .inl v4), (5, .inl t0), (0, .inr (.inr (14, 6, 0))), (1, .inl k7v1), (2, .inl k7v2)]) (st' := []) (M' := M) rfl ?_
    exact xq_sub (a := [(0, .inr (.inr (14, 6, 0))), (1, .inl k7v1), (2, .inl k7v2), (3, .inl ((v4, v4 + (-1 : Int32)).1)), (4, .inl ((v4, v4 + (-1 : Int32)).2))]) ⟨rfl, rfl, rfl, rfl, rfl, trivial⟩ rfl (h0 (v4, v4 + (-1 : Int32)) (Option.some.inj h).symm)
def f_X7_freeRack_j48_7 (k7v1 : Int32) (k7v2 : Int32) (v3 : Int32) (v4 : Int32) (M : xM) : Option ((Int32 × Int32) ⊕ (Int32)) := f_X7_freeRack_j49_7 k7v1 k7v2 v3 v4 (0 : Int32) M
theorem f_X7_freeRack_j48_7_ok {X : List Int32} {k7v1 : Int32} {k7v2 : Int32} {v3 : Int32} {v4 : Int32} {M : xM} {p : (Int32 × Int32) ⊕ (Int32)} {r : xR} (h : f_X7_freeRack_j48_7 k7v1 k7v2 v3 v4 M = some p) (h0 : ∀ s', p = .inl s' → xq X xe 140 7 [(0, .inr (.inr (14, 6, 0))), (1, .inl k7v1), (2, .inl k7v2), (3, .inl s'.1), (4, .inl s'.2)] [] M r) (hr : ∀ q, p = .inr (q) → ((some (.inl q), M) : xR) = r) : xq X xe 140 48 [(0, .inr (.inr (14, 6, 0))), (1, .inl k7v1), (2, .inl k7v2), (3, .inl v3), (4, .inl v4)] [] M r := by
  unfold f_X7_freeRack_j48_7 at h
  refine xq_blk 1 (pc' := 49) (ls' := [(0, .inr (.inr (14, 6, 0))), (1, .inl k7v1), (2, .inl k7v2), (3, .inl v3), (4, .inl v4)]) (st' := [.inl (0 : Int32)]) (M' := M) rfl ?_
  exact xq_sub (a := [(0, .inr (.inr (14, 6, 0))), (1, .inl k7v1), (2, .inl k7v2), (3, .inl v3), (4, .inl v4)]) ⟨rfl, rfl, rfl, rfl, rfl, trivial⟩ rfl (f_X7_freeRack_j49_7_ok h h0 hr)
def f_X7_freeRack_l7 (k7v1 : Int32) (k7v2 : Int32) (M : xM) (s7 : Int32 × Int32) : Option ((Int32 × Int32) ⊕ (Int32)) := if s7.2 < (0 : Int32) then (Option.map Sum.inr (some (s7.1))) else (if xp_in ((k7v1 + (8 : Int32)) + k7v2) 3540 = true then (if (((M.1 6 1 ((k7v1 + (8 : Int32)) + k7v2).toNatClampNeg) >>> (s7.2 &&& (31 : Int32))) &&& (1 : Int32)) = (0 : Int32) then ((f_X7_owner k7v1 k7v2 s7.2 M).bind (fun q2 => if q2 = (-6 : Int32) then (f_X7_freeRack_j49_7 k7v1 k7v2 s7.1 s7.2 (1 : Int32) M) else (f_X7_freeRack_j48_7 k7v1 k7v2 s7.1 s7.2 M))) else (f_X7_freeRack_j48_7 k7v1 k7v2 s7.1 s7.2 M)) else none)
theorem f_X7_freeRack_l7_ok {X : List Int32} {k7v1 : Int32} {k7v2 : Int32} {M : xM} {s7 : Int32 × Int32} {p : (Int32 × Int32) ⊕ (Int32)} {r : xR} (h : f_X7_freeRack_l7 k7v1 k7v2 M s7 = some p) (h0 : ∀ s', p = .inl s' → xq X xe 140 7 [(0, .inr (.inr (14, 6, 0))), (1, .inl k7v1), (2, .inl k7v2), (3, .inl s'.1), (4, .inl s'.2)] [] M r) (hr : ∀ q, p = .inr (q) → ((some (.inl q), M) : xR) = r) : xq X xe 140 7 [(0, .inr (.inr (14, 6, 0))), (1, .inl k7v1), (2, .inl k7v2), (3, .inl s7.1), (4, .inl s7.2)] [] M r := by
  unfold f_X7_freeRack_l7 at h
  refine xq_blk 1 (pc' := 9) (ls' := [(0, .inr (.inr (14, 6, 0))), (1, .inl k7v1), (2, .inl k7v2), (3, .inl s7.1), (4, .inl s7.2)]) (st' := [.inl s7.2]) (M' := M) rfl ?_
  refine xq_ite h (fun c7 h => ?_) (fun c7 h => ?_)
  · refine xq_core (pc' := 69) (ls' := [(0, .inr (.inr (14, 6, 0))), (1, .inl k7v1), (2, .inl k7v2), (3, .inl s7.1), (4, .inl s7.2)]) (st' := []) rfl (if_pos c7) ?_
    refine xq_map h (fun p h e => ?_)
    replace hr := fun q e' => hr q (e.symm.trans (congrArg Sum.inr e'))
    clear e
    refine xq_blk 1 (pc' := 70) (ls' := [(0, .inr (.inr (14, 6, 0))), (1, .inl k7v1), (2, .inl k7v2), (3, .inl s7.1), (4, .inl s7.2)]) (st' := [.inl s7.1]) (M' := M) rfl ?_
    exact (hr _ (Option.some.inj h).symm) ▸ xq_ret rfl
  · refine xq_core (pc' := 12) (ls' := [(0, .inr (.inr (14, 6, 0))), (1, .inl k7v1), (2, .inl k7v2), (3, .inl s7.1), (4, .inl s7.2)]) (st' := []) rfl (if_neg c7) ?_
    refine xq_blk 7 (pc' := 22) (ls' := [(0, .inr (.inr (14, 6, 0))), (1, .inl k7v1), (2, .inl k7v2), (3, .inl s7.1), (4, .inl s7.2)]) (st' := [.inl ((k7v1 + (8 : Int32)) + k7v2), .inr (.inr (15, 6, 1))]) (M' := M) rfl ?_
    refine xq_guard h (fun g1 h => ?_)
    refine xq_prim (st' := [.inl (M.1 6 1 ((k7v1 + (8 : Int32)) + k7v2).toNatClampNeg)]) (M' := M) rfl rfl rfl (xg_ald0 rfl g1) ?_
    refine xq_blk 4 (pc' := 28) (ls' := [(0, .inr (.inr (14, 6, 0))), (1, .inl k7v1), (2, .inl k7v2), (3, .inl s7.1), (4, .inl s7.2)]) (st' := [.inl (((M.1 6 1 ((k7v1 + (8 : Int32)) + k7v2).toNatClampNeg) >>> (s7.2 &&& (31 : Int32))) &&& (1 : Int32))]) (M' := M) rfl ?_
    refine xq_ite h (fun c6 h => ?_) (fun c6 h => ?_)
    · refine xq_core (pc' := 31) (ls' := [(0, .inr (.inr (14, 6, 0))), (1, .inl k7v1), (2, .inl k7v2), (3, .inl s7.1), (4, .inl s7.2)]) (st' := []) rfl (if_pos c6) ?_
      refine xq_blk 4 (pc' := 36) (ls' := [(0, .inr (.inr (14, 6, 0))), (1, .inl k7v1), (2, .inl k7v2), (3, .inl s7.1), (4, .inl s7.2)]) (st' := [.inl s7.2, .inl k7v2, .inl k7v1, .inr (.inr (14, 6, 0))]) (M' := M) rfl ?_
      refine xq_bind h (fun q2 e3 h => ?_)
      refine xq_call (j := 137) (as := [.inr (.inr (14, 6, 0)), .inl k7v1, .inl k7v2, .inl s7.2]) (pc' := 39) (ls' := [(0, .inr (.inr (14, 6, 0))), (1, .inl k7v1), (2, .inl k7v2), (3, .inl s7.1), (4, .inl s7.2)]) (st' := []) rfl rfl (f_X7_owner_ok e3) ?_
      refine xq_blk 1 (pc' := 41) (ls' := [(0, .inr (.inr (14, 6, 0))), (1, .inl k7v1), (2, .inl k7v2), (3, .inl s7.1), (4, .inl s7.2)]) (st' := [.inl (-6 : Int32), .inl q2]) (M' := M) rfl ?_
      refine xq_ite h (fun c5 h => ?_) (fun c5 h => ?_)
      · refine xq_core (pc' := 44) (ls' := [(0, .inr (.inr (14, 6, 0))), (1, .inl k7v1), (2, .inl k7v2), (3, .inl s7.1), (4, .inl s7.2)]) (st' := []) rfl (if_pos c5) ?_
        refine xq_blk 2 (pc' := 49) (ls' := [(0, .inr (.inr (14, 6, 0))), (1, .inl k7v1), (2, .inl k7v2), (3, .inl s7.1), (4, .inl s7.2)]) (st' := [.inl (1 : Int32)]) (M' := M) rfl ?_
        exact xq_sub (a := [(0, .inr (.inr (14, 6, 0))), (1, .inl k7v1), (2, .inl k7v2), (3, .inl s7.1), (4, .inl s7.2)]) ⟨rfl, rfl, rfl, rfl, rfl, trivial⟩ rfl (f_X7_freeRack_j49_7_ok h h0 hr)
      · refine xq_core (pc' := 48) (ls' := [(0, .inr (.inr (14, 6, 0))), (1, .inl k7v1), (2, .inl k7v2), (3, .inl s7.1), (4, .inl s7.2)]) (st' := []) rfl (if_neg c5) ?_
        exact xq_sub (a := [(0, .inr (.inr (14, 6, 0))), (1, .inl k7v1), (2, .inl k7v2), (3, .inl s7.1), (4, .inl s7.2)]) ⟨rfl, rfl, rfl, rfl, rfl, trivial⟩ rfl (f_X7_freeRack_j48_7_ok h h0 hr)
    · refine xq_core (pc' := 48) (ls' := [(0, .inr (.inr (14, 6, 0))), (1, .inl k7v1), (2, .inl k7v2), (3, .inl s7.1), (4, .inl s7.2)]) (st' := []) rfl (if_neg c6) ?_
      exact xq_sub (a := [(0, .inr (.inr (14, 6, 0))), (1, .inl k7v1), (2, .inl k7v2), (3, .inl s7.1), (4, .inl s7.2)]) ⟨rfl, rfl, rfl, rfl, rfl, trivial⟩ rfl (f_X7_freeRack_j48_7_ok h h0 hr)
def f_X7_freeRack (a1 : Int32) (a2 : Int32) (M : xM) : Option (Int32) := xlp (f_X7_freeRack_l7 a1 a2 M) 4000 ((-6 : Int32), (7 : Int32))
theorem f_X7_freeRack_run {X : List Int32} {a1 : Int32} {a2 : Int32} {M : xM} {p : Int32} {r : xR} (h : f_X7_freeRack a1 a2 M = some p) (hr : ∀ q, p = q → ((some (.inl q), M) : xR) = r) : xq X xe 140 0 [(0, .inr (.inr (14, 6, 0))), (1, .inl a1), (2, .inl a2)] [] M r := by
  unfold f_X7_freeRack at h
  refine xq_blk 4 (pc' := 7) (ls' := [(4, .inl (7 : Int32)), (3, .inl (-6 : Int32)), (0, .inr (.inr (14, 6, 0))), (1, .inl a1), (2, .inl a2)]) (st' := []) (M' := M) rfl ?_
  refine xq_sub (a := [(0, .inr (.inr (14, 6, 0))), (1, .inl a1), (2, .inl a2), (3, .inl (-6 : Int32)), (4, .inl (7 : Int32))]) ⟨rfl, rfl, rfl, rfl, rfl, trivial⟩ rfl ?_
  exact xlp_ok (P := fun s7 => xq X xe 140 7 [(0, .inr (.inr (14, 6, 0))), (1, .inl a1), (2, .inl a2), (3, .inl s7.1), (4, .inl s7.2)] [] M r) (fun s p' hb g0 g1 => f_X7_freeRack_l7_ok hb g0 (fun q e => hr q (g1 _ e).symm)) 4000 _ h
theorem f_X7_freeRack_ok {X : List Int32} {a1 : Int32} {a2 : Int32} {M : xM} {p : Int32} (h : f_X7_freeRack a1 a2 M = some p) : xq X xe 140 0 [(0, .inr (.inr (14, 6, 0))), (1, .inl a1), (2, .inl a2)] [] M ((some (.inl p), M) : xR) := f_X7_freeRack_run h (fun q e => by rw [e])
def f_X7_parkError (a1 : Int32) (M : xM) : Option (Int32) := (f_X7_isPerson a1 M).bind (fun q1 => if q1 = (0 : Int32) then (some ((-1 : Int32))) else ((f_X7_hasPermit a1 M).bind (fun q3 => if q3 = (0 : Int32) then (some ((-5 : Int32))) else ((f_X7_isInRack (0 : Int32) a1 M).bind (fun q5 => if q5 = (0 : Int32) then ((f_X7_personAt (0 : Int32) a1 M).bind (fun q7 => if xp_in (q7 + (6 : Int32)) 3540 = true then (if (M.1 6 1 (q7 + (6 : Int32)).toNatClampNeg) = (-6 : Int32) then ((f_X7_personAt (0 : Int32) a1 M).bind (fun q10 => if xp_in q10 3540 = true then ((f_X7_freeRack (0 : Int32) (M.1 6 1 q10.toNatClampNeg) M).bind (fun q13 => if q13 = (-6 : Int32) then (some ((-4 : Int32))) else (some ((0 : Int32))))) else none)) else (some ((-5 : Int32)))) else none)) else (some ((-5 : Int32))))))))
theorem f_X7_parkError_run {X : List Int32} {a1 : Int32} {M : xM} {p : Int32} {r : xR} (h : f_X7_parkError a1 M = some p) (hr : ∀ q, p = q → ((some (.inl q), M) : xR) = r) : xq X xe 146 0 [(0, .inr (.inr (14, 6, 0))), (1, .inl a1)] [] M r := by
  unfold f_X7_parkError at h
  refine xq_blk 1 (pc' := 1) (ls' := [(0, .inr (.inr (14, 6, 0))), (1, .inl a1)]) (st' := [.inl a1]) (M' := M) rfl ?_
  refine xq_bind h (fun q1 e2 h => ?_)
  refine xq_call (j := 141) (as := [.inl a1]) (pc' := 4) (ls' := [(0, .inr (.inr (14, 6, 0))), (1, .inl a1)]) (st' := []) rfl rfl (f_X7_isPerson_ok e2) ?_
  refine xq_ite h (fun c19 h => ?_) (fun c19 h => ?_)
  · refine xq_core (pc' := 7) (ls' := [(0, .inr (.inr (14, 6, 0))), (1, .inl a1)]) (st' := []) rfl (if_pos c19) ?_
    refine xq_blk 1 (pc' := 8) (ls' := [(0, .inr (.inr (14, 6, 0))), (1, .inl a1)]) (st' := [.inl (-1 : Int32)]) (M' := M) rfl ?_
    exact (hr _ (Option.some.inj h).symm) ▸ xq_ret rfl
  · refine xq_core (pc' := 9) (ls' := [(0, .inr (.inr (14, 6, 0))), (1, .inl a1)]) (st' := []) rfl (if_neg c19) ?_
    refine xq_blk 2 (pc' := 11) (ls' := [(0, .inr (.inr (14, 6, 0))), (1, .inl a1)]) (st' := [.inl a1, .inr (.inr (14, 6, 0))]) (M' := M) rfl ?_
    refine xq_bind h (fun q3 e4 h => ?_)
    refine xq_call (j := 144) (as := [.inr (.inr (14, 6, 0)), .inl a1]) (pc' := 14) (ls' := [(0, .inr (.inr (14, 6, 0))), (1, .inl a1)]) (st' := []) rfl rfl (f_X7_hasPermit_ok e4) ?_
    refine xq_ite h (fun c18 h => ?_) (fun c18 h => ?_)
    · refine xq_core (pc' := 44) (ls' := [(0, .inr (.inr (14, 6, 0))), (1, .inl a1)]) (st' := []) rfl (if_pos c18) ?_
      refine xq_blk 1 (pc' := 46) (ls' := [(0, .inr (.inr (14, 6, 0))), (1, .inl a1)]) (st' := [.inl (-5 : Int32)]) (M' := M) rfl ?_
      exact (hr _ (Option.some.inj h).symm) ▸ xq_ret rfl
    · refine xq_core (pc' := 17) (ls' := [(0, .inr (.inr (14, 6, 0))), (1, .inl a1)]) (st' := []) rfl (if_neg c18) ?_
      refine xq_blk 3 (pc' := 20) (ls' := [(0, .inr (.inr (14, 6, 0))), (1, .inl a1)]) (st' := [.inl a1, .inl (0 : Int32), .inr (.inr (14, 6, 0))]) (M' := M) rfl ?_
      refine xq_bind h (fun q5 e6 h => ?_)
      refine xq_call (j := 136) (as := [.inr (.inr (14, 6, 0)), .inl (0 : Int32), .inl a1]) (pc' := 23) (ls' := [(0, .inr (.inr (14, 6, 0))), (1, .inl a1)]) (st' := []) rfl rfl (f_X7_isInRack_ok e6) ?_
      refine xq_ite h (fun c17 h => ?_) (fun c17 h => ?_)
      · refine xq_core (pc' := 26) (ls' := [(0, .inr (.inr (14, 6, 0))), (1, .inl a1)]) (st' := []) rfl (if_pos c17) ?_
        refine xq_blk 4 (pc' := 32) (ls' := [(0, .inr (.inr (14, 6, 0))), (1, .inl a1)]) (st' := [.inl a1, .inl (0 : Int32), .inr (.inr (15, 6, 1))]) (M' := M) rfl ?_
        refine xq_bind h (fun q7 e8 h => ?_)
        refine xq_call (j := 117) (as := [.inl (0 : Int32), .inl a1]) (pc' := 35) (ls' := [(0, .inr (.inr (14, 6, 0))), (1, .inl a1)]) (st' := [.inr (.inr (15, 6, 1))]) rfl rfl (f_X7_personAt_ok e8) ?_
        refine xq_blk 2 (pc' := 38) (ls' := [(0, .inr (.inr (14, 6, 0))), (1, .inl a1)]) (st' := [.inl (q7 + (6 : Int32)), .inr (.inr (15, 6, 1))]) (M' := M) rfl ?_
        refine xq_guard h (fun g9 h => ?_)
        refine xq_prim (st' := [.inl (M.1 6 1 (q7 + (6 : Int32)).toNatClampNeg)]) (M' := M) rfl rfl rfl (xg_ald0 rfl g9) ?_
        refine xq_blk 1 (pc' := 41) (ls' := [(0, .inr (.inr (14, 6, 0))), (1, .inl a1)]) (st' := [.inl (-6 : Int32), .inl (M.1 6 1 (q7 + (6 : Int32)).toNatClampNeg)]) (M' := M) rfl ?_
        refine xq_ite h (fun c16 h => ?_) (fun c16 h => ?_)
        · refine xq_core (pc' := 47) (ls' := [(0, .inr (.inr (14, 6, 0))), (1, .inl a1)]) (st' := []) rfl (if_pos c16) ?_
          refine xq_blk 6 (pc' := 55) (ls' := [(0, .inr (.inr (14, 6, 0))), (1, .inl a1)]) (st' := [.inl a1, .inl (0 : Int32), .inr (.inr (15, 6, 1)), .inl (0 : Int32), .inr (.inr (14, 6, 0))]) (M' := M) rfl ?_
          refine xq_bind h (fun q10 e11 h => ?_)
          refine xq_call (j := 117) (as := [.inl (0 : Int32), .inl a1]) (pc' := 58) (ls' := [(0, .inr (.inr (14, 6, 0))), (1, .inl a1)]) (st' := [.inr (.inr (15, 6, 1)), .inl (0 : Int32), .inr (.inr (14, 6, 0))]) rfl rfl (f_X7_personAt_ok e11) ?_
          refine xq_guard h (fun g12 h => ?_)
          refine xq_prim (st' := [.inl (M.1 6 1 q10.toNatClampNeg), .inl (0 : Int32), .inr (.inr (14, 6, 0))]) (M' := M) rfl rfl rfl (xg_ald0 rfl g12) ?_
          refine xq_bind h (fun q13 e14 h => ?_)
          refine xq_call (j := 140) (as := [.inr (.inr (14, 6, 0)), .inl (0 : Int32), .inl (M.1 6 1 q10.toNatClampNeg)]) (pc' := 62) (ls' := [(0, .inr (.inr (14, 6, 0))), (1, .inl a1)]) (st' := []) rfl rfl (f_X7_freeRack_ok e14) ?_
          refine xq_blk 1 (pc' := 64) (ls' := [(0, .inr (.inr (14, 6, 0))), (1, .inl a1)]) (st' := [.inl (-6 : Int32), .inl q13]) (M' := M) rfl ?_
          refine xq_ite h (fun c15 h => ?_) (fun c15 h => ?_)
          · refine xq_core (pc' := 67) (ls' := [(0, .inr (.inr (14, 6, 0))), (1, .inl a1)]) (st' := []) rfl (if_pos c15) ?_
            refine xq_blk 2 (pc' := 73) (ls' := [(0, .inr (.inr (14, 6, 0))), (1, .inl a1)]) (st' := [.inl (-4 : Int32)]) (M' := M) rfl ?_
            exact (hr _ (Option.some.inj h).symm) ▸ xq_ret rfl
          · refine xq_core (pc' := 72) (ls' := [(0, .inr (.inr (14, 6, 0))), (1, .inl a1)]) (st' := []) rfl (if_neg c15) ?_
            refine xq_blk 1 (pc' := 73) (ls' := [(0, .inr (.inr (14, 6, 0))), (1, .inl a1)]) (st' := [.inl (0 : Int32)]) (M' := M) rfl ?_
            exact (hr _ (Option.some.inj h).symm) ▸ xq_ret rfl
        · refine xq_core (pc' := 44) (ls' := [(0, .inr (.inr (14, 6, 0))), (1, .inl a1)]) (st' := []) rfl (if_neg c16) ?_
          refine xq_blk 1 (pc' := 46) (ls' := [(0, .inr (.inr (14, 6, 0))), (1, .inl a1)]) (st' := [.inl (-5 : Int32)]) (M' := M) rfl ?_
          exact (hr _ (Option.some.inj h).symm) ▸ xq_ret rfl
      · refine xq_core (pc' := 44) (ls' := [(0, .inr (.inr (14, 6, 0))), (1, .inl a1)]) (st' := []) rfl (if_neg c17) ?_
        refine xq_blk 1 (pc' := 46) (ls' := [(0, .inr (.inr (14, 6, 0))), (1, .inl a1)]) (st' := [.inl (-5 : Int32)]) (M' := M) rfl ?_
        exact (hr _ (Option.some.inj h).symm) ▸ xq_ret rfl
theorem f_X7_parkError_ok {X : List Int32} {a1 : Int32} {M : xM} {p : Int32} (h : f_X7_parkError a1 M = some p) : xq X xe 146 0 [(0, .inr (.inr (14, 6, 0))), (1, .inl a1)] [] M ((some (.inl p), M) : xR) := f_X7_parkError_run h (fun q e => by rw [e])
def f_X7_parks (a1 : Int32) (M : xM) : Option (Int32 × xM) := (f_X7_personAt (0 : Int32) a1 M).bind (fun q1 => if xp_in q1 3540 = true then ((f_X7_freeRack (0 : Int32) (M.1 6 1 q1.toNatClampNeg) M).bind (fun q4 => if xp_in q1 3540 = true then (if xp_in (q1 + (2 : Int32)) 3540 = true then (if xp_in (q1 + (3 : Int32)) 3540 = true then (if xp_in (q1 + (4 : Int32)) 3540 = true then (if xp_in (q1 + (5 : Int32)) 3540 = true then (some ((q4, xd_up (xd_up (xd_up (xd_up M 6 1 (q1 + (2 : Int32)).toNatClampNeg (M.1 6 1 q1.toNatClampNeg)) 6 1 (q1 + (3 : Int32)).toNatClampNeg q4) 6 1 (q1 + (4 : Int32)).toNatClampNeg ((xd_up (xd_up M 6 1 (q1 + (2 : Int32)).toNatClampNeg (M.1 6 1 q1.toNatClampNeg)) 6 1 (q1 + (3 : Int32)).toNatClampNeg q4).1 6 1 4)) 6 1 (q1 + (5 : Int32)).toNatClampNeg (-6 : Int32)))) else none) else none) else none) else none) else none)) else none)
theorem f_X7_parks_run {X : List Int32} {a1 : Int32} {M : xM} {p : Int32 × xM} {r : xR} (h : f_X7_parks a1 M = some p) (hr : ∀ q, p = q → ((some (.inl q.1), q.2) : xR) = r) : xq X xe 150 0 [(0, .inr (.inr (14, 6, 0))), (1, .inl a1)] [] M r := by
  unfold f_X7_parks at h
  refine xq_blk 2 (pc' := 2) (ls' := [(0, .inr (.inr (14, 6, 0))), (1, .inl a1)]) (st' := [.inl a1, .inl (0 : Int32)]) (M' := M) rfl ?_
  refine xq_bind h (fun q1 e2 h => ?_)
  refine xq_call (j := 117) (as := [.inl (0 : Int32), .inl a1]) (pc' := 5) (ls' := [(0, .inr (.inr (14, 6, 0))), (1, .inl a1)]) (st' := []) rfl rfl (f_X7_personAt_ok e2) ?_
  refine xq_blk 6 (pc' := 13) (ls' := [(2, .inl q1), (0, .inr (.inr (14, 6, 0))), (1, .inl a1)]) (st' := [.inl q1, .inr (.inr (15, 6, 1)), .inl (0 : Int32), .inr (.inr (14, 6, 0))]) (M' := M) rfl ?_
  refine xq_guard h (fun g3 h => ?_)
  refine xq_prim (st' := [.inl (M.1 6 1 q1.toNatClampNeg), .inl (0 : Int32), .inr (.inr (14, 6, 0))]) (M' := M) rfl rfl rfl (xg_ald0 rfl g3) ?_
  refine xq_bind h (fun q4 e5 h => ?_)
  refine xq_call (j := 140) (as := [.inr (.inr (14, 6, 0)), .inl (0 : Int32), .inl (M.1 6 1 q1.toNatClampNeg)]) (pc' := 17) (ls' := [(2, .inl q1), (0, .inr (.inr (14, 6, 0))), (1, .inl a1)]) (st' := []) rfl rfl (f_X7_freeRack_ok e5) ?_
  refine xq_blk 9 (pc' := 30) (ls' := [(3, .inl q4), (2, .inl q1), (0, .inr (.inr (14, 6, 0))), (1, .inl a1)]) (st' := [.inl q1, .inr (.inr (15, 6, 1)), .inl (q1 + (2 : Int32)), .inr (.inr (15, 6, 1))]) (M' := M) rfl ?_
  refine xq_guard h (fun g6 h => ?_)
  refine xq_prim (st' := [.inl (M.1 6 1 q1.toNatClampNeg), .inl (q1 + (2 : Int32)), .inr (.inr (15, 6, 1))]) (M' := M) rfl rfl rfl (xg_ald0 rfl g6) ?_
  refine xq_guard h (fun g7 h => ?_)
  refine xq_prim (st' := []) (M' := xd_up M 6 1 (q1 + (2 : Int32)).toNatClampNeg (M.1 6 1 q1.toNatClampNeg)) rfl rfl rfl (xg_ast0 rfl g7) ?_
  refine xq_blk 6 (pc' := 40) (ls' := [(3, .inl q4), (2, .inl q1), (0, .inr (.inr (14, 6, 0))), (1, .inl a1)]) (st' := [.inl q4, .inl (q1 + (3 : Int32)), .inr (.inr (15, 6, 1))]) (M' := xd_up M 6 1 (q1 + (2 : Int32)).toNatClampNeg (M.1 6 1 q1.toNatClampNeg)) rfl ?_
  refine xq_guard h (fun g8 h => ?_)
  refine xq_prim (st' := []) (M' := xd_up (xd_up M 6 1 (q1 + (2 : Int32)).toNatClampNeg (M.1 6 1 q1.toNatClampNeg)) 6 1 (q1 + (3 : Int32)).toNatClampNeg q4) rfl rfl rfl (xg_ast0 rfl g8) ?_
  refine xq_blk 8 (pc' := 53) (ls' := [(3, .inl q4), (2, .inl q1), (0, .inr (.inr (14, 6, 0))), (1, .inl a1)]) (st' := [.inl (4 : Int32), .inr (.inr (15, 6, 1)), .inl (q1 + (4 : Int32)), .inr (.inr (15, 6, 1))]) (M' := xd_up (xd_up M 6 1 (q1 + (2 : Int32)).toNatClampNeg (M.1 6 1 q1.toNatClampNeg)) 6 1 (q1 + (3 : Int32)).toNatClampNeg q4) rfl ?_
  refine xq_prim (st' := [.inl ((xd_up (xd_up M 6 1 (q1 + (2 : Int32)).toNatClampNeg (M.1 6 1 q1.toNatClampNeg)) 6 1 (q1 + (3 : Int32)).toNatClampNeg q4).1 6 1 4), .inl (q1 + (4 : Int32)), .inr (.inr (15, 6, 1))]) (M' := xd_up (xd_up M 6 1 (q1 + (2 : Int32)).toNatClampNeg (M.1 6 1 q1.toNatClampNeg)) 6 1 (q1 + (3 : Int32)).toNatClampNeg q4) rfl rfl rfl (xg_ald0 rfl rfl) ?_
  refine xq_guard h (fun g9 h => ?_)
  refine xq_prim (st' := []) (M' := xd_up (xd_up (xd_up M 6 1 (q1 + (2 : Int32)).toNatClampNeg (M.1 6 1 q1.toNatClampNeg)) 6 1 (q1 + (3 : Int32)).toNatClampNeg q4) 6 1 (q1 + (4 : Int32)).toNatClampNeg ((xd_up (xd_up M 6 1 (q1 + (2 : Int32)).toNatClampNeg (M.1 6 1 q1.toNatClampNeg)) 6 1 (q1 + (3 : Int32)).toNatClampNeg q4).1 6 1 4)) rfl rfl rfl (xg_ast0 rfl g9) ?_
  refine xq_blk 6 (pc' := 64) (ls' := [(3, .inl q4), (2, .inl q1), (0, .inr (.inr (14, 6, 0))), (1, .inl a1)]) (st' := [.inl (-6 : Int32), .inl (q1 + (5 : Int32)), .inr (.inr (15, 6, 1))]) (M' := xd_up (xd_up (xd_up M 6 1 (q1 + (2 : Int32)).toNatClampNeg (M.1 6 1 q1.toNatClampNeg)) 6 1 (q1 + (3 : Int32)).toNatClampNeg q4) 6 1 (q1 + (4 : Int32)).toNatClampNeg ((xd_up (xd_up M 6 1 (q1 + (2 : Int32)).toNatClampNeg (M.1 6 1 q1.toNatClampNeg)) 6 1 (q1 + (3 : Int32)).toNatClampNeg q4).1 6 1 4)) rfl ?_
  refine xq_guard h (fun g10 h => ?_)
  refine xq_prim (st' := []) (M' := xd_up (xd_up (xd_up (xd_up M 6 1 (q1 + (2 : Int32)).toNatClampNeg (M.1 6 1 q1.toNatClampNeg)) 6 1 (q1 + (3 : Int32)).toNatClampNeg q4) 6 1 (q1 + (4 : Int32)).toNatClampNeg ((xd_up (xd_up M 6 1 (q1 + (2 : Int32)).toNatClampNeg (M.1 6 1 q1.toNatClampNeg)) 6 1 (q1 + (3 : Int32)).toNatClampNeg q4).1 6 1 4)) 6 1 (q1 + (5 : Int32)).toNatClampNeg (-6 : Int32)) rfl rfl rfl (xg_ast0 rfl g10) ?_
  refine xq_blk 1 (pc' := 66) (ls' := [(3, .inl q4), (2, .inl q1), (0, .inr (.inr (14, 6, 0))), (1, .inl a1)]) (st' := [.inl q4]) (M' := xd_up (xd_up (xd_up (xd_up M 6 1 (q1 + (2 : Int32)).toNatClampNeg (M.1 6 1 q1.toNatClampNeg)) 6 1 (q1 + (3 : Int32)).toNatClampNeg q4) 6 1 (q1 + (4 : Int32)).toNatClampNeg ((xd_up (xd_up M 6 1 (q1 + (2 : Int32)).toNatClampNeg (M.1 6 1 q1.toNatClampNeg)) 6 1 (q1 + (3 : Int32)).toNatClampNeg q4).1 6 1 4)) 6 1 (q1 + (5 : Int32)).toNatClampNeg (-6 : Int32)) rfl ?_
  exact (hr _ (Option.some.inj h).symm) ▸ xq_ret rfl
theorem f_X7_parks_ok {X : List Int32} {a1 : Int32} {M : xM} {p : Int32 × xM} (h : f_X7_parks a1 M = some p) : xq X xe 150 0 [(0, .inr (.inr (14, 6, 0))), (1, .inl a1)] [] M ((some (.inl p.1), p.2) : xR) := f_X7_parks_run h (fun q e => by rw [e])
def f_X7_park (a1 : Int32) (M : xM) : Option (Int32 × xM) := (f_X7_parkError a1 M).bind (fun q1 => if q1 = (0 : Int32) then ((f_X7_changes M).bind (fun q3 => (f_X7_parks a1 q3).bind (fun q5 => some ((q5.1, q5.2))))) else (some ((q1, M))))
theorem f_X7_park_run {X : List Int32} {a1 : Int32} {M : xM} {p : Int32 × xM} {r : xR} (h : f_X7_park a1 M = some p) (hr : ∀ q, p = q → ((some (.inl q.1), q.2) : xR) = r) : xq X xe 159 0 [(0, .inr (.inr (14, 6, 0))), (1, .inl a1)] [] M r := by
  unfold f_X7_park at h
  refine xq_blk 2 (pc' := 2) (ls' := [(0, .inr (.inr (14, 6, 0))), (1, .inl a1)]) (st' := [.inl a1, .inr (.inr (14, 6, 0))]) (M' := M) rfl ?_
  refine xq_bind h (fun q1 e2 h => ?_)
  refine xq_call (j := 146) (as := [.inr (.inr (14, 6, 0)), .inl a1]) (pc' := 5) (ls' := [(0, .inr (.inr (14, 6, 0))), (1, .inl a1)]) (st' := []) rfl rfl (f_X7_parkError_ok e2) ?_
  refine xq_blk 2 (pc' := 7) (ls' := [(2, .inl q1), (0, .inr (.inr (14, 6, 0))), (1, .inl a1)]) (st' := [.inl q1]) (M' := M) rfl ?_
  refine xq_ite h (fun c7 h => ?_) (fun c7 h => ?_)
  · refine xq_core (pc' := 12) (ls' := [(2, .inl q1), (0, .inr (.inr (14, 6, 0))), (1, .inl a1)]) (st' := []) rfl (if_pos c7) ?_
    refine xq_blk 1 (pc' := 13) (ls' := [(2, .inl q1), (0, .inr (.inr (14, 6, 0))), (1, .inl a1)]) (st' := [.inr (.inr (14, 6, 0))]) (M' := M) rfl ?_
    refine xq_bind h (fun q3 e4 h => ?_)
    refine xq_call (j := 122) (as := [.inr (.inr (14, 6, 0))]) (pc' := 16) (ls' := [(2, .inl q1), (0, .inr (.inr (14, 6, 0))), (1, .inl a1)]) (st' := []) rfl rfl (f_X7_changes_ok e4) ?_
    refine xq_blk 2 (pc' := 18) (ls' := [(2, .inl q1), (0, .inr (.inr (14, 6, 0))), (1, .inl a1)]) (st' := [.inl a1, .inr (.inr (14, 6, 0))]) (M' := q3) rfl ?_
    refine xq_bind h (fun q5 e6 h => ?_)
    refine xq_call (j := 150) (as := [.inr (.inr (14, 6, 0)), .inl a1]) (pc' := 21) (ls' := [(2, .inl q1), (0, .inr (.inr (14, 6, 0))), (1, .inl a1)]) (st' := []) rfl rfl (f_X7_parks_ok e6) ?_
    exact (hr _ (Option.some.inj h).symm) ▸ xq_ret rfl
  · refine xq_core (pc' := 10) (ls' := [(2, .inl q1), (0, .inr (.inr (14, 6, 0))), (1, .inl a1)]) (st' := []) rfl (if_neg c7) ?_
    refine xq_blk 1 (pc' := 11) (ls' := [(2, .inl q1), (0, .inr (.inr (14, 6, 0))), (1, .inl a1)]) (st' := [.inl q1]) (M' := M) rfl ?_
    exact (hr _ (Option.some.inj h).symm) ▸ xq_ret rfl
theorem f_X7_park_ok {X : List Int32} {a1 : Int32} {M : xM} {p : Int32 × xM} (h : f_X7_park a1 M = some p) : xq X xe 159 0 [(0, .inr (.inr (14, 6, 0))), (1, .inl a1)] [] M ((some (.inl p.1), p.2) : xR) := f_X7_park_run h (fun q e => by rw [e])
def f_X7_rackError (a1 : Int32) (M : xM) : Option (Int32) := (f_X7_isPerson a1 M).bind (fun q1 => if q1 = (0 : Int32) then (some ((-1 : Int32))) else ((f_X7_isInRack (0 : Int32) a1 M).bind (fun q3 => if q3 = (0 : Int32) then (some ((-5 : Int32))) else (some ((0 : Int32))))))
theorem f_X7_rackError_run {X : List Int32} {a1 : Int32} {M : xM} {p : Int32} {r : xR} (h : f_X7_rackError a1 M = some p) (hr : ∀ q, p = q → ((some (.inl q), M) : xR) = r) : xq X xe 147 0 [(0, .inr (.inr (14, 6, 0))), (1, .inl a1)] [] M r := by
  unfold f_X7_rackError at h
  refine xq_blk 1 (pc' := 1) (ls' := [(0, .inr (.inr (14, 6, 0))), (1, .inl a1)]) (st' := [.inl a1]) (M' := M) rfl ?_
  refine xq_bind h (fun q1 e2 h => ?_)
  refine xq_call (j := 141) (as := [.inl a1]) (pc' := 4) (ls' := [(0, .inr (.inr (14, 6, 0))), (1, .inl a1)]) (st' := []) rfl rfl (f_X7_isPerson_ok e2) ?_
  refine xq_ite h (fun c6 h => ?_) (fun c6 h => ?_)
  · refine xq_core (pc' := 7) (ls' := [(0, .inr (.inr (14, 6, 0))), (1, .inl a1)]) (st' := []) rfl (if_pos c6) ?_
    refine xq_blk 2 (pc' := 26) (ls' := [(0, .inr (.inr (14, 6, 0))), (1, .inl a1)]) (st' := [.inl (-1 : Int32)]) (M' := M) rfl ?_
    exact (hr _ (Option.some.inj h).symm) ▸ xq_ret rfl
  · refine xq_core (pc' := 11) (ls' := [(0, .inr (.inr (14, 6, 0))), (1, .inl a1)]) (st' := []) rfl (if_neg c6) ?_
    refine xq_blk 3 (pc' := 14) (ls' := [(0, .inr (.inr (14, 6, 0))), (1, .inl a1)]) (st' := [.inl a1, .inl (0 : Int32), .inr (.inr (14, 6, 0))]) (M' := M) rfl ?_
    refine xq_bind h (fun q3 e4 h => ?_)
    refine xq_call (j := 136) (as := [.inr (.inr (14, 6, 0)), .inl (0 : Int32), .inl a1]) (pc' := 17) (ls' := [(0, .inr (.inr (14, 6, 0))), (1, .inl a1)]) (st' := []) rfl rfl (f_X7_isInRack_ok e4) ?_
    refine xq_ite h (fun c5 h => ?_) (fun c5 h => ?_)
    · refine xq_core (pc' := 24) (ls' := [(0, .inr (.inr (14, 6, 0))), (1, .inl a1)]) (st' := []) rfl (if_pos c5) ?_
      refine xq_blk 1 (pc' := 26) (ls' := [(0, .inr (.inr (14, 6, 0))), (1, .inl a1)]) (st' := [.inl (-5 : Int32)]) (M' := M) rfl ?_
      exact (hr _ (Option.some.inj h).symm) ▸ xq_ret rfl
    · refine xq_core (pc' := 20) (ls' := [(0, .inr (.inr (14, 6, 0))), (1, .inl a1)]) (st' := []) rfl (if_neg c5) ?_
      refine xq_blk 2 (pc' := 26) (ls' := [(0, .inr (.inr (14, 6, 0))), (1, .inl a1)]) (st' := [.inl (0 : Int32)]) (M' := M) rfl ?_
      exact (hr _ (Option.some.inj h).symm) ▸ xq_ret rfl
theorem f_X7_rackError_ok {X : List Int32} {a1 : Int32} {M : xM} {p : Int32} (h : f_X7_rackError a1 M = some p) : xq X xe 147 0 [(0, .inr (.inr (14, 6, 0))), (1, .inl a1)] [] M ((some (.inl p), M) : xR) := f_X7_rackError_run h (fun q e => by rw [e])
def f_X7_leavesRack (a1 : Int32) (a2 : Int32) (M : xM) : Option (xM) := (f_X7_personAt a1 a2 M).bind (fun q1 => if xp_in (q1 + (2 : Int32)) 3540 = true then (if xp_in (q1 + (3 : Int32)) 3540 = true then (if xp_in (q1 + (4 : Int32)) 3540 = true then (if xp_in (q1 + (5 : Int32)) 3540 = true then (some (xd_up (xd_up (xd_up (xd_up M 6 1 (q1 + (2 : Int32)).toNatClampNeg (-6 : Int32)) 6 1 (q1 + (3 : Int32)).toNatClampNeg (-6 : Int32)) 6 1 (q1 + (4 : Int32)).toNatClampNeg (-6 : Int32)) 6 1 (q1 + (5 : Int32)).toNatClampNeg (-6 : Int32))) else none) else none) else none) else none)
theorem f_X7_leavesRack_run {X : List Int32} {a1 : Int32} {a2 : Int32} {M : xM} {p : xM} {r : xR} (h : f_X7_leavesRack a1 a2 M = some p) (hr : ∀ q, p = q → ((none, q) : xR) = r) : xq X xe 138 0 [(0, .inr (.inr (14, 6, 0))), (1, .inl a1), (2, .inl a2)] [] M r := by
  unfold f_X7_leavesRack at h
  refine xq_blk 2 (pc' := 2) (ls' := [(0, .inr (.inr (14, 6, 0))), (1, .inl a1), (2, .inl a2)]) (st' := [.inl a2, .inl a1]) (M' := M) rfl ?_
  refine xq_bind h (fun q1 e2 h => ?_)
  refine xq_call (j := 117) (as := [.inl a1, .inl a2]) (pc' := 5) (ls' := [(0, .inr (.inr (14, 6, 0))), (1, .inl a1), (2, .inl a2)]) (st' := []) rfl rfl (f_X7_personAt_ok e2) ?_
  refine xq_blk 7 (pc' := 15) (ls' := [(3, .inl q1), (0, .inr (.inr (14, 6, 0))), (1, .inl a1), (2, .inl a2)]) (st' := [.inl (-6 : Int32), .inl (q1 + (2 : Int32)), .inr (.inr (15, 6, 1))]) (M' := M) rfl ?_
  refine xq_guard h (fun g3 h => ?_)
  refine xq_prim (st' := []) (M' := xd_up M 6 1 (q1 + (2 : Int32)).toNatClampNeg (-6 : Int32)) rfl rfl rfl (xg_ast0 rfl g3) ?_
  refine xq_blk 6 (pc' := 25) (ls' := [(3, .inl q1), (0, .inr (.inr (14, 6, 0))), (1, .inl a1), (2, .inl a2)]) (st' := [.inl (-6 : Int32), .inl (q1 + (3 : Int32)), .inr (.inr (15, 6, 1))]) (M' := xd_up M 6 1 (q1 + (2 : Int32)).toNatClampNeg (-6 : Int32)) rfl ?_
  refine xq_guard h (fun g4 h => ?_)
  refine xq_prim (st' := []) (M' := xd_up (xd_up M 6 1 (q1 + (2 : Int32)).toNatClampNeg (-6 : Int32)) 6 1 (q1 + (3 : Int32)).toNatClampNeg (-6 : Int32)) rfl rfl rfl (xg_ast0 rfl g4) ?_
  refine xq_blk 6 (pc' := 35) (ls' := [(3, .inl q1), (0, .inr (.inr (14, 6, 0))), (1, .inl a1), (2, .inl a2)]) (st' := [.inl (-6 : Int32), .inl (q1 + (4 : Int32)), .inr (.inr (15, 6, 1))]) (M' := xd_up (xd_up M 6 1 (q1 + (2 : Int32)).toNatClampNeg (-6 : Int32)) 6 1 (q1 + (3 : Int32)).toNatClampNeg (-6 : Int32)) rfl ?_
  refine xq_guard h (fun g5 h => ?_)
  refine xq_prim (st' := []) (M' := xd_up (xd_up (xd_up M 6 1 (q1 + (2 : Int32)).toNatClampNeg (-6 : Int32)) 6 1 (q1 + (3 : Int32)).toNatClampNeg (-6 : Int32)) 6 1 (q1 + (4 : Int32)).toNatClampNeg (-6 : Int32)) rfl rfl rfl (xg_ast0 rfl g5) ?_
  refine xq_blk 6 (pc' := 45) (ls' := [(3, .inl q1), (0, .inr (.inr (14, 6, 0))), (1, .inl a1), (2, .inl a2)]) (st' := [.inl (-6 : Int32), .inl (q1 + (5 : Int32)), .inr (.inr (15, 6, 1))]) (M' := xd_up (xd_up (xd_up M 6 1 (q1 + (2 : Int32)).toNatClampNeg (-6 : Int32)) 6 1 (q1 + (3 : Int32)).toNatClampNeg (-6 : Int32)) 6 1 (q1 + (4 : Int32)).toNatClampNeg (-6 : Int32)) rfl ?_
  refine xq_guard h (fun g6 h => ?_)
  refine xq_prim (st' := []) (M' := xd_up (xd_up (xd_up (xd_up M 6 1 (q1 + (2 : Int32)).toNatClampNeg (-6 : Int32)) 6 1 (q1 + (3 : Int32)).toNatClampNeg (-6 : Int32)) 6 1 (q1 + (4 : Int32)).toNatClampNeg (-6 : Int32)) 6 1 (q1 + (5 : Int32)).toNatClampNeg (-6 : Int32)) rfl rfl rfl (xg_ast0 rfl g6) ?_
  exact (hr _ (Option.some.inj h).symm) ▸ xq_ret rfl
theorem f_X7_leavesRack_ok {X : List Int32} {a1 : Int32} {a2 : Int32} {M : xM} {p : xM} (h : f_X7_leavesRack a1 a2 M = some p) : xq X xe 138 0 [(0, .inr (.inr (14, 6, 0))), (1, .inl a1), (2, .inl a2)] [] M ((none, p) : xR) := f_X7_leavesRack_run h (fun q e => by rw [e])
def f_X7_rides (a1 : Int32) (M : xM) : Option (Int32 × xM) := (f_X7_personAt (0 : Int32) a1 M).bind (fun q1 => if xp_in (q1 + (4 : Int32)) 3540 = true then ((f_X7_leavesRack (0 : Int32) a1 M).bind (fun q4 => some (((M.1 6 1 4) - (M.1 6 1 (q1 + (4 : Int32)).toNatClampNeg), q4)))) else none)
theorem f_X7_rides_run {X : List Int32} {a1 : Int32} {M : xM} {p : Int32 × xM} {r : xR} (h : f_X7_rides a1 M = some p) (hr : ∀ q, p = q → ((some (.inl q.1), q.2) : xR) = r) : xq X xe 151 0 [(0, .inr (.inr (14, 6, 0))), (1, .inl a1)] [] M r := by
  unfold f_X7_rides at h
  refine xq_blk 3 (pc' := 5) (ls' := [(0, .inr (.inr (14, 6, 0))), (1, .inl a1)]) (st' := [.inl (4 : Int32), .inr (.inr (15, 6, 1))]) (M' := M) rfl ?_
  refine xq_prim (st' := [.inl (M.1 6 1 4)]) (M' := M) rfl rfl rfl (xg_ald0 rfl rfl) ?_
  refine xq_blk 4 (pc' := 12) (ls' := [(0, .inr (.inr (14, 6, 0))), (1, .inl a1)]) (st' := [.inl a1, .inl (0 : Int32), .inr (.inr (15, 6, 1)), .inl (M.1 6 1 4)]) (M' := M) rfl ?_
  refine xq_bind h (fun q1 e2 h => ?_)
  refine xq_call (j := 117) (as := [.inl (0 : Int32), .inl a1]) (pc' := 15) (ls' := [(0, .inr (.inr (14, 6, 0))), (1, .inl a1)]) (st' := [.inr (.inr (15, 6, 1)), .inl (M.1 6 1 4)]) rfl rfl (f_X7_personAt_ok e2) ?_
  refine xq_blk 2 (pc' := 17) (ls' := [(0, .inr (.inr (14, 6, 0))), (1, .inl a1)]) (st' := [.inl (q1 + (4 : Int32)), .inr (.inr (15, 6, 1)), .inl (M.1 6 1 4)]) (M' := M) rfl ?_
  refine xq_guard h (fun g3 h => ?_)
  refine xq_prim (st' := [.inl (M.1 6 1 (q1 + (4 : Int32)).toNatClampNeg), .inl (M.1 6 1 4)]) (M' := M) rfl rfl rfl (xg_ald0 rfl g3) ?_
  refine xq_blk 5 (pc' := 23) (ls' := [(2, .inl ((M.1 6 1 4) - (M.1 6 1 (q1 + (4 : Int32)).toNatClampNeg))), (0, .inr (.inr (14, 6, 0))), (1, .inl a1)]) (st' := [.inl a1, .inl (0 : Int32), .inr (.inr (14, 6, 0))]) (M' := M) rfl ?_
  refine xq_bind h (fun q4 e5 h => ?_)
  refine xq_call (j := 138) (as := [.inr (.inr (14, 6, 0)), .inl (0 : Int32), .inl a1]) (pc' := 26) (ls' := [(2, .inl ((M.1 6 1 4) - (M.1 6 1 (q1 + (4 : Int32)).toNatClampNeg))), (0, .inr (.inr (14, 6, 0))), (1, .inl a1)]) (st' := []) rfl rfl (f_X7_leavesRack_ok e5) ?_
  refine xq_blk 1 (pc' := 27) (ls' := [(2, .inl ((M.1 6 1 4) - (M.1 6 1 (q1 + (4 : Int32)).toNatClampNeg))), (0, .inr (.inr (14, 6, 0))), (1, .inl a1)]) (st' := [.inl ((M.1 6 1 4) - (M.1 6 1 (q1 + (4 : Int32)).toNatClampNeg))]) (M' := q4) rfl ?_
  exact (hr _ (Option.some.inj h).symm) ▸ xq_ret rfl
theorem f_X7_rides_ok {X : List Int32} {a1 : Int32} {M : xM} {p : Int32 × xM} (h : f_X7_rides a1 M = some p) : xq X xe 151 0 [(0, .inr (.inr (14, 6, 0))), (1, .inl a1)] [] M ((some (.inl p.1), p.2) : xR) := f_X7_rides_run h (fun q e => by rw [e])
def f_X7_ride (a1 : Int32) (M : xM) : Option (Int32 × xM) := (f_X7_rackError a1 M).bind (fun q1 => if q1 = (0 : Int32) then ((f_X7_changes M).bind (fun q3 => (f_X7_rides a1 q3).bind (fun q5 => some ((q5.1, q5.2))))) else (some ((q1, M))))
theorem f_X7_ride_run {X : List Int32} {a1 : Int32} {M : xM} {p : Int32 × xM} {r : xR} (h : f_X7_ride a1 M = some p) (hr : ∀ q, p = q → ((some (.inl q.1), q.2) : xR) = r) : xq X xe 160 0 [(0, .inr (.inr (14, 6, 0))), (1, .inl a1)] [] M r := by
  unfold f_X7_ride at h
  refine xq_blk 2 (pc' := 2) (ls' := [(0, .inr (.inr (14, 6, 0))), (1, .inl a1)]) (st' := [.inl a1, .inr (.inr (14, 6, 0))]) (M' := M) rfl ?_
  refine xq_bind h (fun q1 e2 h => ?_)
  refine xq_call (j := 147) (as := [.inr (.inr (14, 6, 0)), .inl a1]) (pc' := 5) (ls' := [(0, .inr (.inr (14, 6, 0))), (1, .inl a1)]) (st' := []) rfl rfl (f_X7_rackError_ok e2) ?_
  refine xq_blk 2 (pc' := 7) (ls' := [(2, .inl q1), (0, .inr (.inr (14, 6, 0))), (1, .inl a1)]) (st' := [.inl q1]) (M' := M) rfl ?_
  refine xq_ite h (fun c7 h => ?_) (fun c7 h => ?_)
  · refine xq_core (pc' := 12) (ls' := [(2, .inl q1), (0, .inr (.inr (14, 6, 0))), (1, .inl a1)]) (st' := []) rfl (if_pos c7) ?_
    refine xq_blk 1 (pc' := 13) (ls' := [(2, .inl q1), (0, .inr (.inr (14, 6, 0))), (1, .inl a1)]) (st' := [.inr (.inr (14, 6, 0))]) (M' := M) rfl ?_
    refine xq_bind h (fun q3 e4 h => ?_)
    refine xq_call (j := 122) (as := [.inr (.inr (14, 6, 0))]) (pc' := 16) (ls' := [(2, .inl q1), (0, .inr (.inr (14, 6, 0))), (1, .inl a1)]) (st' := []) rfl rfl (f_X7_changes_ok e4) ?_
    refine xq_blk 2 (pc' := 18) (ls' := [(2, .inl q1), (0, .inr (.inr (14, 6, 0))), (1, .inl a1)]) (st' := [.inl a1, .inr (.inr (14, 6, 0))]) (M' := q3) rfl ?_
    refine xq_bind h (fun q5 e6 h => ?_)
    refine xq_call (j := 151) (as := [.inr (.inr (14, 6, 0)), .inl a1]) (pc' := 21) (ls' := [(2, .inl q1), (0, .inr (.inr (14, 6, 0))), (1, .inl a1)]) (st' := []) rfl rfl (f_X7_rides_ok e6) ?_
    exact (hr _ (Option.some.inj h).symm) ▸ xq_ret rfl
  · refine xq_core (pc' := 10) (ls' := [(2, .inl q1), (0, .inr (.inr (14, 6, 0))), (1, .inl a1)]) (st' := []) rfl (if_neg c7) ?_
    refine xq_blk 1 (pc' := 11) (ls' := [(2, .inl q1), (0, .inr (.inr (14, 6, 0))), (1, .inl a1)]) (st' := [.inl q1]) (M' := M) rfl ?_
    exact (hr _ (Option.some.inj h).symm) ▸ xq_ret rfl
theorem f_X7_ride_ok {X : List Int32} {a1 : Int32} {M : xM} {p : Int32 × xM} (h : f_X7_ride a1 M = some p) : xq X xe 160 0 [(0, .inr (.inr (14, 6, 0))), (1, .inl a1)] [] M ((some (.inl p.1), p.2) : xR) := f_X7_ride_run h (fun q e => by rw [e])
def f_X7_answers_j24 (v2 : Int32) (t0 : Int32) (M : xM) : Option (Int32 × xM) := (f_X7_flag t0 M).bind (fun q4 => if xp_in (v2 + (5 : Int32)) 3540 = true then (if xp_in (v2 + (4 : Int32)) 3540 = true then (some ((q4, xd_up (xd_up M 6 1 (v2 + (5 : Int32)).toNatClampNeg (-6 : Int32)) 6 1 (v2 + (4 : Int32)).toNatClampNeg ((xd_up M 6 1 (v2 + (5 : Int32)).toNatClampNeg (-6 : Int32)).1 6 1 4)))) else none) else none)
theorem f_X7_answers_j24_ok {X : List Int32} {v2 : Int32} {t0 : Int32} {M : xM} {p : Int32 × xM} {r : xR} (h : f_X7_answers_j24 v2 t0 M = some p) (hr : ∀ q, p = q → ((some (.inl q.1), q.2) : xR) = r) : xq X xe 152 24 [(0, .inr (.inr (14, 6, 0))), (2, .inl v2)] [.inl t0] M r := by
  unfold f_X7_answers_j24 at h
  refine xq_bind h (fun q4 e5 h => ?_)
  refine xq_call (j := 120) (as := [.inl t0]) (pc' := 27) (ls' := [(0, .inr (.inr (14, 6, 0))), (2, .inl v2)]) (st' := []) rfl rfl (f_X7_flag_ok e5) ?_
  refine xq_blk 7 (pc' := 37) (ls' := [(3, .inl q4), (0, .inr (.inr (14, 6, 0))), (2, .inl v2)]) (st' := [.inl (-6 : Int32), .inl (v2 + (5 : Int32)), .inr (.inr (15, 6, 1))]) (M' := M) rfl ?_
  refine xq_guard h (fun g6 h => ?_)
  refine xq_prim (st' := []) (M' := xd_up M 6 1 (v2 + (5 : Int32)).toNatClampNeg (-6 : Int32)) rfl rfl rfl (xg_ast0 rfl g6) ?_
  refine xq_blk 8 (pc' := 50) (ls' := [(3, .inl q4), (0, .inr (.inr (14, 6, 0))), (2, .inl v2)]) (st' := [.inl (4 : Int32), .inr (.inr (15, 6, 1)), .inl (v2 + (4 : Int32)), .inr (.inr (15, 6, 1))]) (M' := xd_up M 6 1 (v2 + (5 : Int32)).toNatClampNeg (-6 : Int32)) rfl ?_
  refine xq_prim (st' := [.inl ((xd_up M 6 1 (v2 + (5 : Int32)).toNatClampNeg (-6 : Int32)).1 6 1 4), .inl (v2 + (4 : Int32)), .inr (.inr (15, 6, 1))]) (M' := xd_up M 6 1 (v2 + (5 : Int32)).toNatClampNeg (-6 : Int32)) rfl rfl rfl (xg_ald0 rfl rfl) ?_
  refine xq_guard h (fun g7 h => ?_)
  refine xq_prim (st' := []) (M' := xd_up (xd_up M 6 1 (v2 + (5 : Int32)).toNatClampNeg (-6 : Int32)) 6 1 (v2 + (4 : Int32)).toNatClampNeg ((xd_up M 6 1 (v2 + (5 : Int32)).toNatClampNeg (-6 : Int32)).1 6 1 4)) rfl rfl rfl (xg_ast0 rfl g7) ?_
  refine xq_blk 1 (pc' := 53) (ls' := [(3, .inl q4), (0, .inr (.inr (14, 6, 0))), (2, .inl v2)]) (st' := [.inl q4]) (M' := xd_up (xd_up M 6 1 (v2 + (5 : Int32)).toNatClampNeg (-6 : Int32)) 6 1 (v2 + (4 : Int32)).toNatClampNeg ((xd_up M 6 1 (v2 + (5 : Int32)).toNatClampNeg (-6 : Int32)).1 6 1 4)) rfl ?_
  exact (hr _ (Option.some.inj h).symm) ▸ xq_ret rfl
def f_X7_answers (a1 : Int32) (M : xM) : Option (Int32 × xM) := (f_X7_personAt (0 : Int32) a1 M).bind (fun q1 => if xp_in (q1 + (5 : Int32)) 3540 = true then (if (M.1 6 1 (q1 + (5 : Int32)).toNatClampNeg) = (-6 : Int32) then (f_X7_answers_j24 q1 (0 : Int32) M) else (f_X7_answers_j24 q1 (1 : Int32) M)) else none)
theorem f_X7_answers_run {X : List Int32} {a1 : Int32} {M : xM} {p : Int32 × xM} {r : xR} (h : f_X7_answers a1 M = some p) (hr : ∀ q, p = q → ((some (.inl q.1), q.2) : xR) = r) : xq X xe 152 0 [(0, .inr (.inr (14, 6, 0))), (1, .inl a1)] [] M r := by
  unfold f_X7_answers at h
  refine xq_blk 2 (pc' := 2) (ls' := [(0, .inr (.inr (14, 6, 0))), (1, .inl a1)]) (st' := [.inl a1, .inl (0 : Int32)]) (M' := M) rfl ?_
  refine xq_bind h (fun q1 e2 h => ?_)
  refine xq_call (j := 117) (as := [.inl (0 : Int32), .inl a1]) (pc' := 5) (ls' := [(0, .inr (.inr (14, 6, 0))), (1, .inl a1)]) (st' := []) rfl rfl (f_X7_personAt_ok e2) ?_
  refine xq_blk 6 (pc' := 13) (ls' := [(2, .inl q1), (0, .inr (.inr (14, 6, 0))), (1, .inl a1)]) (st' := [.inl (q1 + (5 : Int32)), .inr (.inr (15, 6, 1))]) (M' := M) rfl ?_
  refine xq_guard h (fun g3 h => ?_)
  refine xq_prim (st' := [.inl (M.1 6 1 (q1 + (5 : Int32)).toNatClampNeg)]) (M' := M) rfl rfl rfl (xg_ald0 rfl g3) ?_
  refine xq_blk 1 (pc' := 16) (ls' := [(2, .inl q1), (0, .inr (.inr (14, 6, 0))), (1, .inl a1)]) (st' := [.inl (-6 : Int32), .inl (M.1 6 1 (q1 + (5 : Int32)).toNatClampNeg)]) (M' := M) rfl ?_
  refine xq_ite h (fun c8 h => ?_) (fun c8 h => ?_)
  · refine xq_core (pc' := 23) (ls' := [(2, .inl q1), (0, .inr (.inr (14, 6, 0))), (1, .inl a1)]) (st' := []) rfl (if_pos c8) ?_
    refine xq_blk 1 (pc' := 24) (ls' := [(2, .inl q1), (0, .inr (.inr (14, 6, 0))), (1, .inl a1)]) (st' := [.inl (0 : Int32)]) (M' := M) rfl ?_
    exact xq_sub (a := [(0, .inr (.inr (14, 6, 0))), (2, .inl q1)]) ⟨rfl, rfl, trivial⟩ rfl (f_X7_answers_j24_ok h hr)
  · refine xq_core (pc' := 19) (ls' := [(2, .inl q1), (0, .inr (.inr (14, 6, 0))), (1, .inl a1)]) (st' := []) rfl (if_neg c8) ?_
    refine xq_blk 2 (pc' := 24) (ls' := [(2, .inl q1), (0, .inr (.inr (14, 6, 0))), (1, .inl a1)]) (st' := [.inl (1 : Int32)]) (M' := M) rfl ?_
    exact xq_sub (a := [(0, .inr (.inr (14, 6, 0))), (2, .inl q1)]) ⟨rfl, rfl, trivial⟩ rfl (f_X7_answers_j24_ok h hr)
theorem f_X7_answers_ok {X : List Int32} {a1 : Int32} {M : xM} {p : Int32 × xM} (h : f_X7_answers a1 M = some p) : xq X xe 152 0 [(0, .inr (.inr (14, 6, 0))), (1, .inl a1)] [] M ((some (.inl p.1), p.2) : xR) := f_X7_answers_run h (fun q e => by rw [e])
def f_X7_answer (a1 : Int32) (M : xM) : Option (Int32 × xM) := (f_X7_rackError a1 M).bind (fun q1 => if q1 = (0 : Int32) then ((f_X7_changes M).bind (fun q3 => (f_X7_answers a1 q3).bind (fun q5 => some ((q5.1, q5.2))))) else (some ((q1, M))))
theorem f_X7_answer_run {X : List Int32} {a1 : Int32} {M : xM} {p : Int32 × xM} {r : xR} (h : f_X7_answer a1 M = some p) (hr : ∀ q, p = q → ((some (.inl q.1), q.2) : xR) = r) : xq X xe 161 0 [(0, .inr (.inr (14, 6, 0))), (1, .inl a1)] [] M r := by
  unfold f_X7_answer at h
  refine xq_blk 2 (pc' := 2) (ls' := [(0, .inr (.inr (14, 6, 0))), (1, .inl a1)]) (st' := [.inl a1, .inr (.inr (14, 6, 0))]) (M' := M) rfl ?_
  refine xq_bind h (fun q1 e2 h => ?_)
  refine xq_call (j := 147) (as := [.inr (.inr (14, 6, 0)), .inl a1]) (pc' := 5) (ls' := [(0, .inr (.inr (14, 6, 0))), (1, .inl a1)]) (st' := []) rfl rfl (f_X7_rackError_ok e2) ?_
  refine xq_blk 2 (pc' := 7) (ls' := [(2, .inl q1), (0, .inr (.inr (14, 6, 0))), (1, .inl a1)]) (st' := [.inl q1]) (M' := M) rfl ?_
  refine xq_ite h (fun c7 h => ?_) (fun c7 h => ?_)
  · refine xq_core (pc' := 12) (ls' := [(2, .inl q1), (0, .inr (.inr (14, 6, 0))), (1, .inl a1)]) (st' := []) rfl (if_pos c7) ?_
    refine xq_blk 1 (pc' := 13) (ls' := [(2, .inl q1), (0, .inr (.inr (14, 6, 0))), (1, .inl a1)]) (st' := [.inr (.inr (14, 6, 0))]) (M' := M) rfl ?_
    refine xq_bind h (fun q3 e4 h => ?_)
    refine xq_call (j := 122) (as := [.inr (.inr (14, 6, 0))]) (pc' := 16) (ls' := [(2, .inl q1), (0, .inr (.inr (14, 6, 0))), (1, .inl a1)]) (st' := []) rfl rfl (f_X7_changes_ok e4) ?_
    refine xq_blk 2 (pc' := 18) (ls' := [(2, .inl q1), (0, .inr (.inr (14, 6, 0))), (1, .inl a1)]) (st' := [.inl a1, .inr (.inr (14, 6, 0))]) (M' := q3) rfl ?_
    refine xq_bind h (fun q5 e6 h => ?_)
    refine xq_call (j := 152) (as := [.inr (.inr (14, 6, 0)), .inl a1]) (pc' := 21) (ls' := [(2, .inl q1), (0, .inr (.inr (14, 6, 0))), (1, .inl a1)]) (st' := []) rfl rfl (f_X7_answers_ok e6) ?_
    exact (hr _ (Option.some.inj h).symm) ▸ xq_ret rfl
  · refine xq_core (pc' := 10) (ls' := [(2, .inl q1), (0, .inr (.inr (14, 6, 0))), (1, .inl a1)]) (st' := []) rfl (if_neg c7) ?_
    refine xq_blk 1 (pc' := 11) (ls' := [(2, .inl q1), (0, .inr (.inr (14, 6, 0))), (1, .inl a1)]) (st' := [.inl q1]) (M' := M) rfl ?_
    exact (hr _ (Option.some.inj h).symm) ▸ xq_ret rfl
theorem f_X7_answer_ok {X : List Int32} {a1 : Int32} {M : xM} {p : Int32 × xM} (h : f_X7_answer a1 M = some p) : xq X xe 161 0 [(0, .inr (.inr (14, 6, 0))), (1, .inl a1)] [] M ((some (.inl p.1), p.2) : xR) := f_X7_answer_run h (fun q e => by rw [e])
def f_X7_fetchError (a1 : Int32) (M : xM) : Option (Int32) := (f_X7_isPerson a1 M).bind (fun q1 => if q1 = (0 : Int32) then (some ((-1 : Int32))) else ((f_X7_personAt (0 : Int32) a1 M).bind (fun q3 => if xp_in (q3 + (6 : Int32)) 3540 = true then (if (M.1 6 1 (q3 + (6 : Int32)).toNatClampNeg) = (-6 : Int32) then (some ((-5 : Int32))) else (some ((0 : Int32)))) else none)))
theorem f_X7_fetchError_run {X : List Int32} {a1 : Int32} {M : xM} {p : Int32} {r : xR} (h : f_X7_fetchError a1 M = some p) (hr : ∀ q, p = q → ((some (.inl q), M) : xR) = r) : xq X xe 148 0 [(0, .inr (.inr (14, 6, 0))), (1, .inl a1)] [] M r := by
  unfold f_X7_fetchError at h
  refine xq_blk 1 (pc' := 1) (ls' := [(0, .inr (.inr (14, 6, 0))), (1, .inl a1)]) (st' := [.inl a1]) (M' := M) rfl ?_
  refine xq_bind h (fun q1 e2 h => ?_)
  refine xq_call (j := 141) (as := [.inl a1]) (pc' := 4) (ls' := [(0, .inr (.inr (14, 6, 0))), (1, .inl a1)]) (st' := []) rfl rfl (f_X7_isPerson_ok e2) ?_
  refine xq_ite h (fun c7 h => ?_) (fun c7 h => ?_)
  · refine xq_core (pc' := 7) (ls' := [(0, .inr (.inr (14, 6, 0))), (1, .inl a1)]) (st' := []) rfl (if_pos c7) ?_
    refine xq_blk 2 (pc' := 35) (ls' := [(0, .inr (.inr (14, 6, 0))), (1, .inl a1)]) (st' := [.inl (-1 : Int32)]) (M' := M) rfl ?_
    exact (hr _ (Option.some.inj h).symm) ▸ xq_ret rfl
  · refine xq_core (pc' := 11) (ls' := [(0, .inr (.inr (14, 6, 0))), (1, .inl a1)]) (st' := []) rfl (if_neg c7) ?_
    refine xq_blk 4 (pc' := 17) (ls' := [(0, .inr (.inr (14, 6, 0))), (1, .inl a1)]) (st' := [.inl a1, .inl (0 : Int32), .inr (.inr (15, 6, 1))]) (M' := M) rfl ?_
    refine xq_bind h (fun q3 e4 h => ?_)
    refine xq_call (j := 117) (as := [.inl (0 : Int32), .inl a1]) (pc' := 20) (ls' := [(0, .inr (.inr (14, 6, 0))), (1, .inl a1)]) (st' := [.inr (.inr (15, 6, 1))]) rfl rfl (f_X7_personAt_ok e4) ?_
    refine xq_blk 2 (pc' := 23) (ls' := [(0, .inr (.inr (14, 6, 0))), (1, .inl a1)]) (st' := [.inl (q3 + (6 : Int32)), .inr (.inr (15, 6, 1))]) (M' := M) rfl ?_
    refine xq_guard h (fun g5 h => ?_)
    refine xq_prim (st' := [.inl (M.1 6 1 (q3 + (6 : Int32)).toNatClampNeg)]) (M' := M) rfl rfl rfl (xg_ald0 rfl g5) ?_
    refine xq_blk 1 (pc' := 26) (ls' := [(0, .inr (.inr (14, 6, 0))), (1, .inl a1)]) (st' := [.inl (-6 : Int32), .inl (M.1 6 1 (q3 + (6 : Int32)).toNatClampNeg)]) (M' := M) rfl ?_
    refine xq_ite h (fun c6 h => ?_) (fun c6 h => ?_)
    · refine xq_core (pc' := 29) (ls' := [(0, .inr (.inr (14, 6, 0))), (1, .inl a1)]) (st' := []) rfl (if_pos c6) ?_
      refine xq_blk 2 (pc' := 35) (ls' := [(0, .inr (.inr (14, 6, 0))), (1, .inl a1)]) (st' := [.inl (-5 : Int32)]) (M' := M) rfl ?_
      exact (hr _ (Option.some.inj h).symm) ▸ xq_ret rfl
    · refine xq_core (pc' := 34) (ls' := [(0, .inr (.inr (14, 6, 0))), (1, .inl a1)]) (st' := []) rfl (if_neg c6) ?_
      refine xq_blk 1 (pc' := 35) (ls' := [(0, .inr (.inr (14, 6, 0))), (1, .inl a1)]) (st' := [.inl (0 : Int32)]) (M' := M) rfl ?_
      exact (hr _ (Option.some.inj h).symm) ▸ xq_ret rfl
theorem f_X7_fetchError_ok {X : List Int32} {a1 : Int32} {M : xM} {p : Int32} (h : f_X7_fetchError a1 M = some p) : xq X xe 148 0 [(0, .inr (.inr (14, 6, 0))), (1, .inl a1)] [] M ((some (.inl p), M) : xR) := f_X7_fetchError_run h (fun q e => by rw [e])
def f_X7_fetches (a1 : Int32) (M : xM) : Option (Int32 × xM) := (f_X7_personAt (0 : Int32) a1 M).bind (fun q1 => if xp_in (q1 + (6 : Int32)) 3540 = true then (if xp_in (q1 + (6 : Int32)) 3540 = true then (some (((M.1 6 1 4) - (M.1 6 1 (q1 + (6 : Int32)).toNatClampNeg), xd_up M 6 1 (q1 + (6 : Int32)).toNatClampNeg (-6 : Int32)))) else none) else none)
theorem f_X7_fetches_run {X : List Int32} {a1 : Int32} {M : xM} {p : Int32 × xM} {r : xR} (h : f_X7_fetches a1 M = some p) (hr : ∀ q, p = q → ((some (.inl q.1), q.2) : xR) = r) : xq X xe 153 0 [(0, .inr (.inr (14, 6, 0))), (1, .inl a1)] [] M r := by
  unfold f_X7_fetches at h
  refine xq_blk 2 (pc' := 2) (ls' := [(0, .inr (.inr (14, 6, 0))), (1, .inl a1)]) (st' := [.inl a1, .inl (0 : Int32)]) (M' := M) rfl ?_
  refine xq_bind h (fun q1 e2 h => ?_)
  refine xq_call (j := 117) (as := [.inl (0 : Int32), .inl a1]) (pc' := 5) (ls' := [(0, .inr (.inr (14, 6, 0))), (1, .inl a1)]) (st' := []) rfl rfl (f_X7_personAt_ok e2) ?_
  refine xq_blk 4 (pc' := 11) (ls' := [(2, .inl q1), (0, .inr (.inr (14, 6, 0))), (1, .inl a1)]) (st' := [.inl (4 : Int32), .inr (.inr (15, 6, 1))]) (M' := M) rfl ?_
  refine xq_prim (st' := [.inl (M.1 6 1 4)]) (M' := M) rfl rfl rfl (xg_ald0 rfl rfl) ?_
  refine xq_blk 5 (pc' := 20) (ls' := [(2, .inl q1), (0, .inr (.inr (14, 6, 0))), (1, .inl a1)]) (st' := [.inl (q1 + (6 : Int32)), .inr (.inr (15, 6, 1)), .inl (M.1 6 1 4)]) (M' := M) rfl ?_
  refine xq_guard h (fun g3 h => ?_)
  refine xq_prim (st' := [.inl (M.1 6 1 (q1 + (6 : Int32)).toNatClampNeg), .inl (M.1 6 1 4)]) (M' := M) rfl rfl rfl (xg_ald0 rfl g3) ?_
  refine xq_blk 8 (pc' := 33) (ls' := [(3, .inl ((M.1 6 1 4) - (M.1 6 1 (q1 + (6 : Int32)).toNatClampNeg))), (2, .inl q1), (0, .inr (.inr (14, 6, 0))), (1, .inl a1)]) (st' := [.inl (-6 : Int32), .inl (q1 + (6 : Int32)), .inr (.inr (15, 6, 1))]) (M' := M) rfl ?_
  refine xq_guard h (fun g4 h => ?_)
  refine xq_prim (st' := []) (M' := xd_up M 6 1 (q1 + (6 : Int32)).toNatClampNeg (-6 : Int32)) rfl rfl rfl (xg_ast0 rfl g4) ?_
  refine xq_blk 1 (pc' := 35) (ls' := [(3, .inl ((M.1 6 1 4) - (M.1 6 1 (q1 + (6 : Int32)).toNatClampNeg))), (2, .inl q1), (0, .inr (.inr (14, 6, 0))), (1, .inl a1)]) (st' := [.inl ((M.1 6 1 4) - (M.1 6 1 (q1 + (6 : Int32)).toNatClampNeg))]) (M' := xd_up M 6 1 (q1 + (6 : Int32)).toNatClampNeg (-6 : Int32)) rfl ?_
  exact (hr _ (Option.some.inj h).symm) ▸ xq_ret rfl
theorem f_X7_fetches_ok {X : List Int32} {a1 : Int32} {M : xM} {p : Int32 × xM} (h : f_X7_fetches a1 M = some p) : xq X xe 153 0 [(0, .inr (.inr (14, 6, 0))), (1, .inl a1)] [] M ((some (.inl p.1), p.2) : xR) := f_X7_fetches_run h (fun q e => by rw [e])
def f_X7_fetch (a1 : Int32) (M : xM) : Option (Int32 × xM) := (f_X7_fetchError a1 M).bind (fun q1 => if q1 = (0 : Int32) then ((f_X7_changes M).bind (fun q3 => (f_X7_fetches a1 q3).bind (fun q5 => some ((q5.1, q5.2))))) else (some ((q1, M))))
theorem f_X7_fetch_run {X : List Int32} {a1 : Int32} {M : xM} {p : Int32 × xM} {r : xR} (h : f_X7_fetch a1 M = some p) (hr : ∀ q, p = q → ((some (.inl q.1), q.2) : xR) = r) : xq X xe 162 0 [(0, .inr (.inr (14, 6, 0))), (1, .inl a1)] [] M r := by
  unfold f_X7_fetch at h
  refine xq_blk 2 (pc' := 2) (ls' := [(0, .inr (.inr (14, 6, 0))), (1, .inl a1)]) (st' := [.inl a1, .inr (.inr (14, 6, 0))]) (M' := M) rfl ?_
  refine xq_bind h (fun q1 e2 h => ?_)
  refine xq_call (j := 148) (as := [.inr (.inr (14, 6, 0)), .inl a1]) (pc' := 5) (ls' := [(0, .inr (.inr (14, 6, 0))), (1, .inl a1)]) (st' := []) rfl rfl (f_X7_fetchError_ok e2) ?_
  refine xq_blk 2 (pc' := 7) (ls' := [(2, .inl q1), (0, .inr (.inr (14, 6, 0))), (1, .inl a1)]) (st' := [.inl q1]) (M' := M) rfl ?_
  refine xq_ite h (fun c7 h => ?_) (fun c7 h => ?_)
  · refine xq_core (pc' := 12) (ls' := [(2, .inl q1), (0, .inr (.inr (14, 6, 0))), (1, .inl a1)]) (st' := []) rfl (if_pos c7) ?_
    refine xq_blk 1 (pc' := 13) (ls' := [(2, .inl q1), (0, .inr (.inr (14, 6, 0))), (1, .inl a1)]) (st' := [.inr (.inr (14, 6, 0))]) (M' := M) rfl ?_
    refine xq_bind h (fun q3 e4 h => ?_)
    refine xq_call (j := 122) (as := [.inr (.inr (14, 6, 0))]) (pc' := 16) (ls' := [(2, .inl q1), (0, .inr (.inr (14, 6, 0))), (1, .inl a1)]) (st' := []) rfl rfl (f_X7_changes_ok e4) ?_
    refine xq_blk 2 (pc' := 18) (ls' := [(2, .inl q1), (0, .inr (.inr (14, 6, 0))), (1, .inl a1)]) (st' := [.inl a1, .inr (.inr (14, 6, 0))]) (M' := q3) rfl ?_
    refine xq_bind h (fun q5 e6 h => ?_)
    refine xq_call (j := 153) (as := [.inr (.inr (14, 6, 0)), .inl a1]) (pc' := 21) (ls' := [(2, .inl q1), (0, .inr (.inr (14, 6, 0))), (1, .inl a1)]) (st' := []) rfl rfl (f_X7_fetches_ok e6) ?_
    exact (hr _ (Option.some.inj h).symm) ▸ xq_ret rfl
  · refine xq_core (pc' := 10) (ls' := [(2, .inl q1), (0, .inr (.inr (14, 6, 0))), (1, .inl a1)]) (st' := []) rfl (if_neg c7) ?_
    refine xq_blk 1 (pc' := 11) (ls' := [(2, .inl q1), (0, .inr (.inr (14, 6, 0))), (1, .inl a1)]) (st' := [.inl q1]) (M' := M) rfl ?_
    exact (hr _ (Option.some.inj h).symm) ▸ xq_ret rfl
theorem f_X7_fetch_ok {X : List Int32} {a1 : Int32} {M : xM} {p : Int32 × xM} (h : f_X7_fetch a1 M = some p) : xq X xe 162 0 [(0, .inr (.inr (14, 6, 0))), (1, .inl a1)] [] M ((some (.inl p.1), p.2) : xR) := f_X7_fetch_run h (fun q e => by rw [e])
