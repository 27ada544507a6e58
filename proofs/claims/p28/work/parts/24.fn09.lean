def f_L_print_l90_68 (k90v3 : Int32) (M : xM) (s90 : Int64 × Int32) : Option ((Int64 × Int32) ⊕ ((Int64 × Int32) ⊕ (Int64))) := (f_X6_shed k90v3 (3 : Int32) M).bind (fun q7 => if s90.2 < q7 then ((f_X6_waiting k90v3 s90.2 (0 : Int32) M).bind (fun q9 => (f_X6_waiting k90v3 s90.2 (1 : Int32) M).bind (fun q11 => (f_X6_waiting k90v3 s90.2 (2 : Int32) M).bind (fun q13 => some (.inl (((31 : Int64) * ((((31 : Int64) * s90.1) + ((100 : Int64) * q9.toInt64)) + q11.toInt64)) + q13.toInt64, s90.2 + (1 : Int32))))))) else (Option.map Sum.inr (some (.inl (s90.1, k90v3 + (1 : Int32))))))
theorem f_L_print_l90_68_ok {X : List Int32} {k90v3 : Int32} {M : xM} {s90 : Int64 × Int32} {p : (Int64 × Int32) ⊕ ((Int64 × Int32) ⊕ (Int64))} {r : xR} (h : f_L_print_l90_68 k90v3 M s90 = some p) (h0 : ∀ s', p = .inl s' → xq X xe 104 90 [(0, .inr (.inr (7, 5, 0))), (1, .inr (.inl s'.1)), (3, .inl k90v3), (4, .inl s'.2)] [] M r) (h1 : ∀ s', p = .inr (.inl s') → xq X xe 104 68 [(0, .inr (.inr (7, 5, 0))), (1, .inr (.inl s'.1)), (3, .inl s'.2)] [] M r) (hr : ∀ q, p = .inr (.inr (q)) → ((some (.inr (.inl q)), M) : xR) = r) : xq X xe 104 90 [(0, .inr (.inr (7, 5, 0))), (1, .inr (.inl s90.1)), (3, .inl k90v3), (4, .inl s90.2)] [] M r := by
  unfold f_L_print_l90_68 at h
  refine xq_blk 4 (pc' := 95) (ls' := [(0, .inr (.inr (7, 5, 0))), (1, .inr (.inl s90.1)), (3, .inl k90v3), (4, .inl s90.2)]) (st' := [.inl (3 : Int32), .inl k90v3, .inr (.inr (7, 5, 0)), .inl s90.2]) (M' := M) rfl ?_
  refine xq_bind h (fun q7 e8 h => ?_)
  refine xq_call (j := 88) (as := [.inr (.inr (7, 5, 0)), .inl k90v3, .inl (3 : Int32)]) (pc' := 98) (ls' := [(0, .inr (.inr (7, 5, 0))), (1, .inr (.inl s90.1)), (3, .inl k90v3), (4, .inl s90.2)]) (st' := [.inl s90.2]) rfl rfl (f_X6_shed_ok e8) ?_
  refine xq_ite h (fun c15 h => ?_) (fun c15 h => ?_)
  · refine xq_core (pc' := 101) (ls' := [(0, .inr (.inr (7, 5, 0))), (1, .inr (.inl s90.1)), (3, .inl k90v3), (4, .inl s90.2)]) (st' := []) rfl (if_pos c15) ?_
    refine xq_blk 8 (pc' := 114) (ls' := [(0, .inr (.inr (7, 5, 0))), (1, .inr (.inl s90.1)), (3, .inl k90v3), (4, .inl s90.2)]) (st' := [.inl (0 : Int32), .inl s90.2, .inl k90v3, .inr (.inr (7, 5, 0)), .inr (.inl (100 : Int64)), .inr (.inl ((31 : Int64) * s90.1))]) (M' := M) rfl ?_
    refine xq_bind h (fun q9 e10 h => ?_)
    refine xq_call (j := 89) (as := [.inr (.inr (7, 5, 0)), .inl k90v3, .inl s90.2, .inl (0 : Int32)]) (pc' := 117) (ls' := [(0, .inr (.inr (7, 5, 0))), (1, .inr (.inl s90.1)), (3, .inl k90v3), (4, .inl s90.2)]) (st' := [.inr (.inl (100 : Int64)), .inr (.inl ((31 : Int64) * s90.1))]) rfl rfl (f_X6_waiting_ok e10) ?_
    refine xq_blk 7 (pc' := 125) (ls' := [(0, .inr (.inr (7, 5, 0))), (1, .inr (.inl s90.1)), (3, .inl k90v3), (4, .inl s90.2)]) (st' := [.inl (1 : Int32), .inl s90.2, .inl k90v3, .inr (.inr (7, 5, 0)), .inr (.inl (((31 : Int64) * s90.1) + ((100 : Int64) * q9.toInt64)))]) (M' := M) rfl ?_
    refine xq_bind h (fun q11 e12 h => ?_)
    refine xq_call (j := 89) (as := [.inr (.inr (7, 5, 0)), .inl k90v3, .inl s90.2, .inl (1 : Int32)]) (pc' := 128) (ls' := [(0, .inr (.inr (7, 5, 0))), (1, .inr (.inl s90.1)), (3, .inl k90v3), (4, .inl s90.2)]) (st' := [.inr (.inl (((31 : Int64) * s90.1) + ((100 : Int64) * q9.toInt64)))]) rfl rfl (f_X6_waiting_ok e12) ?_
    refine xq_blk 10 (pc' := 141) (ls' := [(1, .inr (.inl ((((31 : Int64) * s90.1) + ((100 : Int64) * q9.toInt64)) + q11.toInt64))), (0, .inr (.inr (7, 5, 0))), (3, .inl k90v3), (4, .inl s90.2)]) (st' := [.inl (2 : Int32), .inl s90.2, .inl k90v3, .inr (.inr (7, 5, 0)), .inr (.inl ((31 : Int64) * ((((31 : Int64) * s90.1) + ((100 : Int64) * q9.toInt64)) + q11.toInt64)))]) (M' := M) rfl ?_
    refine xq_bind h (fun q13 e14 h => ?_)
    refine xq_call (j := 89) (as := [.inr (.inr (7, 5, 0)), .inl k90v3, .inl s90.2, .inl (2 : Int32)]) (pc' := 144) (ls' := [(1, .inr (.inl ((((31 : Int64) * s90.1) + ((100 : Int64) * q9.toInt64)) + q11.toInt64))), (0, .inr (.inr (7, 5, 0))), (3, .inl k90v3), (4, .inl s90.2)]) (st' := [.inr (.inl ((31 : Int64) * ((((31 : Int64) * s90.1) + ((100 : Int64) * q9.toInt64)) + q11.toInt64)))]) rfl rfl (f_X6_waiting_ok e14) ?_
    refine xq_blk 5 (pc' := 90) (ls' := [(4, .inl (s90.2 + (1 : Int32))), (1, .inr (.inl (((31 : Int64) * ((((31 : Int64) * s90.1) + ((100 : Int64) * q9.toInt64)) + q11.toInt64)) + q13.toInt64))), (0, .inr (.inr (7, 5, 0))), (3, .inl k90v3)]) (st' := []) (M' := M) rfl ?_
    exact xq_sub (a := [(0, .inr (.inr (7, 5, 0))), (1, .inr (.inl ((((31 : Int64) * ((((31 : Int64) * s90.1) + ((100 : Int64) * q9.toInt64)) + q11.toInt64)) + q13.toInt64, s90.2 + (1 : Int32)).1))), (3, .inl k90v3), (4, .inl ((((31 : Int64) * ((((31 : Int64) * s90.1) + ((100 : Int64) * q9.toInt64)) + q11.toInt64)) + q13.toInt64, s90.2 + (1 : Int32)).2))]) ⟨rfl, rfl, rfl, rfl, trivial⟩ rfl (h0 (((31 : Int64) * ((((31 : Int64) * s90.1) + ((100 : Int64) * q9.toInt64)) + q11.toInt64)) + q13.toInt64, s90.2 + (1 : Int32)) (Option.some.inj h).symm)
  · refine xq_core (pc' := 153) (ls' := [(0, .inr (.inr (7, 5, 0))), (1, .inr (.inl s90.1)), (3, .inl k90v3), (4, .inl s90.2)]) (st' := []) rfl (if_neg c15) ?_
    refine xq_map h (fun p h e => ?_)
    replace h0 := fun s' e' => h1 s' (e.symm.trans (congrArg Sum.inr e'))
    replace hr := fun q e' => hr q (e.symm.trans (congrArg Sum.inr e'))
    clear e
    refine xq_blk 2 (pc' := 68) (ls' := [(3, .inl (k90v3 + (1 : Int32))), (0, .inr (.inr (7, 5, 0))), (1, .inr (.inl s90.1)), (4, .inl s90.2)]) (st' := []) (M' := M) rfl ?_
    exact xq_sub (a := [(0, .inr (.inr (7, 5, 0))), (1, .inr (.inl ((s90.1, k90v3 + (1 : Int32)).1))), (3, .inl ((s90.1, k90v3 + (1 : Int32)).2))]) ⟨rfl, rfl, rfl, trivial⟩ rfl (h0 (s90.1, k90v3 + (1 : Int32)) (Option.some.inj h).symm)
def f_L_print_l68  (M : xM) (s68 : Int64 × Int32) : Option ((Int64 × Int32) ⊕ (Int64)) := if s68.2 < (3 : Int32) then ((f_X6_shed s68.2 (0 : Int32) M).bind (fun q5 => xlp (f_L_print_l90_68 s68.2 M) 4000 (((31 : Int64) * s68.1) + q5.toInt64, (0 : Int32)))) else (Option.map Sum.inr (some (s68.1)))
theorem f_L_print_l68_ok {X : List Int32}  {M : xM} {s68 : Int64 × Int32} {p : (Int64 × Int32) ⊕ (Int64)} {r : xR} (h : f_L_print_l68  M s68 = some p) (h0 : ∀ s', p = .inl s' → xq X xe 104 68 [(0, .inr (.inr (7, 5, 0))), (1, .inr (.inl s'.1)), (3, .inl s'.2)] [] M r) (hr : ∀ q, p = .inr (q) → ((some (.inr (.inl q)), M) : xR) = r) : xq X xe 104 68 [(0, .inr (.inr (7, 5, 0))), (1, .inr (.inl s68.1)), (3, .inl s68.2)] [] M r := by
  unfold f_L_print_l68 at h
  refine xq_blk 2 (pc' := 70) (ls' := [(0, .inr (.inr (7, 5, 0))), (1, .inr (.inl s68.1)), (3, .inl s68.2)]) (st' := [.inl (3 : Int32), .inl s68.2]) (M' := M) rfl ?_
  refine xq_ite h (fun c16 h => ?_) (fun c16 h => ?_)
  · refine xq_core (pc' := 73) (ls' := [(0, .inr (.inr (7, 5, 0))), (1, .inr (.inl s68.1)), (3, .inl s68.2)]) (st' := []) rfl (if_pos c16) ?_
    refine xq_blk 6 (pc' := 81) (ls' := [(0, .inr (.inr (7, 5, 0))), (1, .inr (.inl s68.1)), (3, .inl s68.2)]) (st' := [.inl (0 : Int32), .inl s68.2, .inr (.inr (7, 5, 0)), .inr (.inl ((31 : Int64) * s68.1))]) (M' := M) rfl ?_
    refine xq_bind h (fun q5 e6 h => ?_)
    refine xq_call (j := 88) (as := [.inr (.inr (7, 5, 0)), .inl s68.2, .inl (0 : Int32)]) (pc' := 84) (ls' := [(0, .inr (.inr (7, 5, 0))), (1, .inr (.inl s68.1)), (3, .inl s68.2)]) (st' := [.inr (.inl ((31 : Int64) * s68.1))]) rfl rfl (f_X6_shed_ok e6) ?_
    refine xq_blk 5 (pc' := 90) (ls' := [(4, .inl (0 : Int32)), (1, .inr (.inl (((31 : Int64) * s68.1) + q5.toInt64))), (0, .inr (.inr (7, 5, 0))), (3, .inl s68.2)]) (st' := []) (M' := M) rfl ?_
    refine xq_sub (a := [(0, .inr (.inr (7, 5, 0))), (1, .inr (.inl (((31 : Int64) * s68.1) + q5.toInt64))), (3, .inl s68.2), (4, .inl (0 : Int32))]) ⟨rfl, rfl, rfl, rfl, trivial⟩ rfl ?_
    exact xlp_ok (P := fun s90 => xq X xe 104 90 [(0, .inr (.inr (7, 5, 0))), (1, .inr (.inl s90.1)), (3, .inl s68.2), (4, .inl s90.2)] [] M r) (fun s p' hb g0 g1 => f_L_print_l90_68_ok hb g0 (fun s' e => h0 s' (g1 _ e).symm) (fun q e => hr q (g1 _ e).symm)) 4000 _ h
  · refine xq_core (pc' := 159) (ls' := [(0, .inr (.inr (7, 5, 0))), (1, .inr (.inl s68.1)), (3, .inl s68.2)]) (st' := []) rfl (if_neg c16) ?_
    refine xq_map h (fun p h e => ?_)
    replace hr := fun q e' => hr q (e.symm.trans (congrArg Sum.inr e'))
    clear e
    refine xq_blk 1 (pc' := 160) (ls' := [(0, .inr (.inr (7, 5, 0))), (1, .inr (.inl s68.1)), (3, .inl s68.2)]) (st' := [.inr (.inl s68.1)]) (M' := M) rfl ?_
    exact (hr _ (Option.some.inj h).symm) ▸ xq_ret rfl
def f_L_print_l33  (M : xM) (s33 : Int64 × Int32) : Option ((Int64 × Int32) ⊕ (Int64)) := if s33.2 < (180 : Int32) then ((f_X6_person (s33.2 / (9 : Int32)) (s33.2 - s33.2 / (9 : Int32) * (9 : Int32)) M).bind (fun q3 => some (.inl (((31 : Int64) * s33.1) + q3.toInt64, s33.2 + (1 : Int32))))) else (Option.map Sum.inr (xlp (f_L_print_l68 M) 4000 (s33.1, (0 : Int32))))
theorem f_L_print_l33_ok {X : List Int32}  {M : xM} {s33 : Int64 × Int32} {p : (Int64 × Int32) ⊕ (Int64)} {r : xR} (h : f_L_print_l33  M s33 = some p) (h0 : ∀ s', p = .inl s' → xq X xe 104 33 [(0, .inr (.inr (7, 5, 0))), (1, .inr (.inl s'.1)), (3, .inl s'.2)] [] M r) (hr : ∀ q, p = .inr (q) → ((some (.inr (.inl q)), M) : xR) = r) : xq X xe 104 33 [(0, .inr (.inr (7, 5, 0))), (1, .inr (.inl s33.1)), (3, .inl s33.2)] [] M r := by
  unfold f_L_print_l33 at h
  refine xq_blk 2 (pc' := 37) (ls' := [(0, .inr (.inr (7, 5, 0))), (1, .inr (.inl s33.1)), (3, .inl s33.2)]) (st' := [.inl (180 : Int32), .inl s33.2]) (M' := M) rfl ?_
  refine xq_ite h (fun c17 h => ?_) (fun c17 h => ?_)
  · refine xq_core (pc' := 40) (ls' := [(0, .inr (.inr (7, 5, 0))), (1, .inr (.inl s33.1)), (3, .inl s33.2)]) (st' := []) rfl (if_pos c17) ?_
    refine xq_blk 10 (pc' := 54) (ls' := [(0, .inr (.inr (7, 5, 0))), (1, .inr (.inl s33.1)), (3, .inl s33.2)]) (st' := [.inl (s33.2 - s33.2 / (9 : Int32) * (9 : Int32)), .inl (s33.2 / (9 : Int32)), .inr (.inr (7, 5, 0)), .inr (.inl ((31 : Int64) * s33.1))]) (M' := M) rfl ?_
    refine xq_bind h (fun q3 e4 h => ?_)
    refine xq_call (j := 87) (as := [.inr (.inr (7, 5, 0)), .inl (s33.2 / (9 : Int32)), .inl (s33.2 - s33.2 / (9 : Int32) * (9 : Int32))]) (pc' := 57) (ls' := [(0, .inr (.inr (7, 5, 0))), (1, .inr (.inl s33.1)), (3, .inl s33.2)]) (st' := [.inr (.inl ((31 : Int64) * s33.1))]) rfl rfl (f_X6_person_ok e4) ?_
    refine xq_blk 5 (pc' := 33) (ls' := [(3, .inl (s33.2 + (1 : Int32))), (1, .inr (.inl (((31 : Int64) * s33.1) + q3.toInt64))), (0, .inr (.inr (7, 5, 0)))]) (st' := []) (M' := M) rfl ?_
    exact xq_sub (a := [(0, .inr (.inr (7, 5, 0))), (1, .inr (.inl ((((31 : Int64) * s33.1) + q3.toInt64, s33.2 + (1 : Int32)).1))), (3, .inl ((((31 : Int64) * s33.1) + q3.toInt64, s33.2 + (1 : Int32)).2))]) ⟨rfl, rfl, rfl, trivial⟩ rfl (h0 (((31 : Int64) * s33.1) + q3.toInt64, s33.2 + (1 : Int32)) (Option.some.inj h).symm)
  · refine xq_core (pc' := 66) (ls' := [(0, .inr (.inr (7, 5, 0))), (1, .inr (.inl s33.1)), (3, .inl s33.2)]) (st' := []) rfl (if_neg c17) ?_
    refine xq_map h (fun p h e => ?_)
    replace hr := fun q e' => hr q (e.symm.trans (congrArg Sum.inr e'))
    clear e
    refine xq_blk 2 (pc' := 68) (ls' := [(3, .inl (0 : Int32)), (0, .inr (.inr (7, 5, 0))), (1, .inr (.inl s33.1))]) (st' := []) (M' := M) rfl ?_
    refine xq_sub (a := [(0, .inr (.inr (7, 5, 0))), (1, .inr (.inl s33.1)), (3, .inl (0 : Int32))]) ⟨rfl, rfl, rfl, trivial⟩ rfl ?_
    exact xlp_ok (P := fun s68 => xq X xe 104 68 [(0, .inr (.inr (7, 5, 0))), (1, .inr (.inl s68.1)), (3, .inl s68.2)] [] M r) (fun s p' hb g0 g1 => f_L_print_l68_ok hb g0 (fun q e => hr q (g1 _ e).symm)) 4000 _ h
def f_L_print_l6  (M : xM) (s6 : Int64 × Int32) : Option ((Int64 × Int32) ⊕ (Int64)) := if s6.2 < (13 : Int32) then ((f_X6_count s6.2 M).bind (fun q1 => some (.inl (((31 : Int64) * s6.1) + q1.toInt64, s6.2 + (1 : Int32))))) else (Option.map Sum.inr (xlp (f_L_print_l33 M) 4000 (s6.1, (0 : Int32))))
theorem f_L_print_l6_ok {X : List Int32}  {M : xM} {s6 : Int64 × Int32} {p : (Int64 × Int32) ⊕ (Int64)} {r : xR} (h : f_L_print_l6  M s6 = some p) (h0 : ∀ s', p = .inl s' → xq X xe 104 6 [(0, .inr (.inr (7, 5, 0))), (1, .inr (.inl s'.1)), (3, .inl s'.2)] [] M r) (hr : ∀ q, p = .inr (q) → ((some (.inr (.inl q)), M) : xR) = r) : xq X xe 104 6 [(0, .inr (.inr (7, 5, 0))), (1, .inr (.inl s6.1)), (3, .inl s6.2)] [] M r := by
  unfold f_L_print_l6 at h
  refine xq_blk 2 (pc' := 9) (ls' := [(0, .inr (.inr (7, 5, 0))), (1, .inr (.inl s6.1)), (3, .inl s6.2)]) (st' := [.inl (13 : Int32), .inl s6.2]) (M' := M) rfl ?_
  refine xq_ite h (fun c18 h => ?_) (fun c18 h => ?_)
  · refine xq_core (pc' := 12) (ls' := [(0, .inr (.inr (7, 5, 0))), (1, .inr (.inl s6.1)), (3, .inl s6.2)]) (st' := []) rfl (if_pos c18) ?_
    refine xq_blk 5 (pc' := 19) (ls' := [(0, .inr (.inr (7, 5, 0))), (1, .inr (.inl s6.1)), (3, .inl s6.2)]) (st' := [.inl s6.2, .inr (.inr (7, 5, 0)), .inr (.inl ((31 : Int64) * s6.1))]) (M' := M) rfl ?_
    refine xq_bind h (fun q1 e2 h => ?_)
    refine xq_call (j := 90) (as := [.inr (.inr (7, 5, 0)), .inl s6.2]) (pc' := 22) (ls' := [(0, .inr (.inr (7, 5, 0))), (1, .inr (.inl s6.1)), (3, .inl s6.2)]) (st' := [.inr (.inl ((31 : Int64) * s6.1))]) rfl rfl (f_X6_count_ok e2) ?_
    refine xq_blk 5 (pc' := 6) (ls' := [(3, .inl (s6.2 + (1 : Int32))), (1, .inr (.inl (((31 : Int64) * s6.1) + q1.toInt64))), (0, .inr (.inr (7, 5, 0)))]) (st' := []) (M' := M) rfl ?_
    exact xq_sub (a := [(0, .inr (.inr (7, 5, 0))), (1, .inr (.inl ((((31 : Int64) * s6.1) + q1.toInt64, s6.2 + (1 : Int32)).1))), (3, .inl ((((31 : Int64) * s6.1) + q1.toInt64, s6.2 + (1 : Int32)).2))]) ⟨rfl, rfl, rfl, trivial⟩ rfl (h0 (((31 : Int64) * s6.1) + q1.toInt64, s6.2 + (1 : Int32)) (Option.some.inj h).symm)
  · refine xq_core (pc' := 31) (ls' := [(0, .inr (.inr (7, 5, 0))), (1, .inr (.inl s6.1)), (3, .inl s6.2)]) (st' := []) rfl (if_neg c18) ?_
    refine xq_map h (fun p h e => ?_)
    replace hr := fun q e' => hr q (e.symm.trans (congrArg Sum.inr e'))
    clear e
    refine xq_blk 2 (pc' := 33) (ls' := [(3, .inl (0 : Int32)), (0, .inr (.inr (7, 5, 0))), (1, .inr (.inl s6.1))]) (st' := []) (M' := M) rfl ?_
    refine xq_sub (a := [(0, .inr (.inr (7, 5, 0))), (1, .inr (.inl s6.1)), (3, .inl (0 : Int32))]) ⟨rfl, rfl, rfl, trivial⟩ rfl ?_
    exact xlp_ok (P := fun s33 => xq X xe 104 33 [(0, .inr (.inr (7, 5, 0))), (1, .inr (.inl s33.1)), (3, .inl s33.2)] [] M r) (fun s p' hb g0 g1 => f_L_print_l33_ok hb g0 (fun q e => hr q (g1 _ e).symm)) 4000 _ h
def f_L_print  (M : xM) : Option (Int64) := xlp (f_L_print_l6 M) 4000 ((7 : Int64), (0 : Int32))
theorem f_L_print_run {X : List Int32}  {M : xM} {p : Int64} {r : xR} (h : f_L_print  M = some p) (hr : ∀ q, p = q → ((some (.inr (.inl q)), M) : xR) = r) : xq X xe 104 0 [(0, .inr (.inr (7, 5, 0)))] [] M r := by
  unfold f_L_print at h
  refine xq_blk 4 (pc' := 6) (ls' := [(3, .inl (0 : Int32)), (1, .inr (.inl (7 : Int64))), (0, .inr (.inr (7, 5, 0)))]) (st' := []) (M' := M) rfl ?_
  refine xq_sub (a := [(0, .inr (.inr (7, 5, 0))), (1, .inr (.inl (7 : Int64))), (3, .inl (0 : Int32))]) ⟨rfl, rfl, rfl, trivial⟩ rfl ?_
  exact xlp_ok (P := fun s6 => xq X xe 104 6 [(0, .inr (.inr (7, 5, 0))), (1, .inr (.inl s6.1)), (3, .inl s6.2)] [] M r) (fun s p' hb g0 g1 => f_L_print_l6_ok hb g0 (fun q e => hr q (g1 _ e).symm)) 4000 _ h
theorem f_L_print_ok {X : List Int32}  {M : xM} {p : Int64} (h : f_L_print  M = some p) : xq X xe 104 0 [(0, .inr (.inr (7, 5, 0)))] [] M ((some (.inr (.inl p)), M) : xR) := f_L_print_run h (fun q e => by rw [e])
def f_L_waits_j181 (v3 : Int64) (t0 : Int32) (M : xM) : Option (Int32 × xM) := if t0 = (0 : Int32) then (some ((vp_nar .boolean (0 : Int32), M))) else ((f_X6_restore (1 : Int32) M).bind (fun q9 => if q9.1 < (0 : Int32) then (some ((vp_nar .boolean (0 : Int32), q9.2))) else ((f_L_print q9.2).bind (fun q11 => if (lg_cmp q11 v3) = (0 : Int32) then (some ((vp_nar .boolean (1 : Int32), q9.2))) else (some ((vp_nar .boolean (0 : Int32), q9.2)))))))
theorem f_L_waits_j181_ok {X : List Int32} {v3 : Int64} {t0 : Int32} {M : xM} {p : Int32 × xM} {r : xR} (h : f_L_waits_j181 v3 t0 M = some p) (hr : ∀ q, p = q → ((some (.inl q.1), q.2) : xR) = r) : xq X xe 105 181 [(0, .inr (.inr (7, 5, 0))), (3, .inr (.inl v3))] [.inl t0] M r := by
  unfold f_L_waits_j181 at h
  refine xq_blk 2 (pc' := 185) (ls' := [(5, .inl t0), (0, .inr (.inr (7, 5, 0))), (3, .inr (.inl v3))]) (st' := [.inl t0]) (M' := M) rfl ?_
  refine xq_ite h (fun c15 h => ?_) (fun c15 h => ?_)
  · refine xq_core (pc' := 209) (ls' := [(5, .inl t0), (0, .inr (.inr (7, 5, 0))), (3, .inr (.inl v3))]) (st' := []) rfl (if_pos c15) ?_
    refine xq_blk 1 (pc' := 210) (ls' := [(5, .inl t0), (0, .inr (.inr (7, 5, 0))), (3, .inr (.inl v3))]) (st' := [.inl (0 : Int32)]) (M' := M) rfl ?_
    exact (hr _ (Option.some.inj h).symm) ▸ xq_ret rfl
  · refine xq_core (pc' := 188) (ls' := [(5, .inl t0), (0, .inr (.inr (7, 5, 0))), (3, .inr (.inl v3))]) (st' := []) rfl (if_neg c15) ?_
    refine xq_blk 2 (pc' := 190) (ls' := [(5, .inl t0), (0, .inr (.inr (7, 5, 0))), (3, .inr (.inl v3))]) (st' := [.inl (1 : Int32), .inr (.inr (7, 5, 0))]) (M' := M) rfl ?_
    refine xq_bind h (fun q9 e10 h => ?_)
    refine xq_call (j := 97) (as := [.inr (.inr (7, 5, 0)), .inl (1 : Int32)]) (pc' := 193) (ls' := [(5, .inl t0), (0, .inr (.inr (7, 5, 0))), (3, .inr (.inl v3))]) (st' := []) rfl rfl (f_X6_restore_ok e10) ?_
    refine xq_ite h (fun c14 h => ?_) (fun c14 h => ?_)
    · refine xq_core (pc' := 209) (ls' := [(5, .inl t0), (0, .inr (.inr (7, 5, 0))), (3, .inr (.inl v3))]) (st' := []) rfl (if_pos c14) ?_
      refine xq_blk 1 (pc' := 210) (ls' := [(5, .inl t0), (0, .inr (.inr (7, 5, 0))), (3, .inr (.inl v3))]) (st' := [.inl (0 : Int32)]) (M' := q9.2) rfl ?_
      exact (hr _ (Option.some.inj h).symm) ▸ xq_ret rfl
    · refine xq_core (pc' := 196) (ls' := [(5, .inl t0), (0, .inr (.inr (7, 5, 0))), (3, .inr (.inl v3))]) (st' := []) rfl (if_neg c14) ?_
      refine xq_blk 1 (pc' := 197) (ls' := [(5, .inl t0), (0, .inr (.inr (7, 5, 0))), (3, .inr (.inl v3))]) (st' := [.inr (.inr (7, 5, 0))]) (M' := q9.2) rfl ?_
      refine xq_bind h (fun q11 e12 h => ?_)
      refine xq_call (j := 104) (as := [.inr (.inr (7, 5, 0))]) (pc' := 200) (ls' := [(5, .inl t0), (0, .inr (.inr (7, 5, 0))), (3, .inr (.inl v3))]) (st' := []) rfl rfl (f_L_print_ok e12) ?_
      refine xq_blk 2 (pc' := 202) (ls' := [(5, .inl t0), (0, .inr (.inr (7, 5, 0))), (3, .inr (.inl v3))]) (st' := [.inl (lg_cmp q11 v3)]) (M' := q9.2) rfl ?_
      refine xq_ite h (fun c13 h => ?_) (fun c13 h => ?_)
      · refine xq_core (pc' := 205) (ls' := [(5, .inl t0), (0, .inr (.inr (7, 5, 0))), (3, .inr (.inl v3))]) (st' := []) rfl (if_pos c13) ?_
        refine xq_blk 2 (pc' := 210) (ls' := [(5, .inl t0), (0, .inr (.inr (7, 5, 0))), (3, .inr (.inl v3))]) (st' := [.inl (1 : Int32)]) (M' := q9.2) rfl ?_
        exact (hr _ (Option.some.inj h).symm) ▸ xq_ret rfl
      · refine xq_core (pc' := 209) (ls' := [(5, .inl t0), (0, .inr (.inr (7, 5, 0))), (3, .inr (.inl v3))]) (st' := []) rfl (if_neg c13) ?_
        refine xq_blk 1 (pc' := 210) (ls' := [(5, .inl t0), (0, .inr (.inr (7, 5, 0))), (3, .inr (.inl v3))]) (st' := [.inl (0 : Int32)]) (M' := q9.2) rfl ?_
        exact (hr _ (Option.some.inj h).symm) ▸ xq_ret rfl
def f_L_waits_j180 (v3 : Int64) (M : xM) : Option (Int32 × xM) := f_L_waits_j181 v3 (0 : Int32) M
theorem f_L_waits_j180_ok {X : List Int32} {v3 : Int64} {M : xM} {p : Int32 × xM} {r : xR} (h : f_L_waits_j180 v3 M = some p) (hr : ∀ q, p = q → ((some (.inl q.1), q.2) : xR) = r) : xq X xe 105 180 [(0, .inr (.inr (7, 5, 0))), (3, .inr (.inl v3))] [] M r := by
  unfold f_L_waits_j180 at h
  refine xq_blk 1 (pc' := 181) (ls' := [(0, .inr (.inr (7, 5, 0))), (3, .inr (.inl v3))]) (st' := [.inl (0 : Int32)]) (M' := M) rfl ?_
  exact xq_sub (a := [(0, .inr (.inr (7, 5, 0))), (3, .inr (.inl v3))]) ⟨rfl, rfl, trivial⟩ rfl (f_L_waits_j181_ok h hr)
def f_L_waits_j132 (v1 : Int32) (v3 : Int64) (v5 : Int32) (M : xM) : Option (Int32 × xM) := if v5 = (0 : Int32) then (f_L_waits_j180 v3 M) else ((f_X6_person v1 (0 : Int32) M).bind (fun q16 => if q16 = (-6 : Int32) then ((f_X6_pass (1 : Int32) M).bind (fun q18 => if (0 : Int32) < q18.1 then ((f_X6_person v1 (0 : Int32) q18.2).bind (fun q20 => if q20 = (-6 : Int32) then (f_L_waits_j180 v3 q18.2) else ((f_X6_person v1 (2 : Int32) q18.2).bind (fun q22 => if q22 = (0 : Int32) then (f_L_waits_j181 v3 (1 : Int32) q18.2) else (f_L_waits_j180 v3 q18.2))))) else (f_L_waits_j180 v3 q18.2))) else (f_L_waits_j180 v3 M)))
theorem f_L_waits_j132_ok {X : List Int32} {v1 : Int32} {v3 : Int64} {v5 : Int32} {M : xM} {p : Int32 × xM} {r : xR} (h : f_L_waits_j132 v1 v3 v5 M = some p) (hr : ∀ q, p = q → ((some (.inl q.1), q.2) : xR) = r) : xq X xe 105 132 [(0, .inr (.inr (7, 5, 0))), (1, .inl v1), (3, .inr (.inl v3)), (5, .inl v5)] [] M r := by
  unfold f_L_waits_j132 at h
  refine xq_blk 1 (pc' := 134) (ls' := [(0, .inr (.inr (7, 5, 0))), (1, .inl v1), (3, .inr (.inl v3)), (5, .inl v5)]) (st' := [.inl v5]) (M' := M) rfl ?_
  refine xq_ite h (fun c28 h => ?_) (fun c28 h => ?_)
  · refine xq_core (pc' := 180) (ls' := [(0, .inr (.inr (7, 5, 0))), (1, .inl v1), (3, .inr (.inl v3)), (5, .inl v5)]) (st' := []) rfl (if_pos c28) ?_
    exact xq_sub (a := [(0, .inr (.inr (7, 5, 0))), (3, .inr (.inl v3))]) ⟨rfl, rfl, trivial⟩ rfl (f_L_waits_j180_ok h hr)
  · refine xq_core (pc' := 137) (ls' := [(0, .inr (.inr (7, 5, 0))), (1, .inl v1), (3, .inr (.inl v3)), (5, .inl v5)]) (st' := []) rfl (if_neg c28) ?_
    refine xq_blk 3 (pc' := 140) (ls' := [(0, .inr (.inr (7, 5, 0))), (1, .inl v1), (3, .inr (.inl v3)), (5, .inl v5)]) (st' := [.inl (0 : Int32), .inl v1, .inr (.inr (7, 5, 0))]) (M' := M) rfl ?_
    refine xq_bind h (fun q16 e17 h => ?_)
    refine xq_call (j := 87) (as := [.inr (.inr (7, 5, 0)), .inl v1, .inl (0 : Int32)]) (pc' := 143) (ls' := [(0, .inr (.inr (7, 5, 0))), (1, .inl v1), (3, .inr (.inl v3)), (5, .inl v5)]) (st' := []) rfl rfl (f_X6_person_ok e17) ?_
    refine xq_blk 1 (pc' := 145) (ls' := [(0, .inr (.inr (7, 5, 0))), (1, .inl v1), (3, .inr (.inl v3)), (5, .inl v5)]) (st' := [.inl (-6 : Int32), .inl q16]) (M' := M) rfl ?_
    refine xq_ite h (fun c27 h => ?_) (fun c27 h => ?_)
    · refine xq_core (pc' := 148) (ls' := [(0, .inr (.inr (7, 5, 0))), (1, .inl v1), (3, .inr (.inl v3)), (5, .inl v5)]) (st' := []) rfl (if_pos c27) ?_
      refine xq_blk 2 (pc' := 150) (ls' := [(0, .inr (.inr (7, 5, 0))), (1, .inl v1), (3, .inr (.inl v3)), (5, .inl v5)]) (st' := [.inl (1 : Int32), .inr (.inr (7, 5, 0))]) (M' := M) rfl ?_
      refine xq_bind h (fun q18 e19 h => ?_)
      refine xq_call (j := 86) (as := [.inr (.inr (7, 5, 0)), .inl (1 : Int32)]) (pc' := 153) (ls' := [(0, .inr (.inr (7, 5, 0))), (1, .inl v1), (3, .inr (.inl v3)), (5, .inl v5)]) (st' := []) rfl rfl (f_X6_pass_ok e19) ?_
      refine xq_ite h (fun c26 h => ?_) (fun c26 h => ?_)
      · refine xq_core (pc' := 156) (ls' := [(0, .inr (.inr (7, 5, 0))), (1, .inl v1), (3, .inr (.inl v3)), (5, .inl v5)]) (st' := []) rfl (if_pos c26) ?_
        refine xq_blk 3 (pc' := 159) (ls' := [(0, .inr (.inr (7, 5, 0))), (1, .inl v1), (3, .inr (.inl v3)), (5, .inl v5)]) (st' := [.inl (0 : Int32), .inl v1, .inr (.inr (7, 5, 0))]) (M' := q18.2) rfl ?_
        refine xq_bind h (fun q20 e21 h => ?_)
        refine xq_call (j := 87) (as := [.inr (.inr (7, 5, 0)), .inl v1, .inl (0 : Int32)]) (pc' := 162) (ls' := [(0, .inr (.inr (7, 5, 0))), (1, .inl v1), (3, .inr (.inl v3)), (5, .inl v5)]) (st' := []) rfl rfl (f_X6_person_ok e21) ?_
        refine xq_blk 1 (pc' := 164) (ls' := [(0, .inr (.inr (7, 5, 0))), (1, .inl v1), (3, .inr (.inl v3)), (5, .inl v5)]) (st' := [.inl (-6 : Int32), .inl q20]) (M' := q18.2) rfl ?_
        refine xq_ite h (fun c25 h => ?_) (fun c25 h => ?_)
        · refine xq_core (pc' := 180) (ls' := [(0, .inr (.inr (7, 5, 0))), (1, .inl v1), (3, .inr (.inl v3)), (5, .inl v5)]) (st' := []) rfl (if_pos c25) ?_
          exact xq_sub (a := [(0, .inr (.inr (7, 5, 0))), (3, .inr (.inl v3))]) ⟨rfl, rfl, trivial⟩ rfl (f_L_waits_j180_ok h hr)
        · refine xq_core (pc' := 167) (ls' := [(0, .inr (.inr (7, 5, 0))), (1, .inl v1), (3, .inr (.inl v3)), (5, .inl v5)]) (st' := []) rfl (if_neg c25) ?_
          refine xq_blk 3 (pc' := 170) (ls' := [(0, .inr (.inr (7, 5, 0))), (1, .inl v1), (3, .inr (.inl v3)), (5, .inl v5)]) (st' := [.inl (2 : Int32), .inl v1, .inr (.inr (7, 5, 0))]) (M' := q18.2) rfl ?_
          refine xq_bind h (fun q22 e23 h => ?_)
          refine xq_call (j := 87) (as := [.inr (.inr (7, 5, 0)), .inl v1, .inl (2 : Int32)]) (pc' := 173) (ls' := [(0, .inr (.inr (7, 5, 0))), (1, .inl v1), (3, .inr (.inl v3)), (5, .inl v5)]) (st' := []) rfl rfl (f_X6_person_ok e23) ?_
          refine xq_ite h (fun c24 h => ?_) (fun c24 h => ?_)
          · refine xq_core (pc' := 176) (ls' := [(0, .inr (.inr (7, 5, 0))), (1, .inl v1), (3, .inr (.inl v3)), (5, .inl v5)]) (st' := []) rfl (if_pos c24) ?_
            refine xq_blk 2 (pc' := 181) (ls' := [(0, .inr (.inr (7, 5, 0))), (1, .inl v1), (3, .inr (.inl v3)), (5, .inl v5)]) (st' := [.inl (1 : Int32)]) (M' := q18.2) rfl ?_
            exact xq_sub (a := [(0, .inr (.inr (7, 5, 0))), (3, .inr (.inl v3))]) ⟨rfl, rfl, trivial⟩ rfl (f_L_waits_j181_ok h hr)
          · refine xq_core (pc' := 180) (ls' := [(0, .inr (.inr (7, 5, 0))), (1, .inl v1), (3, .inr (.inl v3)), (5, .inl v5)]) (st' := []) rfl (if_neg c24) ?_
            exact xq_sub (a := [(0, .inr (.inr (7, 5, 0))), (3, .inr (.inl v3))]) ⟨rfl, rfl, trivial⟩ rfl (f_L_waits_j180_ok h hr)
      · refine xq_core (pc' := 180) (ls' := [(0, .inr (.inr (7, 5, 0))), (1, .inl v1), (3, .inr (.inl v3)), (5, .inl v5)]) (st' := []) rfl (if_neg c26) ?_
        exact xq_sub (a := [(0, .inr (.inr (7, 5, 0))), (3, .inr (.inl v3))]) ⟨rfl, rfl, trivial⟩ rfl (f_L_waits_j180_ok h hr)
    · refine xq_core (pc' := 180) (ls' := [(0, .inr (.inr (7, 5, 0))), (1, .inl v1), (3, .inr (.inl v3)), (5, .inl v5)]) (st' := []) rfl (if_neg c27) ?_
      exact xq_sub (a := [(0, .inr (.inr (7, 5, 0))), (3, .inr (.inl v3))]) ⟨rfl, rfl, trivial⟩ rfl (f_L_waits_j180_ok h hr)
def f_L_waits_j108_72 (k72v1 : Int32) (k72v3 : Int64) (v6 : Int32) (t0 : Int32) (M : xM) : Option ((Int32 × Int32 × xM) ⊕ (Int32 × xM)) := if (99 : Int32) < v6 then (some (.inl (t0, v6 - (99 : Int32), M))) else (some (.inl (t0, v6 - v6, M)))
theorem f_L_waits_j108_72_ok {X : List Int32} {k72v1 : Int32} {k72v3 : Int64} {v6 : Int32} {t0 : Int32} {M : xM} {p : (Int32 × Int32 × xM) ⊕ (Int32 × xM)} {r : xR} (h : f_L_waits_j108_72 k72v1 k72v3 v6 t0 M = some p) (h0 : ∀ s', p = .inl s' → xq X xe 105 72 [(0, .inr (.inr (7, 5, 0))), (1, .inl k72v1), (3, .inr (.inl k72v3)), (5, .inl s'.1), (6, .inl s'.2.1)] [] s'.2.2 r) (hr : ∀ q, p = .inr (q) → ((some (.inl q.1), q.2) : xR) = r) : xq X xe 105 108 [(0, .inr (.inr (7, 5, 0))), (1, .inl k72v1), (3, .inr (.inl k72v3)), (6, .inl v6)] [.inl t0] M r := by
  unfold f_L_waits_j108_72 at h
  refine xq_blk 4 (pc' := 116) (ls' := [(5, .inl t0), (0, .inr (.inr (7, 5, 0))), (1, .inl k72v1), (3, .inr (.inl k72v3)), (6, .inl v6)]) (st' := [.inl (99 : Int32), .inl v6, .inl v6]) (M' := M) rfl ?_
  refine xq_ite h (fun c31 h => ?_) (fun c31 h => ?_)
  · refine xq_core (pc' := 119) (ls' := [(5, .inl t0), (0, .inr (.inr (7, 5, 0))), (1, .inl k72v1), (3, .inr (.inl k72v3)), (6, .inl v6)]) (st' := [.inl v6]) rfl (if_pos c31) ?_
    refine xq_blk 5 (pc' := 72) (ls' := [(6, .inl (v6 - (99 : Int32))), (5, .inl t0), (0, .inr (.inr (7, 5, 0))), (1, .inl k72v1), (3, .inr (.inl k72v3))]) (st' := []) (M' := M) rfl ?_
    exact xq_sub (a := [(0, .inr (.inr (7, 5, 0))), (1, .inl k72v1), (3, .inr (.inl k72v3)), (5, .inl ((t0, v6 - (99 : Int32), M).1)), (6, .inl ((t0, v6 - (99 : Int32), M).2.1))]) ⟨rfl, rfl, rfl, rfl, rfl, trivial⟩ rfl (h0 (t0, v6 - (99 : Int32), M) (Option.some.inj h).symm)
  · refine xq_core (pc' := 124) (ls' := [(5, .inl t0), (0, .inr (.inr (7, 5, 0))), (1, .inl k72v1), (3, .inr (.inl k72v3)), (6, .inl v6)]) (st' := [.inl v6]) rfl (if_neg c31) ?_
    refine xq_blk 4 (pc' := 72) (ls' := [(6, .inl (v6 - v6)), (5, .inl t0), (0, .inr (.inr (7, 5, 0))), (1, .inl k72v1), (3, .inr (.inl k72v3))]) (st' := []) (M' := M) rfl ?_
    exact xq_sub (a := [(0, .inr (.inr (7, 5, 0))), (1, .inl k72v1), (3, .inr (.inl k72v3)), (5, .inl ((t0, v6 - v6, M).1)), (6, .inl ((t0, v6 - v6, M).2.1))]) ⟨rfl, rfl, rfl, rfl, rfl, trivial⟩ rfl (h0 (t0, v6 - v6, M) (Option.some.inj h).symm)
def f_L_waits_j97_72 (k72v1 : Int32) (k72v3 : Int64) (v6 : Int32) (t0 : Int32) (M : xM) : Option ((Int32 × Int32 × xM) ⊕ (Int32 × xM)) := (f_X6_pass t0 M).bind (fun q29 => if q29.1 < (0 : Int32) then (f_L_waits_j108_72 k72v1 k72v3 v6 (0 : Int32) q29.2) else (f_L_waits_j108_72 k72v1 k72v3 v6 (1 : Int32) q29.2))
theorem f_L_waits_j97_72_ok {X : List Int32} {k72v1 : Int32} {k72v3 : Int64} {v6 : Int32} {t0 : Int32} {M : xM} {p : (Int32 × Int32 × xM) ⊕ (Int32 × xM)} {r : xR} (h : f_L_waits_j97_72 k72v1 k72v3 v6 t0 M = some p) (h0 : ∀ s', p = .inl s' → xq X xe 105 72 [(0, .inr (.inr (7, 5, 0))), (1, .inl k72v1), (3, .inr (.inl k72v3)), (5, .inl s'.1), (6, .inl s'.2.1)] [] s'.2.2 r) (hr : ∀ q, p = .inr (q) → ((some (.inl q.1), q.2) : xR) = r) : xq X xe 105 97 [(0, .inr (.inr (7, 5, 0))), (1, .inl k72v1), (3, .inr (.inl k72v3)), (6, .inl v6)] [.inl t0, .inr (.inr (7, 5, 0))] M r := by
  unfold f_L_waits_j97_72 at h
  refine xq_bind h (fun q29 e30 h => ?_)
  refine xq_call (j := 86) (as := [.inr (.inr (7, 5, 0)), .inl t0]) (pc' := 100) (ls' := [(0, .inr (.inr (7, 5, 0))), (1, .inl k72v1), (3, .inr (.inl k72v3)), (6, .inl v6)]) (st' := []) rfl rfl (f_X6_pass_ok e30) ?_
  refine xq_ite h (fun c32 h => ?_) (fun c32 h => ?_)
  · refine xq_core (pc' := 107) (ls' := [(0, .inr (.inr (7, 5, 0))), (1, .inl k72v1), (3, .inr (.inl k72v3)), (6, .inl v6)]) (st' := []) rfl (if_pos c32) ?_
    refine xq_blk 1 (pc' := 108) (ls' := [(0, .inr (.inr (7, 5, 0))), (1, .inl k72v1), (3, .inr (.inl k72v3)), (6, .inl v6)]) (st' := [.inl (0 : Int32)]) (M' := q29.2) rfl ?_
    exact xq_sub (a := [(0, .inr (.inr (7, 5, 0))), (1, .inl k72v1), (3, .inr (.inl k72v3)), (6, .inl v6)]) ⟨rfl, rfl, rfl, rfl, trivial⟩ rfl (f_L_waits_j108_72_ok h h0 hr)
  · refine xq_core (pc' := 103) (ls' := [(0, .inr (.inr (7, 5, 0))), (1, .inl k72v1), (3, .inr (.inl k72v3)), (6, .inl v6)]) (st' := []) rfl (if_neg c32) ?_
    refine xq_blk 2 (pc' := 108) (ls' := [(0, .inr (.inr (7, 5, 0))), (1, .inl k72v1), (3, .inr (.inl k72v3)), (6, .inl v6)]) (st' := [.inl (1 : Int32)]) (M' := q29.2) rfl ?_
    exact xq_sub (a := [(0, .inr (.inr (7, 5, 0))), (1, .inl k72v1), (3, .inr (.inl k72v3)), (6, .inl v6)]) ⟨rfl, rfl, rfl, rfl, trivial⟩ rfl (f_L_waits_j108_72_ok h h0 hr)
def f_L_waits_l72 (k72v1 : Int32) (k72v3 : Int64) (s72 : Int32 × Int32 × xM) : Option ((Int32 × Int32 × xM) ⊕ (Int32 × xM)) := if (0 : Int32) < s72.2.1 then (if s72.1 = (0 : Int32) then (Option.map Sum.inr (f_L_waits_j132 k72v1 k72v3 s72.1 s72.2.2)) else (if (99 : Int32) < s72.2.1 then (f_L_waits_j97_72 k72v1 k72v3 s72.2.1 (99 : Int32) s72.2.2) else (f_L_waits_j97_72 k72v1 k72v3 s72.2.1 s72.2.1 s72.2.2))) else (Option.map Sum.inr (f_L_waits_j132 k72v1 k72v3 s72.1 s72.2.2))
theorem f_L_waits_l72_ok {X : List Int32} {k72v1 : Int32} {k72v3 : Int64} {s72 : Int32 × Int32 × xM} {p : (Int32 × Int32 × xM) ⊕ (Int32 × xM)} {r : xR} (h : f_L_waits_l72 k72v1 k72v3 s72 = some p) (h0 : ∀ s', p = .inl s' → xq X xe 105 72 [(0, .inr (.inr (7, 5, 0))), (1, .inl k72v1), (3, .inr (.inl k72v3)), (5, .inl s'.1), (6, .inl s'.2.1)] [] s'.2.2 r) (hr : ∀ q, p = .inr (q) → ((some (.inl q.1), q.2) : xR) = r) : xq X xe 105 72 [(0, .inr (.inr (7, 5, 0))), (1, .inl k72v1), (3, .inr (.inl k72v3)), (5, .inl s72.1), (6, .inl s72.2.1)] [] s72.2.2 r := by
  unfold f_L_waits_l72 at h
  refine xq_blk 1 (pc' := 74) (ls' := [(0, .inr (.inr (7, 5, 0))), (1, .inl k72v1), (3, .inr (.inl k72v3)), (5, .inl s72.1), (6, .inl s72.2.1)]) (st' := [.inl s72.2.1]) (M' := s72.2.2) rfl ?_
  refine xq_ite h (fun c35 h => ?_) (fun c35 h => ?_)
  · refine xq_core (pc' := 77) (ls' := [(0, .inr (.inr (7, 5, 0))), (1, .inl k72v1), (3, .inr (.inl k72v3)), (5, .inl s72.1), (6, .inl s72.2.1)]) (st' := []) rfl (if_pos c35) ?_
    refine xq_blk 1 (pc' := 79) (ls' := [(0, .inr (.inr (7, 5, 0))), (1, .inl k72v1), (3, .inr (.inl k72v3)), (5, .inl s72.1), (6, .inl s72.2.1)]) (st' := [.inl s72.1]) (M' := s72.2.2) rfl ?_
    refine xq_ite h (fun c34 h => ?_) (fun c34 h => ?_)
    · refine xq_core (pc' := 132) (ls' := [(0, .inr (.inr (7, 5, 0))), (1, .inl k72v1), (3, .inr (.inl k72v3)), (5, .inl s72.1), (6, .inl s72.2.1)]) (st' := []) rfl (if_pos c34) ?_
      refine xq_map h (fun p h e => ?_)
      replace hr := fun q e' => hr q (e.symm.trans (congrArg Sum.inr e'))
      clear e
      exact xq_sub (a := [(0, .inr (.inr (7, 5, 0))), (1, .inl k72v1), (3, .inr (.inl k72v3)), (5, .inl s72.1)]) ⟨rfl, rfl, rfl, rfl, trivial⟩ rfl (f_L_waits_j132_ok h hr)
    · refine xq_core (pc' := 82) (ls' := [(0, .inr (.inr (7, 5, 0))), (1, .inl k72v1), (3, .inr (.inl k72v3)), (5, .inl s72.1), (6, .inl s72.2.1)]) (st' := []) rfl (if_neg c34) ?_
      refine xq_blk 3 (pc' := 87) (ls' := [(0, .inr (.inr (7, 5, 0))), (1, .inl k72v1), (3, .inr (.inl k72v3)), (5, .inl s72.1), (6, .inl s72.2.1)]) (st' := [.inl (99 : Int32), .inl s72.2.1, .inr (.inr (7, 5, 0))]) (M' := s72.2.2) rfl ?_
      refine xq_ite h (fun c33 h => ?_) (fun c33 h => ?_)
      · refine xq_core (pc' := 90) (ls' := [(0, .inr (.inr (7, 5, 0))), (1, .inl k72v1), (3, .inr (.inl k72v3)), (5, .inl s72.1), (6, .inl s72.2.1)]) (st' := [.inr (.inr (7, 5, 0))]) rfl (if_pos c33) ?_
        refine xq_blk 2 (pc' := 97) (ls' := [(0, .inr (.inr (7, 5, 0))), (1, .inl k72v1), (3, .inr (.inl k72v3)), (5, .inl s72.1), (6, .inl s72.2.1)]) (st' := [.inl (99 : Int32), .inr (.inr (7, 5, 0))]) (M' := s72.2.2) rfl ?_
        exact xq_sub (a := [(0, .inr (.inr (7, 5, 0))), (1, .inl k72v1), (3, .inr (.inl k72v3)), (6, .inl s72.2.1)]) ⟨rfl, rfl, rfl, rfl, trivial⟩ rfl (f_L_waits_j97_72_ok h h0 hr)
      · refine xq_core (pc' := 95) (ls' := [(0, .inr (.inr (7, 5, 0))), (1, .inl k72v1), (3, .inr (.inl k72v3)), (5, .inl s72.1), (6, .inl s72.2.1)]) (st' := [.inr (.inr (7, 5, 0))]) rfl (if_neg c33) ?_
        refine xq_blk 1 (pc' := 97) (ls' := [(0, .inr (.inr (7, 5, 0))), (1, .inl k72v1), (3, .inr (.inl k72v3)), (5, .inl s72.1), (6, .inl s72.2.1)]) (st' := [.inl s72.2.1, .inr (.inr (7, 5, 0))]) (M' := s72.2.2) rfl ?_
        exact xq_sub (a := [(0, .inr (.inr (7, 5, 0))), (1, .inl k72v1), (3, .inr (.inl k72v3)), (6, .inl s72.2.1)]) ⟨rfl, rfl, rfl, rfl, trivial⟩ rfl (f_L_waits_j97_72_ok h h0 hr)
  · refine xq_core (pc' := 132) (ls' := [(0, .inr (.inr (7, 5, 0))), (1, .inl k72v1), (3, .inr (.inl k72v3)), (5, .inl s72.1), (6, .inl s72.2.1)]) (st' := []) rfl (if_neg c35) ?_
    refine xq_map h (fun p h e => ?_)
    replace hr := fun q e' => hr q (e.symm.trans (congrArg Sum.inr e'))
    clear e
    exact xq_sub (a := [(0, .inr (.inr (7, 5, 0))), (1, .inl k72v1), (3, .inr (.inl k72v3)), (5, .inl s72.1)]) ⟨rfl, rfl, rfl, rfl, trivial⟩ rfl (f_L_waits_j132_ok h hr)
def f_L_waits_j65 (v1 : Int32) (v2 : Int32) (v3 : Int64) (t0 : Int32) (M : xM) : Option (Int32 × xM) := xlp (f_L_waits_l72 v1 v3) 4000 (t0, v2 - (1 : Int32), M)
theorem f_L_waits_j65_ok {X : List Int32} {v1 : Int32} {v2 : Int32} {v3 : Int64} {t0 : Int32} {M : xM} {p : Int32 × xM} {r : xR} (h : f_L_waits_j65 v1 v2 v3 t0 M = some p) (hr : ∀ q, p = q → ((some (.inl q.1), q.2) : xR) = r) : xq X xe 105 65 [(0, .inr (.inr (7, 5, 0))), (1, .inl v1), (2, .inl v2), (3, .inr (.inl v3))] [.inl t0] M r := by
  unfold f_L_waits_j65 at h
  refine xq_blk 5 (pc' := 72) (ls' := [(6, .inl (v2 - (1 : Int32))), (5, .inl t0), (0, .inr (.inr (7, 5, 0))), (1, .inl v1), (2, .inl v2), (3, .inr (.inl v3))]) (st' := []) (M' := M) rfl ?_
  refine xq_sub (a := [(0, .inr (.inr (7, 5, 0))), (1, .inl v1), (3, .inr (.inl v3)), (5, .inl t0), (6, .inl (v2 - (1 : Int32)))]) ⟨rfl, rfl, rfl, rfl, rfl, trivial⟩ rfl ?_
  exact xlp_ok (P := fun s72 => xq X xe 105 72 [(0, .inr (.inr (7, 5, 0))), (1, .inl v1), (3, .inr (.inl v3)), (5, .inl s72.1), (6, .inl s72.2.1)] [] s72.2.2 r) (fun s p' hb g0 g1 => f_L_waits_l72_ok hb g0 (fun q e => hr q (g1 _ e).symm)) 4000 _ h
def f_L_waits_j64 (v1 : Int32) (v2 : Int32) (v3 : Int64) (M : xM) : Option (Int32 × xM) := f_L_waits_j65 v1 v2 v3 (0 : Int32) M
theorem f_L_waits_j64_ok {X : List Int32} {v1 : Int32} {v2 : Int32} {v3 : Int64} {M : xM} {p : Int32 × xM} {r : xR} (h : f_L_waits_j64 v1 v2 v3 M = some p) (hr : ∀ q, p = q → ((some (.inl q.1), q.2) : xR) = r) : xq X xe 105 64 [(0, .inr (.inr (7, 5, 0))), (1, .inl v1), (2, .inl v2), (3, .inr (.inl v3))] [] M r := by
  unfold f_L_waits_j64 at h
  refine xq_blk 1 (pc' := 65) (ls' := [(0, .inr (.inr (7, 5, 0))), (1, .inl v1), (2, .inl v2), (3, .inr (.inl v3))]) (st' := [.inl (0 : Int32)]) (M' := M) rfl ?_
  exact xq_sub (a := [(0, .inr (.inr (7, 5, 0))), (1, .inl v1), (2, .inl v2), (3, .inr (.inl v3))]) ⟨rfl, rfl, rfl, rfl, trivial⟩ rfl (f_L_waits_j65_ok h hr)
def f_L_waits (a1 : Int32) (M : xM) : Option (Int32 × xM) := (f_X6_untilPermit a1 M).bind (fun q1 => if q1.1 < (0 : Int32) then (if q1.1 = (-6 : Int32) then ((f_X6_person a1 (2 : Int32) q1.2).bind (fun q3 => if q3 = (0 : Int32) then (some ((vp_nar .boolean (0 : Int32), q1.2))) else (some ((vp_nar .boolean (1 : Int32), q1.2))))) else (some ((vp_nar .boolean (1 : Int32), q1.2)))) else ((f_L_print q1.2).bind (fun q7 => if (0 : Int32) < q1.1 then (if (300 : Int32) < q1.1 then (f_L_waits_j64 a1 q1.1 q7 q1.2) else ((f_X6_save (1 : Int32) q1.2).bind (fun q36 => (f_X6_count (4 : Int32) q36.2).bind (fun q38 => if q36.1 = q38 then (f_L_waits_j65 a1 q1.1 q7 (1 : Int32) q36.2) else (f_L_waits_j64 a1 q1.1 q7 q36.2))))) else (f_L_waits_j64 a1 q1.1 q7 q1.2))))
theorem f_L_waits_run {X : List Int32} {a1 : Int32} {M : xM} {p : Int32 × xM} {r : xR} (h : f_L_waits a1 M = some p) (hr : ∀ q, p = q → ((some (.inl q.1), q.2) : xR) = r) : xq X xe 105 0 [(0, .inr (.inr (7, 5, 0))), (1, .inl a1)] [] M r := by
  unfold f_L_waits at h
  refine xq_blk 2 (pc' := 2) (ls' := [(0, .inr (.inr (7, 5, 0))), (1, .inl a1)]) (st' := [.inl a1, .inr (.inr (7, 5, 0))]) (M' := M) rfl ?_
  refine xq_bind h (fun q1 e2 h => ?_)
  refine xq_call (j := 91) (as := [.inr (.inr (7, 5, 0)), .inl a1]) (pc' := 5) (ls' := [(0, .inr (.inr (7, 5, 0))), (1, .inl a1)]) (st' := []) rfl rfl (f_X6_untilPermit_ok e2) ?_
  refine xq_blk 2 (pc' := 7) (ls' := [(2, .inl q1.1), (0, .inr (.inr (7, 5, 0))), (1, .inl a1)]) (st' := [.inl q1.1]) (M' := q1.2) rfl ?_
  refine xq_ite h (fun c43 h => ?_) (fun c43 h => ?_)
  · refine xq_core (pc' := 10) (ls' := [(2, .inl q1.1), (0, .inr (.inr (7, 5, 0))), (1, .inl a1)]) (st' := []) rfl (if_pos c43) ?_
    refine xq_blk 2 (pc' := 13) (ls' := [(2, .inl q1.1), (0, .inr (.inr (7, 5, 0))), (1, .inl a1)]) (st' := [.inl (-6 : Int32), .inl q1.1]) (M' := q1.2) rfl ?_
    refine xq_ite h (fun c6 h => ?_) (fun c6 h => ?_)
    · refine xq_core (pc' := 16) (ls' := [(2, .inl q1.1), (0, .inr (.inr (7, 5, 0))), (1, .inl a1)]) (st' := []) rfl (if_pos c6) ?_
      refine xq_blk 3 (pc' := 19) (ls' := [(2, .inl q1.1), (0, .inr (.inr (7, 5, 0))), (1, .inl a1)]) (st' := [.inl (2 : Int32), .inl a1, .inr (.inr (7, 5, 0))]) (M' := q1.2) rfl ?_
      refine xq_bind h (fun q3 e4 h => ?_)
      refine xq_call (j := 87) (as := [.inr (.inr (7, 5, 0)), .inl a1, .inl (2 : Int32)]) (pc' := 22) (ls' := [(2, .inl q1.1), (0, .inr (.inr (7, 5, 0))), (1, .inl a1)]) (st' := []) rfl rfl (f_X6_person_ok e4) ?_
      refine xq_ite h (fun c5 h => ?_) (fun c5 h => ?_)
      · refine xq_core (pc' := 29) (ls' := [(2, .inl q1.1), (0, .inr (.inr (7, 5, 0))), (1, .inl a1)]) (st' := []) rfl (if_pos c5) ?_
        refine xq_blk 1 (pc' := 30) (ls' := [(2, .inl q1.1), (0, .inr (.inr (7, 5, 0))), (1, .inl a1)]) (st' := [.inl (0 : Int32)]) (M' := q1.2) rfl ?_
        exact (hr _ (Option.some.inj h).symm) ▸ xq_ret rfl
      · refine xq_core (pc' := 25) (ls' := [(2, .inl q1.1), (0, .inr (.inr (7, 5, 0))), (1, .inl a1)]) (st' := []) rfl (if_neg c5) ?_
        refine xq_blk 2 (pc' := 30) (ls' := [(2, .inl q1.1), (0, .inr (.inr (7, 5, 0))), (1, .inl a1)]) (st' := [.inl (1 : Int32)]) (M' := q1.2) rfl ?_
        exact (hr _ (Option.some.inj h).symm) ▸ xq_ret rfl
    · refine xq_core (pc' := 25) (ls' := [(2, .inl q1.1), (0, .inr (.inr (7, 5, 0))), (1, .inl a1)]) (st' := []) rfl (if_neg c6) ?_
      refine xq_blk 2 (pc' := 30) (ls' := [(2, .inl q1.1), (0, .inr (.inr (7, 5, 0))), (1, .inl a1)]) (st' := [.inl (1 : Int32)]) (M' := q1.2) rfl ?_
      exact (hr _ (Option.some.inj h).symm) ▸ xq_ret rfl
  · refine xq_core (pc' := 31) (ls' := [(2, .inl q1.1), (0, .inr (.inr (7, 5, 0))), (1, .inl a1)]) (st' := []) rfl (if_neg c43) ?_
    refine xq_blk 1 (pc' := 32) (ls' := [(2, .inl q1.1), (0, .inr (.inr (7, 5, 0))), (1, .inl a1)]) (st' := [.inr (.inr (7, 5, 0))]) (M' := q1.2) rfl ?_
    refine xq_bind h (fun q7 e8 h => ?_)
    refine xq_call (j := 104) (as := [.inr (.inr (7, 5, 0))]) (pc' := 35) (ls' := [(2, .inl q1.1), (0, .inr (.inr (7, 5, 0))), (1, .inl a1)]) (st' := []) rfl rfl (f_L_print_ok e8) ?_
    refine xq_blk 2 (pc' := 37) (ls' := [(3, .inr (.inl q7)), (2, .inl q1.1), (0, .inr (.inr (7, 5, 0))), (1, .inl a1)]) (st' := [.inl q1.1]) (M' := q1.2) rfl ?_
    refine xq_ite h (fun c42 h => ?_) (fun c42 h => ?_)
    · refine xq_core (pc' := 40) (ls' := [(3, .inr (.inl q7)), (2, .inl q1.1), (0, .inr (.inr (7, 5, 0))), (1, .inl a1)]) (st' := []) rfl (if_pos c42) ?_
      refine xq_blk 2 (pc' := 44) (ls' := [(3, .inr (.inl q7)), (2, .inl q1.1), (0, .inr (.inr (7, 5, 0))), (1, .inl a1)]) (st' := [.inl (300 : Int32), .inl q1.1]) (M' := q1.2) rfl ?_
      refine xq_ite h (fun c41 h => ?_) (fun c41 h => ?_)
      · refine xq_core (pc' := 64) (ls' := [(3, .inr (.inl q7)), (2, .inl q1.1), (0, .inr (.inr (7, 5, 0))), (1, .inl a1)]) (st' := []) rfl (if_pos c41) ?_
        exact xq_sub (a := [(0, .inr (.inr (7, 5, 0))), (1, .inl a1), (2, .inl q1.1), (3, .inr (.inl q7))]) ⟨rfl, rfl, rfl, rfl, trivial⟩ rfl (f_L_waits_j64_ok h hr)
      · refine xq_core (pc' := 47) (ls' := [(3, .inr (.inl q7)), (2, .inl q1.1), (0, .inr (.inr (7, 5, 0))), (1, .inl a1)]) (st' := []) rfl (if_neg c41) ?_
        refine xq_blk 2 (pc' := 49) (ls' := [(3, .inr (.inl q7)), (2, .inl q1.1), (0, .inr (.inr (7, 5, 0))), (1, .inl a1)]) (st' := [.inl (1 : Int32), .inr (.inr (7, 5, 0))]) (M' := q1.2) rfl ?_
        refine xq_bind h (fun q36 e37 h => ?_)
        refine xq_call (j := 96) (as := [.inr (.inr (7, 5, 0)), .inl (1 : Int32)]) (pc' := 52) (ls' := [(3, .inr (.inl q7)), (2, .inl q1.1), (0, .inr (.inr (7, 5, 0))), (1, .inl a1)]) (st' := []) rfl rfl (f_X6_save_ok e37) ?_
        refine xq_blk 2 (pc' := 54) (ls' := [(3, .inr (.inl q7)), (2, .inl q1.1), (0, .inr (.inr (7, 5, 0))), (1, .inl a1)]) (st' := [.inl (4 : Int32), .inr (.inr (7, 5, 0)), .inl q36.1]) (M' := q36.2) rfl ?_
        refine xq_bind h (fun q38 e39 h => ?_)
        refine xq_call (j := 90) (as := [.inr (.inr (7, 5, 0)), .inl (4 : Int32)]) (pc' := 57) (ls' := [(3, .inr (.inl q7)), (2, .inl q1.1), (0, .inr (.inr (7, 5, 0))), (1, .inl a1)]) (st' := [.inl q36.1]) rfl rfl (f_X6_count_ok e39) ?_
        refine xq_ite h (fun c40 h => ?_) (fun c40 h => ?_)
        · refine xq_core (pc' := 60) (ls' := [(3, .inr (.inl q7)), (2, .inl q1.1), (0, .inr (.inr (7, 5, 0))), (1, .inl a1)]) (st' := []) rfl (if_pos c40) ?_
          refine xq_blk 2 (pc' := 65) (ls' := [(3, .inr (.inl q7)), (2, .inl q1.1), (0, .inr (.inr (7, 5, 0))), (1, .inl a1)]) (st' := [.inl (1 : Int32)]) (M' := q36.2) rfl ?_
          exact xq_sub (a := [(0, .inr (.inr (7, 5, 0))), (1, .inl a1), (2, .inl q1.1), (3, .inr (.inl q7))]) ⟨rfl, rfl, rfl, rfl, trivial⟩ rfl (f_L_waits_j65_ok h hr)
        · refine xq_core (pc' := 64) (ls' := [(3, .inr (.inl q7)), (2, .inl q1.1), (0, .inr (.inr (7, 5, 0))), (1, .inl a1)]) (st' := []) rfl (if_neg c40) ?_
          exact xq_sub (a := [(0, .inr (.inr (7, 5, 0))), (1, .inl a1), (2, .inl q1.1), (3, .inr (.inl q7))]) ⟨rfl, rfl, rfl, rfl, trivial⟩ rfl (f_L_waits_j64_ok h hr)
    · refine xq_core (pc' := 64) (ls' := [(3, .inr (.inl q7)), (2, .inl q1.1), (0, .inr (.inr (7, 5, 0))), (1, .inl a1)]) (st' := []) rfl (if_neg c42) ?_
      exact xq_sub (a := [(0, .inr (.inr (7, 5, 0))), (1, .inl a1), (2, .inl q1.1), (3, .inr (.inl q7))]) ⟨rfl, rfl, rfl, rfl, trivial⟩ rfl (f_L_waits_j64_ok h hr)
theorem f_L_waits_ok {X : List Int32} {a1 : Int32} {M : xM} {p : Int32 × xM} (h : f_L_waits a1 M = some p) : xq X xe 105 0 [(0, .inr (.inr (7, 5, 0))), (1, .inl a1)] [] M ((some (.inl p.1), p.2) : xR) := f_L_waits_run h (fun q e => by rw [e])
def f_L_asks_j184_62 (k62v1 : Int32) (k62v2 : Int32) (k62v3 : Int32) (k62v4 : Int32) (k62v5 : Int64) (v8 : Int32) (M : xM) : Option ((Int32 × Int32 × xM) ⊕ (Int32 × xM)) := (f_X6_undo M).bind (fun q10 => if q10.1 < (0 : Int32) then (some (.inl ((0 : Int32), v8 + (1 : Int32), q10.2))) else ((f_L_print q10.2).bind (fun q12 => if (lg_cmp q12 k62v5) = (0 : Int32) then (some (.inl ((1 : Int32), v8 + (1 : Int32), q10.2))) else (some (.inl ((0 : Int32), v8 + (1 : Int32), q10.2))))))
theorem f_L_asks_j184_62_ok {X : List Int32} {k62v1 : Int32} {k62v2 : Int32} {k62v3 : Int32} {k62v4 : Int32} {k62v5 : Int64} {v8 : Int32} {M : xM} {p : (Int32 × Int32 × xM) ⊕ (Int32 × xM)} {r : xR} (h : f_L_asks_j184_62 k62v1 k62v2 k62v3 k62v4 k62v5 v8 M = some p) (h0 : ∀ s', p = .inl s' → xq X xe 106 62 [(0, .inr (.inr (7, 5, 0))), (1, .inl k62v1), (2, .inl k62v2), (3, .inl k62v3), (4, .inl k62v4), (5, .inr (.inl k62v5)), (7, .inl s'.1), (8, .inl s'.2.1)] [] s'.2.2 r) (hr : ∀ q, p = .inr (q) → ((some (.inl q.1), q.2) : xR) = r) : xq X xe 106 184 [(0, .inr (.inr (7, 5, 0))), (1, .inl k62v1), (2, .inl k62v2), (3, .inl k62v3), (4, .inl k62v4), (5, .inr (.inl k62v5)), (8, .inl v8)] [] M r := by
  unfold f_L_asks_j184_62 at h
  refine xq_blk 1 (pc' := 185) (ls' := [(0, .inr (.inr (7, 5, 0))), (1, .inl k62v1), (2, .inl k62v2), (3, .inl k62v3), (4, .inl k62v4), (5, .inr (.inl k62v5)), (8, .inl v8)]) (st' := [.inr (.inr (7, 5, 0))]) (M' := M) rfl ?_
  refine xq_bind h (fun q10 e11 h => ?_)
  refine xq_call (j := 95) (as := [.inr (.inr (7, 5, 0))]) (pc' := 188) (ls' := [(0, .inr (.inr (7, 5, 0))), (1, .inl k62v1), (2, .inl k62v2), (3, .inl k62v3), (4, .inl k62v4), (5, .inr (.inl k62v5)), (8, .inl v8)]) (st' := []) rfl rfl (f_X6_undo_ok e11) ?_
  refine xq_ite h (fun c15 h => ?_) (fun c15 h => ?_)
  · refine xq_core (pc' := 205) (ls' := [(0, .inr (.inr (7, 5, 0))), (1, .inl k62v1), (2, .inl k62v2), (3, .inl k62v3), (4, .inl k62v4), (5, .inr (.inl k62v5)), (8, .inl v8)]) (st' := []) rfl (if_pos c15) ?_
    refine xq_blk 4 (pc' := 62) (ls' := [(8, .inl (v8 + (1 : Int32))), (7, .inl (0 : Int32)), (0, .inr (.inr (7, 5, 0))), (1, .inl k62v1), (2, .inl k62v2), (3, .inl k62v3), (4, .inl k62v4), (5, .inr (.inl k62v5))]) (st' := []) (M' := q10.2) rfl ?_
    exact xq_sub (a := [(0, .inr (.inr (7, 5, 0))), (1, .inl k62v1), (2, .inl k62v2), (3, .inl k62v3), (4, .inl k62v4), (5, .inr (.inl k62v5)), (7, .inl (((0 : Int32), v8 + (1 : Int32), q10.2).1)), (8, .inl (((0 : Int32), v8 + (1 : Int32), q10.2).2.1))]) ⟨rfl, rfl, rfl, rfl, rfl, rfl, rfl, rfl, trivial⟩ rfl (h0 ((0 : Int32), v8 + (1 : Int32), q10.2) (Option.some.inj h).symm)
  · refine xq_core (pc' := 191) (ls' := [(0, .inr (.inr (7, 5, 0))), (1, .inl k62v1), (2, .inl k62v2), (3, .inl k62v3), (4, .inl k62v4), (5, .inr (.inl k62v5)), (8, .inl v8)]) (st' := []) rfl (if_neg c15) ?_
    refine xq_blk 1 (pc' := 192) (ls' := [(0, .inr (.inr (7, 5, 0))), (1, .inl k62v1), (2, .inl k62v2), (3, .inl k62v3), (4, .inl k62v4), (5, .inr (.inl k62v5)), (8, .inl v8)]) (st' := [.inr (.inr (7, 5, 0))]) (M' := q10.2) rfl ?_
    refine xq_bind h (fun q12 e13 h => ?_)
    refine xq_call (j := 104) (as := [.inr (.inr (7, 5, 0))]) (pc' := 195) (ls' := [(0, .inr (.inr (7, 5, 0))), (1, .inl k62v1), (2, .inl k62v2), (3, .inl k62v3), (4, .inl k62v4), (5, .inr (.inl k62v5)), (8, .inl v8)]) (st' := []) rfl rfl (f_L_print_ok e13) ?_
    refine xq_blk 2 (pc' := 198) (ls' := [(0, .inr (.inr (7, 5, 0))), (1, .inl k62v1), (2, .inl k62v2), (3, .inl k62v3), (4, .inl k62v4), (5, .inr (.inl k62v5)), (8, .inl v8)]) (st' := [.inl (lg_cmp q12 k62v5)]) (M' := q10.2) rfl ?_
    refine xq_ite h (fun c14 h => ?_) (fun c14 h => ?_)
    · refine xq_core (pc' := 201) (ls' := [(0, .inr (.inr (7, 5, 0))), (1, .inl k62v1), (2, .inl k62v2), (3, .inl k62v3), (4, .inl k62v4), (5, .inr (.inl k62v5)), (8, .inl v8)]) (st' := []) rfl (if_pos c14) ?_
      refine xq_blk 5 (pc' := 62) (ls' := [(8, .inl (v8 + (1 : Int32))), (7, .inl (1 : Int32)), (0, .inr (.inr (7, 5, 0))), (1, .inl k62v1), (2, .inl k62v2), (3, .inl k62v3), (4, .inl k62v4), (5, .inr (.inl k62v5))]) (st' := []) (M' := q10.2) rfl ?_
      exact xq_sub (a := [(0, .inr (.inr (7, 5, 0))), (1, .inl k62v1), (2, .inl k62v2), (3, .inl k62v3), (4, .inl k62v4), (5, .inr (.inl k62v5)), (7, .inl (((1 : Int32), v8 + (1 : Int32), q10.2).1)), (8, .inl (((1 : Int32), v8 + (1 : Int32), q10.2).2.1))]) ⟨rfl, rfl, rfl, rfl, rfl, rfl, rfl, rfl, trivial⟩ rfl (h0 ((1 : Int32), v8 + (1 : Int32), q10.2) (Option.some.inj h).symm)
    · refine xq_core (pc' := 205) (ls' := [(0, .inr (.inr (7, 5, 0))), (1, .inl k62v1), (2, .inl k62v2), (3, .inl k62v3), (4, .inl k62v4), (5, .inr (.inl k62v5)), (8, .inl v8)]) (st' := []) rfl (if_neg c14) ?_
      refine xq_blk 4 (pc' := 62) (ls' := [(8, .inl (v8 + (1 : Int32))), (7, .inl (0 : Int32)), (0, .inr (.inr (7, 5, 0))), (1, .inl k62v1), (2, .inl k62v2), (3, .inl k62v3), (4, .inl k62v4), (5, .inr (.inl k62v5))]) (st' := []) (M' := q10.2) rfl ?_
      exact xq_sub (a := [(0, .inr (.inr (7, 5, 0))), (1, .inl k62v1), (2, .inl k62v2), (3, .inl k62v3), (4, .inl k62v4), (5, .inr (.inl k62v5)), (7, .inl (((0 : Int32), v8 + (1 : Int32), q10.2).1)), (8, .inl (((0 : Int32), v8 + (1 : Int32), q10.2).2.1))]) ⟨rfl, rfl, rfl, rfl, rfl, rfl, rfl, rfl, trivial⟩ rfl (h0 ((0 : Int32), v8 + (1 : Int32), q10.2) (Option.some.inj h).symm)
def f_L_asks_j150_62 (k62v1 : Int32) (k62v2 : Int32) (k62v3 : Int32) (k62v4 : Int32) (k62v5 : Int64) (v8 : Int32) (v9 : Int32) (M : xM) : Option ((Int32 × Int32 × xM) ⊕ (Int32 × xM)) := if (0 : Int32) < v9 then (f_L_asks_j184_62 k62v1 k62v2 k62v3 k62v4 k62v5 v8 M) else ((f_X6_person k62v1 (0 : Int32) M).bind (fun q16 => if q16 = v8 then ((f_X6_person k62v1 (1 : Int32) M).bind (fun q18 => (f_X6_count (4 : Int32) M).bind (fun q20 => if q18 = ((q20 + k62v2) - (1 : Int32)) then (f_L_asks_j184_62 k62v1 k62v2 k62v3 k62v4 k62v5 v8 M) else (some (.inl ((0 : Int32), v8 + (1 : Int32), M)))))) else (some (.inl ((0 : Int32), v8 + (1 : Int32), M)))))
theorem f_L_asks_j150_62_ok {X : List Int32} {k62v1 : Int32} {k62v2 : Int32} {k62v3 : Int32} {k62v4 : Int32} {k62v5 : Int64} {v8 : Int32} {v9 : Int32} {M : xM} {p : (Int32 × Int32 × xM) ⊕ (Int32 × xM)} {r : xR} (h : f_L_asks_j150_62 k62v1 k62v2 k62v3 k62v4 k62v5 v8 v9 M = some p) (h0 : ∀ s', p = .inl s' → xq X xe 106 62 [(0, .inr (.inr (7, 5, 0))), (1, .inl k62v1), (2, .inl k62v2), (3, .inl k62v3), (4, .inl k62v4), (5, .inr (.inl k62v5)), (7, .inl s'.1), (8, .inl s'.2.1)] [] s'.2.2 r) (hr : ∀ q, p = .inr (q) → ((some (.inl q.1), q.2) : xR) = r) : xq X xe 106 150 [(0, .inr (.inr (7, 5, 0))), (1, .inl k62v1), (2, .inl k62v2), (3, .inl k62v3), (4, .inl k62v4), (5, .inr (.inl k62v5)), (8, .inl v8), (9, .inl v9)] [] M r := by
  unfold f_L_asks_j150_62 at h
  refine xq_blk 1 (pc' := 152) (ls' := [(0, .inr (.inr (7, 5, 0))), (1, .inl k62v1), (2, .inl k62v2), (3, .inl k62v3), (4, .inl k62v4), (5, .inr (.inl k62v5)), (8, .inl v8), (9, .inl v9)]) (st' := [.inl v9]) (M' := M) rfl ?_
  refine xq_ite h (fun c24 h => ?_) (fun c24 h => ?_)
  · refine xq_core (pc' := 184) (ls' := [(0, .inr (.inr (7, 5, 0))), (1, .inl k62v1), (2, .inl k62v2), (3, .inl k62v3), (4, .inl k62v4), (5, .inr (.inl k62v5)), (8, .inl v8), (9, .inl v9)]) (st' := []) rfl (if_pos c24) ?_
    exact xq_sub (a := [(0, .inr (.inr (7, 5, 0))), (1, .inl k62v1), (2, .inl k62v2), (3, .inl k62v3), (4, .inl k62v4), (5, .inr (.inl k62v5)), (8, .inl v8)]) ⟨rfl, rfl, rfl, rfl, rfl, rfl, rfl, trivial⟩ rfl (f_L_asks_j184_62_ok h h0 hr)
  · refine xq_core (pc' := 155) (ls' := [(0, .inr (.inr (7, 5, 0))), (1, .inl k62v1), (2, .inl k62v2), (3, .inl k62v3), (4, .inl k62v4), (5, .inr (.inl k62v5)), (8, .inl v8), (9, .inl v9)]) (st' := []) rfl (if_neg c24) ?_
    refine xq_blk 3 (pc' := 158) (ls' := [(0, .inr (.inr (7, 5, 0))), (1, .inl k62v1), (2, .inl k62v2), (3, .inl k62v3), (4, .inl k62v4), (5, .inr (.inl k62v5)), (8, .inl v8), (9, .inl v9)]) (st' := [.inl (0 : Int32), .inl k62v1, .inr (.inr (7, 5, 0))]) (M' := M) rfl ?_
    refine xq_bind h (fun q16 e17 h => ?_)
    refine xq_call (j := 87) (as := [.inr (.inr (7, 5, 0)), .inl k62v1, .inl (0 : Int32)]) (pc' := 161) (ls' := [(0, .inr (.inr (7, 5, 0))), (1, .inl k62v1), (2, .inl k62v2), (3, .inl k62v3), (4, .inl k62v4), (5, .inr (.inl k62v5)), (8, .inl v8), (9, .inl v9)]) (st' := []) rfl rfl (f_X6_person_ok e17) ?_
    refine xq_blk 1 (pc' := 163) (ls' := [(0, .inr (.inr (7, 5, 0))), (1, .inl k62v1), (2, .inl k62v2), (3, .inl k62v3), (4, .inl k62v4), (5, .inr (.inl k62v5)), (8, .inl v8), (9, .inl v9)]) (st' := [.inl v8, .inl q16]) (M' := M) rfl ?_
    refine xq_ite h (fun c23 h => ?_) (fun c23 h => ?_)
    · refine xq_core (pc' := 166) (ls' := [(0, .inr (.inr (7, 5, 0))), (1, .inl k62v1), (2, .inl k62v2), (3, .inl k62v3), (4, .inl k62v4), (5, .inr (.inl k62v5)), (8, .inl v8), (9, .inl v9)]) (st' := []) rfl (if_pos c23) ?_
      refine xq_blk 3 (pc' := 169) (ls' := [(0, .inr (.inr (7, 5, 0))), (1, .inl k62v1), (2, .inl k62v2), (3, .inl k62v3), (4, .inl k62v4), (5, .inr (.inl k62v5)), (8, .inl v8), (9, .inl v9)]) (st' := [.inl (1 : Int32), .inl k62v1, .inr (.inr (7, 5, 0))]) (M' := M) rfl ?_
      refine xq_bind h (fun q18 e19 h => ?_)
      refine xq_call (j := 87) (as := [.inr (.inr (7, 5, 0)), .inl k62v1, .inl (1 : Int32)]) (pc' := 172) (ls' := [(0, .inr (.inr (7, 5, 0))), (1, .inl k62v1), (2, .inl k62v2), (3, .inl k62v3), (4, .inl k62v4), (5, .inr (.inl k62v5)), (8, .inl v8), (9, .inl v9)]) (st' := []) rfl rfl (f_X6_person_ok e19) ?_
      refine xq_blk 2 (pc' := 174) (ls' := [(0, .inr (.inr (7, 5, 0))), (1, .inl k62v1), (2, .inl k62v2), (3, .inl k62v3), (4, .inl k62v4), (5, .inr (.inl k62v5)), (8, .inl v8), (9, .inl v9)]) (st' := [.inl (4 : Int32), .inr (.inr (7, 5, 0)), .inl q18]) (M' := M) rfl ?_
      refine xq_bind h (fun q20 e21 h => ?_)
      refine xq_call (j := 90) (as := [.inr (.inr (7, 5, 0)), .inl (4 : Int32)]) (pc' := 177) (ls' := [(0, .inr (.inr (7, 5, 0))), (1, .inl k62v1), (2, .inl k62v2), (3, .inl k62v3), (4, .inl k62v4), (5, .inr (.inl k62v5)), (8, .inl v8), (9, .inl v9)]) (st' := [.inl q18]) rfl rfl (f_X6_count_ok e21) ?_
      refine xq_blk 4 (pc' := 181) (ls' := [(0, .inr (.inr (7, 5, 0))), (1, .inl k62v1), (2, .inl k62v2), (3, .inl k62v3), (4, .inl k62v4), (5, .inr (.inl k62v5)), (8, .inl v8), (9, .inl v9)]) (st' := [.inl ((q20 + k62v2) - (1 : Int32)), .inl q18]) (M' := M) rfl ?_
      refine xq_ite h (fun c22 h => ?_) (fun c22 h => ?_)
      · refine xq_core (pc' := 184) (ls' := [(0, .inr (.inr (7, 5, 0))), (1, .inl k62v1), (2, .inl k62v2), (3, .inl k62v3), (4, .inl k62v4), (5, .inr (.inl k62v5)), (8, .inl v8), (9, .inl v9)]) (st' := []) rfl (if_pos c22) ?_
        exact xq_sub (a := [(0, .inr (.inr (7, 5, 0))), (1, .inl k62v1), (2, .inl k62v2), (3, .inl k62v3), (4, .inl k62v4), (5, .inr (.inl k62v5)), (8, .inl v8)]) ⟨rfl, rfl, rfl, rfl, rfl, rfl, rfl, trivial⟩ rfl (f_L_asks_j184_62_ok h h0 hr)
      · refine xq_core (pc' := 205) (ls' := [(0, .inr (.inr (7, 5, 0))), (1, .inl k62v1), (2, .inl k62v2), (3, .inl k62v3), (4, .inl k62v4), (5, .inr (.inl k62v5)), (8, .inl v8), (9, .inl v9)]) (st' := []) rfl (if_neg c22) ?_
        refine xq_blk 4 (pc' := 62) (ls' := [(8, .inl (v8 + (1 : Int32))), (7, .inl (0 : Int32)), (0, .inr (.inr (7, 5, 0))), (1, .inl k62v1), (2, .inl k62v2), (3, .inl k62v3), (4, .inl k62v4), (5, .inr (.inl k62v5)), (9, .inl v9)]) (st' := []) (M' := M) rfl ?_
        exact xq_sub (a := [(0, .inr (.inr (7, 5, 0))), (1, .inl k62v1), (2, .inl k62v2), (3, .inl k62v3), (4, .inl k62v4), (5, .inr (.inl k62v5)), (7, .inl (((0 : Int32), v8 + (1 : Int32), M).1)), (8, .inl (((0 : Int32), v8 + (1 : Int32), M).2.1))]) ⟨rfl, rfl, rfl, rfl, rfl, rfl, rfl, rfl, trivial⟩ rfl (h0 ((0 : Int32), v8 + (1 : Int32), M) (Option.some.inj h).symm)
    · refine xq_core (pc' := 205) (ls' := [(0, .inr (.inr (7, 5, 0))), (1, .inl k62v1), (2, .inl k62v2), (3, .inl k62v3), (4, .inl k62v4), (5, .inr (.inl k62v5)), (8, .inl v8), (9, .inl v9)]) (st' := []) rfl (if_neg c23) ?_
      refine xq_blk 4 (pc' := 62) (ls' := [(8, .inl (v8 + (1 : Int32))), (7, .inl (0 : Int32)), (0, .inr (.inr (7, 5, 0))), (1, .inl k62v1), (2, .inl k62v2), (3, .inl k62v3), (4, .inl k62v4), (5, .inr (.inl k62v5)), (9, .inl v9)]) (st' := []) (M' := M) rfl ?_
      exact xq_sub (a := [(0, .inr (.inr (7, 5, 0))), (1, .inl k62v1), (2, .inl k62v2), (3, .inl k62v3), (4, .inl k62v4), (5, .inr (.inl k62v5)), (7, .inl (((0 : Int32), v8 + (1 : Int32), M).1)), (8, .inl (((0 : Int32), v8 + (1 : Int32), M).2.1))]) ⟨rfl, rfl, rfl, rfl, rfl, rfl, rfl, rfl, trivial⟩ rfl (h0 ((0 : Int32), v8 + (1 : Int32), M) (Option.some.inj h).symm)
def f_L_asks_j97_62 (k62v1 : Int32) (k62v2 : Int32) (k62v3 : Int32) (k62v4 : Int32) (k62v5 : Int64) (v8 : Int32) (v9 : Int32) (t0 : Int32) (M : xM) : Option ((Int32 × Int32 × xM) ⊕ (Int32 × xM)) := if v9 < (0 : Int32) then (some (.inl ((0 : Int32), v8 + (1 : Int32), M))) else (if v8 = k62v3 then (if t0 = k62v4 then (f_L_asks_j150_62 k62v1 k62v2 k62v3 k62v4 k62v5 v8 v9 M) else (some (.inl ((0 : Int32), v8 + (1 : Int32), M)))) else (if t0 = (-6 : Int32) then (f_L_asks_j150_62 k62v1 k62v2 k62v3 k62v4 k62v5 v8 v9 M) else (if v8 < k62v3 then (if k62v4 < t0 then (f_L_asks_j150_62 k62v1 k62v2 k62v3 k62v4 k62v5 v8 v9 M) else (some (.inl ((0 : Int32), v8 + (1 : Int32), M)))) else (if t0 < k62v4 then (some (.inl ((0 : Int32), v8 + (1 : Int32), M))) else (f_L_asks_j150_62 k62v1 k62v2 k62v3 k62v4 k62v5 v8 v9 M)))))
theorem f_L_asks_j97_62_ok {X : List Int32} {k62v1 : Int32} {k62v2 : Int32} {k62v3 : Int32} {k62v4 : Int32} {k62v5 : Int64} {v8 : Int32} {v9 : Int32} {t0 : Int32} {M : xM} {p : (Int32 × Int32 × xM) ⊕ (Int32 × xM)} {r : xR} (h : f_L_asks_j97_62 k62v1 k62v2 k62v3 k62v4 k62v5 v8 v9 t0 M = some p) (h0 : ∀ s', p = .inl s' → xq X xe 106 62 [(0, .inr (.inr (7, 5, 0))), (1, .inl k62v1), (2, .inl k62v2), (3, .inl k62v3), (4, .inl k62v4), (5, .inr (.inl k62v5)), (7, .inl s'.1), (8, .inl s'.2.1)] [] s'.2.2 r) (hr : ∀ q, p = .inr (q) → ((some (.inl q.1), q.2) : xR) = r) : xq X xe 106 97 [(0, .inr (.inr (7, 5, 0))), (1, .inl k62v1), (2, .inl k62v2), (3, .inl k62v3), (4, .inl k62v4), (5, .inr (.inl k62v5)), (8, .inl v8), (9, .inl v9)] [.inl t0] M r := by
  unfold f_L_asks_j97_62 at h
  refine xq_blk 2 (pc' := 101) (ls' := [(10, .inl t0), (0, .inr (.inr (7, 5, 0))), (1, .inl k62v1), (2, .inl k62v2), (3, .inl k62v3), (4, .inl k62v4), (5, .inr (.inl k62v5)), (8, .inl v8), (9, .inl v9)]) (st' := [.inl v9]) (M' := M) rfl ?_
  refine xq_ite h (fun c31 h => ?_) (fun c31 h => ?_)
  · refine xq_core (pc' := 205) (ls' := [(10, .inl t0), (0, .inr (.inr (7, 5, 0))), (1, .inl k62v1), (2, .inl k62v2), (3, .inl k62v3), (4, .inl k62v4), (5, .inr (.inl k62v5)), (8, .inl v8), (9, .inl v9)]) (st' := []) rfl (if_pos c31) ?_
    refine xq_blk 4 (pc' := 62) (ls' := [(8, .inl (v8 + (1 : Int32))), (7, .inl (0 : Int32)), (10, .inl t0), (0, .inr (.inr (7, 5, 0))), (1, .inl k62v1), (2, .inl k62v2), (3, .inl k62v3), (4, .inl k62v4), (5, .inr (.inl k62v5)), (9, .inl v9)]) (st' := []) (M' := M) rfl ?_
    exact xq_sub (a := [(0, .inr (.inr (7, 5, 0))), (1, .inl k62v1), (2, .inl k62v2), (3, .inl k62v3), (4, .inl k62v4), (5, .inr (.inl k62v5)), (7, .inl (((0 : Int32), v8 + (1 : Int32), M).1)), (8, .inl (((0 : Int32), v8 + (1 : Int32), M).2.1))]) ⟨rfl, rfl, rfl, rfl, rfl, rfl, rfl, rfl, trivial⟩ rfl (h0 ((0 : Int32), v8 + (1 : Int32), M) (Option.some.inj h).symm)
  · refine xq_core (pc' := 104) (ls' := [(10, .inl t0), (0, .inr (.inr (7, 5, 0))), (1, .inl k62v1), (2, .inl k62v2), (3, .inl k62v3), (4, .inl k62v4), (5, .inr (.inl k62v5)), (8, .inl v8), (9, .inl v9)]) (st' := []) rfl (if_neg c31) ?_
    refine xq_blk 2 (pc' := 107) (ls' := [(10, .inl t0), (0, .inr (.inr (7, 5, 0))), (1, .inl k62v1), (2, .inl k62v2), (3, .inl k62v3), (4, .inl k62v4), (5, .inr (.inl k62v5)), (8, .inl v8), (9, .inl v9)]) (st' := [.inl k62v3, .inl v8]) (M' := M) rfl ?_
    refine xq_ite h (fun c30 h => ?_) (fun c30 h => ?_)
    · refine xq_core (pc' := 110) (ls' := [(10, .inl t0), (0, .inr (.inr (7, 5, 0))), (1, .inl k62v1), (2, .inl k62v2), (3, .inl k62v3), (4, .inl k62v4), (5, .inr (.inl k62v5)), (8, .inl v8), (9, .inl v9)]) (st' := []) rfl (if_pos c30) ?_
      refine xq_blk 2 (pc' := 114) (ls' := [(10, .inl t0), (0, .inr (.inr (7, 5, 0))), (1, .inl k62v1), (2, .inl k62v2), (3, .inl k62v3), (4, .inl k62v4), (5, .inr (.inl k62v5)), (8, .inl v8), (9, .inl v9)]) (st' := [.inl k62v4, .inl t0]) (M' := M) rfl ?_
      refine xq_ite h (fun c25 h => ?_) (fun c25 h => ?_)
      · refine xq_core (pc' := 117) (ls' := [(10, .inl t0), (0, .inr (.inr (7, 5, 0))), (1, .inl k62v1), (2, .inl k62v2), (3, .inl k62v3), (4, .inl k62v4), (5, .inr (.inl k62v5)), (8, .inl v8), (9, .inl v9)]) (st' := []) rfl (if_pos c25) ?_
        refine xq_blk 1 (pc' := 150) (ls' := [(10, .inl t0), (0, .inr (.inr (7, 5, 0))), (1, .inl k62v1), (2, .inl k62v2), (3, .inl k62v3), (4, .inl k62v4), (5, .inr (.inl k62v5)), (8, .inl v8), (9, .inl v9)]) (st' := []) (M' := M) rfl ?_
        exact xq_sub (a := [(0, .inr (.inr (7, 5, 0))), (1, .inl k62v1), (2, .inl k62v2), (3, .inl k62v3), (4, .inl k62v4), (5, .inr (.inl k62v5)), (8, .inl v8), (9, .inl v9)]) ⟨rfl, rfl, rfl, rfl, rfl, rfl, rfl, rfl, trivial⟩ rfl (f_L_asks_j150_62_ok h h0 hr)
      · refine xq_core (pc' := 205) (ls' := [(10, .inl t0), (0, .inr (.inr (7, 5, 0))), (1, .inl k62v1), (2, .inl k62v2), (3, .inl k62v3), (4, .inl k62v4), (5, .inr (.inl k62v5)), (8, .inl v8), (9, .inl v9)]) (st' := []) rfl (if_neg c25) ?_
        refine xq_blk 4 (pc' := 62) (ls' := [(8, .inl (v8 + (1 : Int32))), (7, .inl (0 : Int32)), (10, .inl t0), (0, .inr (.inr (7, 5, 0))), (1, .inl k62v1), (2, .inl k62v2), (3, .inl k62v3), (4, .inl k62v4), (5, .inr (.inl k62v5)), (9, .inl v9)]) (st' := []) (M' := M) rfl ?_
        exact xq_sub (a := [(0, .inr (.inr (7, 5, 0))), (1, .inl k62v1), (2, .inl k62v2), (3, .inl k62v3), (4, .inl k62v4), (5, .inr (.inl k62v5)), (7, .inl (((0 : Int32), v8 + (1 : Int32), M).1)), (8, .inl (((0 : Int32), v8 + (1 : Int32), M).2.1))]) ⟨rfl, rfl, rfl, rfl, rfl, rfl, rfl, rfl, trivial⟩ rfl (h0 ((0 : Int32), v8 + (1 : Int32), M) (Option.some.inj h).symm)
    · refine xq_core (pc' := 120) (ls' := [(10, .inl t0), (0, .inr (.inr (7, 5, 0))), (1, .inl k62v1), (2, .inl k62v2), (3, .inl k62v3), (4, .inl k62v4), (5, .inr (.inl k62v5)), (8, .inl v8), (9, .inl v9)]) (st' := []) rfl (if_neg c30) ?_
      refine xq_blk 2 (pc' := 124) (ls' := [(10, .inl t0), (0, .inr (.inr (7, 5, 0))), (1, .inl k62v1), (2, .inl k62v2), (3, .inl k62v3), (4, .inl k62v4), (5, .inr (.inl k62v5)), (8, .inl v8), (9, .inl v9)]) (st' := [.inl (-6 : Int32), .inl t0]) (M' := M) rfl ?_
      refine xq_ite h (fun c29 h => ?_) (fun c29 h => ?_)
      · refine xq_core (pc' := 150) (ls' := [(10, .inl t0), (0, .inr (.inr (7, 5, 0))), (1, .inl k62v1), (2, .inl k62v2), (3, .inl k62v3), (4, .inl k62v4), (5, .inr (.inl k62v5)), (8, .inl v8), (9, .inl v9)]) (st' := []) rfl (if_pos c29) ?_
        exact xq_sub (a := [(0, .inr (.inr (7, 5, 0))), (1, .inl k62v1), (2, .inl k62v2), (3, .inl k62v3), (4, .inl k62v4), (5, .inr (.inl k62v5)), (8, .inl v8), (9, .inl v9)]) ⟨rfl, rfl, rfl, rfl, rfl, rfl, rfl, rfl, trivial⟩ rfl (f_L_asks_j150_62_ok h h0 hr)
      · refine xq_core (pc' := 127) (ls' := [(10, .inl t0), (0, .inr (.inr (7, 5, 0))), (1, .inl k62v1), (2, .inl k62v2), (3, .inl k62v3), (4, .inl k62v4), (5, .inr (.inl k62v5)), (8, .inl v8), (9, .inl v9)]) (st' := []) rfl (if_neg c29) ?_
        refine xq_blk 2 (pc' := 130) (ls' := [(10, .inl t0), (0, .inr (.inr (7, 5, 0))), (1, .inl k62v1), (2, .inl k62v2), (3, .inl k62v3), (4, .inl k62v4), (5, .inr (.inl k62v5)), (8, .inl v8), (9, .inl v9)]) (st' := [.inl k62v3, .inl v8]) (M' := M) rfl ?_
        refine xq_ite h (fun c28 h => ?_) (fun c28 h => ?_)
        · refine xq_core (pc' := 133) (ls' := [(10, .inl t0), (0, .inr (.inr (7, 5, 0))), (1, .inl k62v1), (2, .inl k62v2), (3, .inl k62v3), (4, .inl k62v4), (5, .inr (.inl k62v5)), (8, .inl v8), (9, .inl v9)]) (st' := []) rfl (if_pos c28) ?_
          refine xq_blk 2 (pc' := 137) (ls' := [(10, .inl t0), (0, .inr (.inr (7, 5, 0))), (1, .inl k62v1), (2, .inl k62v2), (3, .inl k62v3), (4, .inl k62v4), (5, .inr (.inl k62v5)), (8, .inl v8), (9, .inl v9)]) (st' := [.inl k62v4, .inl t0]) (M' := M) rfl ?_
          refine xq_ite h (fun c26 h => ?_) (fun c26 h => ?_)
          · refine xq_core (pc' := 140) (ls' := [(10, .inl t0), (0, .inr (.inr (7, 5, 0))), (1, .inl k62v1), (2, .inl k62v2), (3, .inl k62v3), (4, .inl k62v4), (5, .inr (.inl k62v5)), (8, .inl v8), (9, .inl v9)]) (st' := []) rfl (if_pos c26) ?_
            refine xq_blk 1 (pc' := 150) (ls' := [(10, .inl t0), (0, .inr (.inr (7, 5, 0))), (1, .inl k62v1), (2, .inl k62v2), (3, .inl k62v3), (4, .inl k62v4), (5, .inr (.inl k62v5)), (8, .inl v8), (9, .inl v9)]) (st' := []) (M' := M) rfl ?_
            exact xq_sub (a := [(0, .inr (.inr (7, 5, 0))), (1, .inl k62v1), (2, .inl k62v2), (3, .inl k62v3), (4, .inl k62v4), (5, .inr (.inl k62v5)), (8, .inl v8), (9, .inl v9)]) ⟨rfl, rfl, rfl, rfl, rfl, rfl, rfl, rfl, trivial⟩ rfl (f_L_asks_j150_62_ok h h0 hr)
          · refine xq_core (pc' := 205) (ls' := [(10, .inl t0), (0, .inr (.inr (7, 5, 0))), (1, .inl k62v1), (2, .inl k62v2), (3, .inl k62v3), (4, .inl k62v4), (5, .inr (.inl k62v5)), (8, .inl v8), (9, .inl v9)]) (st' := []) rfl (if_neg c26) ?_
            refine xq_blk 4 (pc' := 62) (ls' := [(8, .inl (v8 + (1 : Int32))), (7, .inl (0 : Int32)), (10, .inl t0), (0, .inr (.inr (7, 5, 0))), (1, .inl k62v1), (2, .inl k62v2), (3, .inl k62v3), (4, .inl k62v4), (5, .inr (.inl k62v5)), (9, .inl v9)]) (st' := []) (M' := M) rfl ?_
            exact xq_sub (a := [(0, .inr (.inr (7, 5, 0))), (1, .inl k62v1), (2, .inl k62v2), (3, .inl k62v3), (4, .inl k62v4), (5, .inr (.inl k62v5)), (7, .inl (((0 : Int32), v8 + (1 : Int32), M).1)), (8, .inl (((0 : Int32), v8 + (1 : Int32), M).2.1))]) ⟨rfl, rfl, rfl, rfl, rfl, rfl, rfl, rfl, trivial⟩ rfl (h0 ((0 : Int32), v8 + (1 : Int32), M) (Option.some.inj h).symm)
        · refine xq_core (pc' := 143) (ls' := [(10, .inl t0), (0, .inr (.inr (7, 5, 0))), (1, .inl k62v1), (2, .inl k62v2), (3, .inl k62v3), (4, .inl k62v4), (5, .inr (.inl k62v5)), (8, .inl v8), (9, .inl v9)]) (st' := []) rfl (if_neg c28) ?_
          refine xq_blk 2 (pc' := 147) (ls' := [(10, .inl t0), (0, .inr (.inr (7, 5, 0))), (1, .inl k62v1), (2, .inl k62v2), (3, .inl k62v3), (4, .inl k62v4), (5, .inr (.inl k62v5)), (8, .inl v8), (9, .inl v9)]) (st' := [.inl k62v4, .inl t0]) (M' := M) rfl ?_
          refine xq_ite h (fun c27 h => ?_) (fun c27 h => ?_)
          · refine xq_core (pc' := 205) (ls' := [(10, .inl t0), (0, .inr (.inr (7, 5, 0))), (1, .inl k62v1), (2, .inl k62v2), (3, .inl k62v3), (4, .inl k62v4), (5, .inr (.inl k62v5)), (8, .inl v8), (9, .inl v9)]) (st' := []) rfl (if_pos c27) ?_
            refine xq_blk 4 (pc' := 62) (ls' := [(8, .inl (v8 + (1 : Int32))), (7, .inl (0 : Int32)), (10, .inl t0), (0, .inr (.inr (7, 5, 0))), (1, .inl k62v1), (2, .inl k62v2), (3, .inl k62v3), (4, .inl k62v4), (5, .inr (.inl k62v5)), (9, .inl v9)]) (st' := []) (M' := M) rfl ?_
            exact xq_sub (a := [(0, .inr (.inr (7, 5, 0))), (1, .inl k62v1), (2, .inl k62v2), (3, .inl k62v3), (4, .inl k62v4), (5, .inr (.inl k62v5)), (7, .inl (((0 : Int32), v8 + (1 : Int32), M).1)), (8, .inl (((0 : Int32), v8 + (1 : Int32), M).2.1))]) ⟨rfl, rfl, rfl, rfl, rfl, rfl, rfl, rfl, trivial⟩ rfl (h0 ((0 : Int32), v8 + (1 : Int32), M) (Option.some.inj h).symm)
          · refine xq_core (pc' := 150) (ls' := [(10, .inl t0), (0, .inr (.inr (7, 5, 0))), (1, .inl k62v1), (2, .inl k62v2), (3, .inl k62v3), (4, .inl k62v4), (5, .inr (.inl k62v5)), (8, .inl v8), (9, .inl v9)]) (st' := []) rfl (if_neg c27) ?_
            exact xq_sub (a := [(0, .inr (.inr (7, 5, 0))), (1, .inl k62v1), (2, .inl k62v2), (3, .inl k62v3), (4, .inl k62v4), (5, .inr (.inl k62v5)), (8, .inl v8), (9, .inl v9)]) ⟨rfl, rfl, rfl, rfl, rfl, rfl, rfl, rfl, trivial⟩ rfl (f_L_asks_j150_62_ok h h0 hr)
def f_L_asks_l62 (k62v1 : Int32) (k62v2 : Int32) (k62v3 : Int32) (k62v4 : Int32) (k62v5 : Int64) (s62 : Int32 × Int32 × xM) : Option ((Int32 × Int32 × xM) ⊕ (Int32 × xM)) := if s62.2.1 < (3 : Int32) then (if s62.1 = (0 : Int32) then (Option.map Sum.inr (some ((vp_nar .boolean s62.1, s62.2.2)))) else ((f_X6_ask k62v1 s62.2.1 k62v2 s62.2.2).bind (fun q8 => if q8.1 = (0 : Int32) then (f_L_asks_j97_62 k62v1 k62v2 k62v3 k62v4 k62v5 s62.2.1 q8.1 (0 : Int32) q8.2) else ((f_X6_untilPermit k62v1 q8.2).bind (fun q32 => f_L_asks_j97_62 k62v1 k62v2 k62v3 k62v4 k62v5 s62.2.1 q8.1 q32.1 q32.2))))) else (Option.map Sum.inr (some ((vp_nar .boolean s62.1, s62.2.2))))
theorem f_L_asks_l62_ok {X : List Int32} {k62v1 : Int32} {k62v2 : Int32} {k62v3 : Int32} {k62v4 : Int32} {k62v5 : Int64} {s62 : Int32 × Int32 × xM} {p : (Int32 × Int32 × xM) ⊕ (Int32 × xM)} {r : xR} (h : f_L_asks_l62 k62v1 k62v2 k62v3 k62v4 k62v5 s62 = some p) (h0 : ∀ s', p = .inl s' → xq X xe 106 62 [(0, .inr (.inr (7, 5, 0))), (1, .inl k62v1), (2, .inl k62v2), (3, .inl k62v3), (4, .inl k62v4), (5, .inr (.inl k62v5)), (7, .inl s'.1), (8, .inl s'.2.1)] [] s'.2.2 r) (hr : ∀ q, p = .inr (q) → ((some (.inl q.1), q.2) : xR) = r) : xq X xe 106 62 [(0, .inr (.inr (7, 5, 0))), (1, .inl k62v1), (2, .inl k62v2), (3, .inl k62v3), (4, .inl k62v4), (5, .inr (.inl k62v5)), (7, .inl s62.1), (8, .inl s62.2.1)] [] s62.2.2 r := by
  unfold f_L_asks_l62 at h
  refine xq_blk 2 (pc' := 65) (ls' := [(0, .inr (.inr (7, 5, 0))), (1, .inl k62v1), (2, .inl k62v2), (3, .inl k62v3), (4, .inl k62v4), (5, .inr (.inl k62v5)), (7, .inl s62.1), (8, .inl s62.2.1)]) (st' := [.inl (3 : Int32), .inl s62.2.1]) (M' := s62.2.2) rfl ?_
  refine xq_ite h (fun c36 h => ?_) (fun c36 h => ?_)
  · refine xq_core (pc' := 68) (ls' := [(0, .inr (.inr (7, 5, 0))), (1, .inl k62v1), (2, .inl k62v2), (3, .inl k62v3), (4, .inl k62v4), (5, .inr (.inl k62v5)), (7, .inl s62.1), (8, .inl s62.2.1)]) (st' := []) rfl (if_pos c36) ?_
    refine xq_blk 1 (pc' := 70) (ls' := [(0, .inr (.inr (7, 5, 0))), (1, .inl k62v1), (2, .inl k62v2), (3, .inl k62v3), (4, .inl k62v4), (5, .inr (.inl k62v5)), (7, .inl s62.1), (8, .inl s62.2.1)]) (st' := [.inl s62.1]) (M' := s62.2.2) rfl ?_
    refine xq_ite h (fun c35 h => ?_) (fun c35 h => ?_)
    · refine xq_core (pc' := 214) (ls' := [(0, .inr (.inr (7, 5, 0))), (1, .inl k62v1), (2, .inl k62v2), (3, .inl k62v3), (4, .inl k62v4), (5, .inr (.inl k62v5)), (7, .inl s62.1), (8, .inl s62.2.1)]) (st' := []) rfl (if_pos c35) ?_
      refine xq_map h (fun p h e => ?_)
      replace hr := fun q e' => hr q (e.symm.trans (congrArg Sum.inr e'))
      clear e
      refine xq_blk 1 (pc' := 216) (ls' := [(0, .inr (.inr (7, 5, 0))), (1, .inl k62v1), (2, .inl k62v2), (3, .inl k62v3), (4, .inl k62v4), (5, .inr (.inl k62v5)), (7, .inl s62.1), (8, .inl s62.2.1)]) (st' := [.inl s62.1]) (M' := s62.2.2) rfl ?_
      exact (hr _ (Option.some.inj h).symm) ▸ xq_ret rfl
    · refine xq_core (pc' := 73) (ls' := [(0, .inr (.inr (7, 5, 0))), (1, .inl k62v1), (2, .inl k62v2), (3, .inl k62v3), (4, .inl k62v4), (5, .inr (.inl k62v5)), (7, .inl s62.1), (8, .inl s62.2.1)]) (st' := []) rfl (if_neg c35) ?_
      refine xq_blk 4 (pc' := 78) (ls' := [(0, .inr (.inr (7, 5, 0))), (1, .inl k62v1), (2, .inl k62v2), (3, .inl k62v3), (4, .inl k62v4), (5, .inr (.inl k62v5)), (7, .inl s62.1), (8, .inl s62.2.1)]) (st' := [.inl k62v2, .inl s62.2.1, .inl k62v1, .inr (.inr (7, 5, 0))]) (M' := s62.2.2) rfl ?_
      refine xq_bind h (fun q8 e9 h => ?_)
      refine xq_call (j := 77) (as := [.inr (.inr (7, 5, 0)), .inl k62v1, .inl s62.2.1, .inl k62v2]) (pc' := 81) (ls' := [(0, .inr (.inr (7, 5, 0))), (1, .inl k62v1), (2, .inl k62v2), (3, .inl k62v3), (4, .inl k62v4), (5, .inr (.inl k62v5)), (7, .inl s62.1), (8, .inl s62.2.1)]) (st' := []) rfl rfl (f_X6_ask_ok e9) ?_
      refine xq_blk 2 (pc' := 85) (ls' := [(9, .inl q8.1), (0, .inr (.inr (7, 5, 0))), (1, .inl k62v1), (2, .inl k62v2), (3, .inl k62v3), (4, .inl k62v4), (5, .inr (.inl k62v5)), (7, .inl s62.1), (8, .inl s62.2.1)]) (st' := [.inl q8.1]) (M' := q8.2) rfl ?_
      refine xq_ite h (fun c34 h => ?_) (fun c34 h => ?_)
      · refine xq_core (pc' := 88) (ls' := [(9, .inl q8.1), (0, .inr (.inr (7, 5, 0))), (1, .inl k62v1), (2, .inl k62v2), (3, .inl k62v3), (4, .inl k62v4), (5, .inr (.inl k62v5)), (7, .inl s62.1), (8, .inl s62.2.1)]) (st' := []) rfl (if_pos c34) ?_
        refine xq_blk 2 (pc' := 97) (ls' := [(9, .inl q8.1), (0, .inr (.inr (7, 5, 0))), (1, .inl k62v1), (2, .inl k62v2), (3, .inl k62v3), (4, .inl k62v4), (5, .inr (.inl k62v5)), (7, .inl s62.1), (8, .inl s62.2.1)]) (st' := [.inl (0 : Int32)]) (M' := q8.2) rfl ?_
        exact xq_sub (a := [(0, .inr (.inr (7, 5, 0))), (1, .inl k62v1), (2, .inl k62v2), (3, .inl k62v3), (4, .inl k62v4), (5, .inr (.inl k62v5)), (8, .inl s62.2.1), (9, .inl q8.1)]) ⟨rfl, rfl, rfl, rfl, rfl, rfl, rfl, rfl, trivial⟩ rfl (f_L_asks_j97_62_ok h h0 hr)
      · refine xq_core (pc' := 92) (ls' := [(9, .inl q8.1), (0, .inr (.inr (7, 5, 0))), (1, .inl k62v1), (2, .inl k62v2), (3, .inl k62v3), (4, .inl k62v4), (5, .inr (.inl k62v5)), (7, .inl s62.1), (8, .inl s62.2.1)]) (st' := []) rfl (if_neg c34) ?_
        refine xq_blk 2 (pc' := 94) (ls' := [(9, .inl q8.1), (0, .inr (.inr (7, 5, 0))), (1, .inl k62v1), (2, .inl k62v2), (3, .inl k62v3), (4, .inl k62v4), (5, .inr (.inl k62v5)), (7, .inl s62.1), (8, .inl s62.2.1)]) (st' := [.inl k62v1, .inr (.inr (7, 5, 0))]) (M' := q8.2) rfl ?_
        refine xq_bind h (fun q32 e33 h => ?_)
        refine xq_call (j := 91) (as := [.inr (.inr (7, 5, 0)), .inl k62v1]) (pc' := 97) (ls' := [(9, .inl q8.1), (0, .inr (.inr (7, 5, 0))), (1, .inl k62v1), (2, .inl k62v2), (3, .inl k62v3), (4, .inl k62v4), (5, .inr (.inl k62v5)), (7, .inl s62.1), (8, .inl s62.2.1)]) (st' := []) rfl rfl (f_X6_untilPermit_ok e33) ?_
        exact xq_sub (a := [(0, .inr (.inr (7, 5, 0))), (1, .inl k62v1), (2, .inl k62v2), (3, .inl k62v3), (4, .inl k62v4), (5, .inr (.inl k62v5)), (8, .inl s62.2.1), (9, .inl q8.1)]) ⟨rfl, rfl, rfl, rfl, rfl, rfl, rfl, rfl, trivial⟩ rfl (f_L_asks_j97_62_ok h h0 hr)
  · refine xq_core (pc' := 214) (ls' := [(0, .inr (.inr (7, 5, 0))), (1, .inl k62v1), (2, .inl k62v2), (3, .inl k62v3), (4, .inl k62v4), (5, .inr (.inl k62v5)), (7, .inl s62.1), (8, .inl s62.2.1)]) (st' := []) rfl (if_neg c36) ?_
    refine xq_map h (fun p h e => ?_)
    replace hr := fun q e' => hr q (e.symm.trans (congrArg Sum.inr e'))
    clear e
    refine xq_blk 1 (pc' := 216) (ls' := [(0, .inr (.inr (7, 5, 0))), (1, .inl k62v1), (2, .inl k62v2), (3, .inl k62v3), (4, .inl k62v4), (5, .inr (.inl k62v5)), (7, .inl s62.1), (8, .inl s62.2.1)]) (st' := [.inl s62.1]) (M' := s62.2.2) rfl ?_
    exact (hr _ (Option.some.inj h).symm) ▸ xq_ret rfl
def f_L_asks_j57 (v1 : Int32) (v2 : Int32) (v3 : Int32) (v4 : Int32) (v5 : Int64) (t0 : Int32) (M : xM) : Option (Int32 × xM) := xlp (f_L_asks_l62 v1 v2 v3 v4 v5) 4000 (t0, (0 : Int32), M)
theorem f_L_asks_j57_ok {X : List Int32} {v1 : Int32} {v2 : Int32} {v3 : Int32} {v4 : Int32} {v5 : Int64} {t0 : Int32} {M : xM} {p : Int32 × xM} {r : xR} (h : f_L_asks_j57 v1 v2 v3 v4 v5 t0 M = some p) (hr : ∀ q, p = q → ((some (.inl q.1), q.2) : xR) = r) : xq X xe 106 57 [(0, .inr (.inr (7, 5, 0))), (1, .inl v1), (2, .inl v2), (3, .inl v3), (4, .inl v4), (5, .inr (.inl v5))] [.inl t0] M r := by
  unfold f_L_asks_j57 at h
  refine xq_blk 3 (pc' := 62) (ls' := [(8, .inl (0 : Int32)), (7, .inl t0), (0, .inr (.inr (7, 5, 0))), (1, .inl v1), (2, .inl v2), (3, .inl v3), (4, .inl v4), (5, .inr (.inl v5))]) (st' := []) (M' := M) rfl ?_
  refine xq_sub (a := [(0, .inr (.inr (7, 5, 0))), (1, .inl v1), (2, .inl v2), (3, .inl v3), (4, .inl v4), (5, .inr (.inl v5)), (7, .inl t0), (8, .inl (0 : Int32))]) ⟨rfl, rfl, rfl, rfl, rfl, rfl, rfl, rfl, trivial⟩ rfl ?_
  exact xlp_ok (P := fun s62 => xq X xe 106 62 [(0, .inr (.inr (7, 5, 0))), (1, .inl v1), (2, .inl v2), (3, .inl v3), (4, .inl v4), (5, .inr (.inl v5)), (7, .inl s62.1), (8, .inl s62.2.1)] [] s62.2.2 r) (fun s p' hb g0 g1 => f_L_asks_l62_ok hb g0 (fun q e => hr q (g1 _ e).symm)) 4000 _ h
def f_L_asks_j56 (v1 : Int32) (v2 : Int32) (v3 : Int32) (v4 : Int32) (v5 : Int64) (M : xM) : Option (Int32 × xM) := f_L_asks_j57 v1 v2 v3 v4 v5 (0 : Int32) M
theorem f_L_asks_j56_ok {X : List Int32} {v1 : Int32} {v2 : Int32} {v3 : Int32} {v4 : Int32} {v5 : Int64} {M : xM} {p : Int32 × xM} {r : xR} (h : f_L_asks_j56 v1 v2 v3 v4 v5 M = some p) (hr : ∀ q, p = q → ((some (.inl q.1), q.2) : xR) = r) : xq X xe 106 56 [(0, .inr (.inr (7, 5, 0))), (1, .inl v1), (2, .inl v2), (3, .inl v3), (4, .inl v4), (5, .inr (.inl v5))] [] M r := by
  unfold f_L_asks_j56 at h
  refine xq_blk 1 (pc' := 57) (ls' := [(0, .inr (.inr (7, 5, 0))), (1, .inl v1), (2, .inl v2), (3, .inl v3), (4, .inl v4), (5, .inr (.inl v5))]) (st' := [.inl (0 : Int32)]) (M' := M) rfl ?_
  exact xq_sub (a := [(0, .inr (.inr (7, 5, 0))), (1, .inl v1), (2, .inl v2), (3, .inl v3), (4, .inl v4), (5, .inr (.inl v5))]) ⟨rfl, rfl, rfl, rfl, rfl, rfl, trivial⟩ rfl (f_L_asks_j57_ok h hr)
def f_L_asks (a1 : Int32) (a2 : Int32) (M : xM) : Option (Int32 × xM) := (f_X6_bestShed a1 a2 (0 : Int32) M).bind (fun q1 => (f_X6_bestShed a1 a2 (1 : Int32) q1.2).bind (fun q3 => if q1.1 < (0 : Int32) then (if q3.1 = q1.1 then (some ((vp_nar .boolean (1 : Int32), q3.2))) else (some ((vp_nar .boolean (0 : Int32), q3.2)))) else ((f_L_print q3.2).bind (fun q6 => if q3.1 < (0 : Int32) then (f_L_asks_j56 a1 a2 q1.1 q3.1 q6 q3.2) else (if (300 : Int32) < q3.1 then (f_L_asks_j56 a1 a2 q1.1 q3.1 q6 q3.2) else (f_L_asks_j57 a1 a2 q1.1 q3.1 q6 (1 : Int32) q3.2))))))
theorem f_L_asks_run {X : List Int32} {a1 : Int32} {a2 : Int32} {M : xM} {p : Int32 × xM} {r : xR} (h : f_L_asks a1 a2 M = some p) (hr : ∀ q, p = q → ((some (.inl q.1), q.2) : xR) = r) : xq X xe 106 0 [(0, .inr (.inr (7, 5, 0))), (1, .inl a1), (2, .inl a2)] [] M r := by
  unfold f_L_asks at h
  refine xq_blk 4 (pc' := 4) (ls' := [(0, .inr (.inr (7, 5, 0))), (1, .inl a1), (2, .inl a2)]) (st' := [.inl (0 : Int32), .inl a2, .inl a1, .inr (.inr (7, 5, 0))]) (M' := M) rfl ?_
  refine xq_bind h (fun q1 e2 h => ?_)
  refine xq_call (j := 93) (as := [.inr (.inr (7, 5, 0)), .inl a1, .inl a2, .inl (0 : Int32)]) (pc' := 7) (ls' := [(0, .inr (.inr (7, 5, 0))), (1, .inl a1), (2, .inl a2)]) (st' := []) rfl rfl (f_X6_bestShed_ok e2) ?_
  refine xq_blk 5 (pc' := 12) (ls' := [(3, .inl q1.1), (0, .inr (.inr (7, 5, 0))), (1, .inl a1), (2, .inl a2)]) (st' := [.inl (1 : Int32), .inl a2, .inl a1, .inr (.inr (7, 5, 0))]) (M' := q1.2) rfl ?_
  refine xq_bind h (fun q3 e4 h => ?_)
  refine xq_call (j := 93) (as := [.inr (.inr (7, 5, 0)), .inl a1, .inl a2, .inl (1 : Int32)]) (pc' := 15) (ls' := [(3, .inl q1.1), (0, .inr (.inr (7, 5, 0))), (1, .inl a1), (2, .inl a2)]) (st' := []) rfl rfl (f_X6_bestShed_ok e4) ?_
  refine xq_blk 2 (pc' := 18) (ls' := [(4, .inl q3.1), (3, .inl q1.1), (0, .inr (.inr (7, 5, 0))), (1, .inl a1), (2, .inl a2)]) (st' := [.inl q1.1]) (M' := q3.2) rfl ?_
  refine xq_ite h (fun c39 h => ?_) (fun c39 h => ?_)
  · refine xq_core (pc' := 21) (ls' := [(4, .inl q3.1), (3, .inl q1.1), (0, .inr (.inr (7, 5, 0))), (1, .inl a1), (2, .inl a2)]) (st' := []) rfl (if_pos c39) ?_
    refine xq_blk 2 (pc' := 24) (ls' := [(4, .inl q3.1), (3, .inl q1.1), (0, .inr (.inr (7, 5, 0))), (1, .inl a1), (2, .inl a2)]) (st' := [.inl q1.1, .inl q3.1]) (M' := q3.2) rfl ?_
    refine xq_ite h (fun c5 h => ?_) (fun c5 h => ?_)
    · refine xq_core (pc' := 27) (ls' := [(4, .inl q3.1), (3, .inl q1.1), (0, .inr (.inr (7, 5, 0))), (1, .inl a1), (2, .inl a2)]) (st' := []) rfl (if_pos c5) ?_
      refine xq_blk 2 (pc' := 32) (ls' := [(4, .inl q3.1), (3, .inl q1.1), (0, .inr (.inr (7, 5, 0))), (1, .inl a1), (2, .inl a2)]) (st' := [.inl (1 : Int32)]) (M' := q3.2) rfl ?_
      exact (hr _ (Option.some.inj h).symm) ▸ xq_ret rfl
    · refine xq_core (pc' := 31) (ls' := [(4, .inl q3.1), (3, .inl q1.1), (0, .inr (.inr (7, 5, 0))), (1, .inl a1), (2, .inl a2)]) (st' := []) rfl (if_neg c5) ?_
      refine xq_blk 1 (pc' := 32) (ls' := [(4, .inl q3.1), (3, .inl q1.1), (0, .inr (.inr (7, 5, 0))), (1, .inl a1), (2, .inl a2)]) (st' := [.inl (0 : Int32)]) (M' := q3.2) rfl ?_
      exact (hr _ (Option.some.inj h).symm) ▸ xq_ret rfl
  · refine xq_core (pc' := 33) (ls' := [(4, .inl q3.1), (3, .inl q1.1), (0, .inr (.inr (7, 5, 0))), (1, .inl a1), (2, .inl a2)]) (st' := []) rfl (if_neg c39) ?_
    refine xq_blk 1 (pc' := 34) (ls' := [(4, .inl q3.1), (3, .inl q1.1), (0, .inr (.inr (7, 5, 0))), (1, .inl a1), (2, .inl a2)]) (st' := [.inr (.inr (7, 5, 0))]) (M' := q3.2) rfl ?_
    refine xq_bind h (fun q6 e7 h => ?_)
    refine xq_call (j := 104) (as := [.inr (.inr (7, 5, 0))]) (pc' := 37) (ls' := [(4, .inl q3.1), (3, .inl q1.1), (0, .inr (.inr (7, 5, 0))), (1, .inl a1), (2, .inl a2)]) (st' := []) rfl rfl (f_L_print_ok e7) ?_
    refine xq_blk 2 (pc' := 41) (ls' := [(5, .inr (.inl q6)), (4, .inl q3.1), (3, .inl q1.1), (0, .inr (.inr (7, 5, 0))), (1, .inl a1), (2, .inl a2)]) (st' := [.inl q3.1]) (M' := q3.2) rfl ?_
    refine xq_ite h (fun c38 h => ?_) (fun c38 h => ?_)
    · refine xq_core (pc' := 56) (ls' := [(5, .inr (.inl q6)), (4, .inl q3.1), (3, .inl q1.1), (0, .inr (.inr (7, 5, 0))), (1, .inl a1), (2, .inl a2)]) (st' := []) rfl (if_pos c38) ?_
      exact xq_sub (a := [(0, .inr (.inr (7, 5, 0))), (1, .inl a1), (2, .inl a2), (3, .inl q1.1), (4, .inl q3.1), (5, .inr (.inl q6))]) ⟨rfl, rfl, rfl, rfl, rfl, rfl, trivial⟩ rfl (f_L_asks_j56_ok h hr)
    · refine xq_core (pc' := 44) (ls' := [(5, .inr (.inl q6)), (4, .inl q3.1), (3, .inl q1.1), (0, .inr (.inr (7, 5, 0))), (1, .inl a1), (2, .inl a2)]) (st' := []) rfl (if_neg c38) ?_
      refine xq_blk 2 (pc' := 49) (ls' := [(5, .inr (.inl q6)), (4, .inl q3.1), (3, .inl q1.1), (0, .inr (.inr (7, 5, 0))), (1, .inl a1), (2, .inl a2)]) (st' := [.inl (300 : Int32), .inl q3.1]) (M' := q3.2) rfl ?_
      refine xq_ite h (fun c37 h => ?_) (fun c37 h => ?_)
      · refine xq_core (pc' := 56) (ls' := [(5, .inr (.inl q6)), (4, .inl q3.1), (3, .inl q1.1), (0, .inr (.inr (7, 5, 0))), (1, .inl a1), (2, .inl a2)]) (st' := []) rfl (if_pos c37) ?_
        exact xq_sub (a := [(0, .inr (.inr (7, 5, 0))), (1, .inl a1), (2, .inl a2), (3, .inl q1.1), (4, .inl q3.1), (5, .inr (.inl q6))]) ⟨rfl, rfl, rfl, rfl, rfl, rfl, trivial⟩ rfl (f_L_asks_j56_ok h hr)
      · refine xq_core (pc' := 52) (ls' := [(5, .inr (.inl q6)), (4, .inl q3.1), (3, .inl q1.1), (0, .inr (.inr (7, 5, 0))), (1, .inl a1), (2, .inl a2)]) (st' := []) rfl (if_neg c37) ?_
        refine xq_blk 2 (pc' := 57) (ls' := [(5, .inr (.inl q6)), (4, .inl q3.1), (3, .inl q1.1), (0, .inr (.inr (7, 5, 0))), (1, .inl a1), (2, .inl a2)]) (st' := [.inl (1 : Int32)]) (M' := q3.2) rfl ?_
        exact xq_sub (a := [(0, .inr (.inr (7, 5, 0))), (1, .inl a1), (2, .inl a2), (3, .inl q1.1), (4, .inl q3.1), (5, .inr (.inl q6))]) ⟨rfl, rfl, rfl, rfl, rfl, rfl, trivial⟩ rfl (f_L_asks_j57_ok h hr)
theorem f_L_asks_ok {X : List Int32} {a1 : Int32} {a2 : Int32} {M : xM} {p : Int32 × xM} (h : f_L_asks a1 a2 M = some p) : xq X xe 106 0 [(0, .inr (.inr (7, 5, 0))), (1, .inl a1), (2, .inl a2)] [] M ((some (.inl p.1), p.2) : xR) := f_L_asks_run h (fun q e => by rw [e])
