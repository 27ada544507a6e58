def f_L_sweeps_j254 (v4 : Int64) (M : xM) : Option (Int32 × xM) := (f_L_print M).bind (fun q13 => if (lg_cmp q13 v4) = (0 : Int32) then (some ((vp_nar .boolean (1 : Int32), M))) else (some ((vp_nar .boolean (0 : Int32), M))))
theorem f_L_sweeps_j254_ok {X : List Int32} {v4 : Int64} {M : xM} {p : Int32 × xM} {r : xR} (h : f_L_sweeps_j254 v4 M = some p) (hr : ∀ q, p = q → ((some (.inl q.1), q.2) : xR) = r) : xq X xe 107 254 [(0, .inr (.inr (7, 5, 0))), (4, .inr (.inl v4))] [] M r := by
  unfold f_L_sweeps_j254 at h
  refine xq_blk 1 (pc' := 255) (ls' := [(0, .inr (.inr (7, 5, 0))), (4, .inr (.inl v4))]) (st' := [.inr (.inr (7, 5, 0))]) (M' := M) rfl ?_
  refine xq_bind h (fun q13 e14 h => ?_)
  refine xq_call (j := 104) (as := [.inr (.inr (7, 5, 0))]) (pc' := 258) (ls' := [(0, .inr (.inr (7, 5, 0))), (4, .inr (.inl v4))]) (st' := []) rfl rfl (f_L_print_ok e14) ?_
  refine xq_blk 2 (pc' := 261) (ls' := [(0, .inr (.inr (7, 5, 0))), (4, .inr (.inl v4))]) (st' := [.inl (lg_cmp q13 v4)]) (M' := M) rfl ?_
  refine xq_ite h (fun c15 h => ?_) (fun c15 h => ?_)
  · refine xq_core (pc' := 264) (ls' := [(0, .inr (.inr (7, 5, 0))), (4, .inr (.inl v4))]) (st' := []) rfl (if_pos c15) ?_
    refine xq_blk 2 (pc' := 269) (ls' := [(0, .inr (.inr (7, 5, 0))), (4, .inr (.inl v4))]) (st' := [.inl (1 : Int32)]) (M' := M) rfl ?_
    exact (hr _ (Option.some.inj h).symm) ▸ xq_ret rfl
  · refine xq_core (pc' := 268) (ls' := [(0, .inr (.inr (7, 5, 0))), (4, .inr (.inl v4))]) (st' := []) rfl (if_neg c15) ?_
    refine xq_blk 1 (pc' := 269) (ls' := [(0, .inr (.inr (7, 5, 0))), (4, .inr (.inl v4))]) (st' := [.inl (0 : Int32)]) (M' := M) rfl ?_
    exact (hr _ (Option.some.inj h).symm) ▸ xq_ret rfl
def f_L_sweeps_j231 (v2 : Int32) (v4 : Int64) (v6 : Int32) (M : xM) : Option (Int32 × xM) := if v6 = (0 : Int32) then (some ((vp_nar .boolean (0 : Int32), M))) else ((f_X6_undo M).bind (fun q11 => if q11.1 < (0 : Int32) then (some ((vp_nar .boolean (0 : Int32), q11.2))) else (if v2 = (0 : Int32) then (f_L_sweeps_j254 v4 q11.2) else ((f_X6_undo q11.2).bind (fun q16 => if q16.1 < (0 : Int32) then (some ((vp_nar .boolean (0 : Int32), q16.2))) else (f_L_sweeps_j254 v4 q16.2))))))
theorem f_L_sweeps_j231_ok {X : List Int32} {v2 : Int32} {v4 : Int64} {v6 : Int32} {M : xM} {p : Int32 × xM} {r : xR} (h : f_L_sweeps_j231 v2 v4 v6 M = some p) (hr : ∀ q, p = q → ((some (.inl q.1), q.2) : xR) = r) : xq X xe 107 231 [(0, .inr (.inr (7, 5, 0))), (2, .inl v2), (4, .inr (.inl v4)), (6, .inl v6)] [] M r := by
  unfold f_L_sweeps_j231 at h
  refine xq_blk 1 (pc' := 233) (ls' := [(0, .inr (.inr (7, 5, 0))), (2, .inl v2), (4, .inr (.inl v4)), (6, .inl v6)]) (st' := [.inl v6]) (M' := M) rfl ?_
  refine xq_ite h (fun c21 h => ?_) (fun c21 h => ?_)
  · refine xq_core (pc' := 268) (ls' := [(0, .inr (.inr (7, 5, 0))), (2, .inl v2), (4, .inr (.inl v4)), (6, .inl v6)]) (st' := []) rfl (if_pos c21) ?_
    refine xq_blk 1 (pc' := 269) (ls' := [(0, .inr (.inr (7, 5, 0))), (2, .inl v2), (4, .inr (.inl v4)), (6, .inl v6)]) (st' := [.inl (0 : Int32)]) (M' := M) rfl ?_
    exact (hr _ (Option.some.inj h).symm) ▸ xq_ret rfl
  · refine xq_core (pc' := 236) (ls' := [(0, .inr (.inr (7, 5, 0))), (2, .inl v2), (4, .inr (.inl v4)), (6, .inl v6)]) (st' := []) rfl (if_neg c21) ?_
    refine xq_blk 1 (pc' := 237) (ls' := [(0, .inr (.inr (7, 5, 0))), (2, .inl v2), (4, .inr (.inl v4)), (6, .inl v6)]) (st' := [.inr (.inr (7, 5, 0))]) (M' := M) rfl ?_
    refine xq_bind h (fun q11 e12 h => ?_)
    refine xq_call (j := 95) (as := [.inr (.inr (7, 5, 0))]) (pc' := 240) (ls' := [(0, .inr (.inr (7, 5, 0))), (2, .inl v2), (4, .inr (.inl v4)), (6, .inl v6)]) (st' := []) rfl rfl (f_X6_undo_ok e12) ?_
    refine xq_ite h (fun c20 h => ?_) (fun c20 h => ?_)
    · refine xq_core (pc' := 268) (ls' := [(0, .inr (.inr (7, 5, 0))), (2, .inl v2), (4, .inr (.inl v4)), (6, .inl v6)]) (st' := []) rfl (if_pos c20) ?_
      refine xq_blk 1 (pc' := 269) (ls' := [(0, .inr (.inr (7, 5, 0))), (2, .inl v2), (4, .inr (.inl v4)), (6, .inl v6)]) (st' := [.inl (0 : Int32)]) (M' := q11.2) rfl ?_
      exact (hr _ (Option.some.inj h).symm) ▸ xq_ret rfl
    · refine xq_core (pc' := 243) (ls' := [(0, .inr (.inr (7, 5, 0))), (2, .inl v2), (4, .inr (.inl v4)), (6, .inl v6)]) (st' := []) rfl (if_neg c20) ?_
      refine xq_blk 1 (pc' := 244) (ls' := [(0, .inr (.inr (7, 5, 0))), (2, .inl v2), (4, .inr (.inl v4)), (6, .inl v6)]) (st' := [.inl v2]) (M' := q11.2) rfl ?_
      refine xq_ite h (fun c19 h => ?_) (fun c19 h => ?_)
      · refine xq_core (pc' := 254) (ls' := [(0, .inr (.inr (7, 5, 0))), (2, .inl v2), (4, .inr (.inl v4)), (6, .inl v6)]) (st' := []) rfl (if_pos c19) ?_
        exact xq_sub (a := [(0, .inr (.inr (7, 5, 0))), (4, .inr (.inl v4))]) ⟨rfl, rfl, trivial⟩ rfl (f_L_sweeps_j254_ok h hr)
      · refine xq_core (pc' := 247) (ls' := [(0, .inr (.inr (7, 5, 0))), (2, .inl v2), (4, .inr (.inl v4)), (6, .inl v6)]) (st' := []) rfl (if_neg c19) ?_
        refine xq_blk 1 (pc' := 248) (ls' := [(0, .inr (.inr (7, 5, 0))), (2, .inl v2), (4, .inr (.inl v4)), (6, .inl v6)]) (st' := [.inr (.inr (7, 5, 0))]) (M' := q11.2) rfl ?_
        refine xq_bind h (fun q16 e17 h => ?_)
        refine xq_call (j := 95) (as := [.inr (.inr (7, 5, 0))]) (pc' := 251) (ls' := [(0, .inr (.inr (7, 5, 0))), (2, .inl v2), (4, .inr (.inl v4)), (6, .inl v6)]) (st' := []) rfl rfl (f_X6_undo_ok e17) ?_
        refine xq_ite h (fun c18 h => ?_) (fun c18 h => ?_)
        · refine xq_core (pc' := 268) (ls' := [(0, .inr (.inr (7, 5, 0))), (2, .inl v2), (4, .inr (.inl v4)), (6, .inl v6)]) (st' := []) rfl (if_pos c18) ?_
          refine xq_blk 1 (pc' := 269) (ls' := [(0, .inr (.inr (7, 5, 0))), (2, .inl v2), (4, .inr (.inl v4)), (6, .inl v6)]) (st' := [.inl (0 : Int32)]) (M' := q16.2) rfl ?_
          exact (hr _ (Option.some.inj h).symm) ▸ xq_ret rfl
        · refine xq_core (pc' := 254) (ls' := [(0, .inr (.inr (7, 5, 0))), (2, .inl v2), (4, .inr (.inl v4)), (6, .inl v6)]) (st' := []) rfl (if_neg c18) ?_
          exact xq_sub (a := [(0, .inr (.inr (7, 5, 0))), (4, .inr (.inl v4))]) ⟨rfl, rfl, trivial⟩ rfl (f_L_sweeps_j254_ok h hr)
def f_L_sweeps_l167 (k167v1 : Int32) (k167v2 : Int32) (k167v4 : Int64) (M : xM) (s167 : Int32 × Int32) : Option ((Int32 × Int32) ⊕ (Int32 × xM)) := if s167.2 < (20 : Int32) then (if s167.1 = (0 : Int32) then (Option.map Sum.inr (f_L_sweeps_j231 k167v2 k167v4 s167.1 M)) else ((f_X6_person s167.2 (3 : Int32) M).bind (fun q22 => if q22 = k167v1 then ((f_X6_person s167.2 (5 : Int32) M).bind (fun q24 => (f_X6_count (1 : Int32) M).bind (fun q26 => if q24 < q26 then (some (.inl ((1 : Int32), s167.2 + (1 : Int32)))) else ((f_X6_person s167.2 (6 : Int32) M).bind (fun q28 => if q28 = (-6 : Int32) then (some (.inl ((0 : Int32), s167.2 + (1 : Int32)))) else (some (.inl ((1 : Int32), s167.2 + (1 : Int32))))))))) else (some (.inl ((1 : Int32), s167.2 + (1 : Int32))))))) else (Option.map Sum.inr (f_L_sweeps_j231 k167v2 k167v4 s167.1 M))
theorem f_L_sweeps_l167_ok {X : List Int32} {k167v1 : Int32} {k167v2 : Int32} {k167v4 : Int64} {M : xM} {s167 : Int32 × Int32} {p : (Int32 × Int32) ⊕ (Int32 × xM)} {r : xR} (h : f_L_sweeps_l167 k167v1 k167v2 k167v4 M s167 = some p) (h0 : ∀ s', p = .inl s' → xq X xe 107 167 [(0, .inr (.inr (7, 5, 0))), (1, .inl k167v1), (2, .inl k167v2), (4, .inr (.inl k167v4)), (6, .inl s'.1), (10, .inl s'.2)] [] M r) (hr : ∀ q, p = .inr (q) → ((some (.inl q.1), q.2) : xR) = r) : xq X xe 107 167 [(0, .inr (.inr (7, 5, 0))), (1, .inl k167v1), (2, .inl k167v2), (4, .inr (.inl k167v4)), (6, .inl s167.1), (10, .inl s167.2)] [] M r := by
  unfold f_L_sweeps_l167 at h
  refine xq_blk 2 (pc' := 171) (ls' := [(0, .inr (.inr (7, 5, 0))), (1, .inl k167v1), (2, .inl k167v2), (4, .inr (.inl k167v4)), (6, .inl s167.1), (10, .inl s167.2)]) (st' := [.inl (20 : Int32), .inl s167.2]) (M' := M) rfl ?_
  refine xq_ite h (fun c34 h => ?_) (fun c34 h => ?_)
  · refine xq_core (pc' := 174) (ls' := [(0, .inr (.inr (7, 5, 0))), (1, .inl k167v1), (2, .inl k167v2), (4, .inr (.inl k167v4)), (6, .inl s167.1), (10, .inl s167.2)]) (st' := []) rfl (if_pos c34) ?_
    refine xq_blk 1 (pc' := 176) (ls' := [(0, .inr (.inr (7, 5, 0))), (1, .inl k167v1), (2, .inl k167v2), (4, .inr (.inl k167v4)), (6, .inl s167.1), (10, .inl s167.2)]) (st' := [.inl s167.1]) (M' := M) rfl ?_
    refine xq_ite h (fun c33 h => ?_) (fun c33 h => ?_)
    · refine xq_core (pc' := 231) (ls' := [(0, .inr (.inr (7, 5, 0))), (1, .inl k167v1), (2, .inl k167v2), (4, .inr (.inl k167v4)), (6, .inl s167.1), (10, .inl s167.2)]) (st' := []) rfl (if_pos c33) ?_
      refine xq_map h (fun p h e => ?_)
      replace hr := fun q e' => hr q (e.symm.trans (congrArg Sum.inr e'))
      clear e
      exact xq_sub (a := [(0, .inr (.inr (7, 5, 0))), (2, .inl k167v2), (4, .inr (.inl k167v4)), (6, .inl s167.1)]) ⟨rfl, rfl, rfl, rfl, trivial⟩ rfl (f_L_sweeps_j231_ok h hr)
    · refine xq_core (pc' := 179) (ls' := [(0, .inr (.inr (7, 5, 0))), (1, .inl k167v1), (2, .inl k167v2), (4, .inr (.inl k167v4)), (6, .inl s167.1), (10, .inl s167.2)]) (st' := []) rfl (if_neg c33) ?_
      refine xq_blk 3 (pc' := 183) (ls' := [(0, .inr (.inr (7, 5, 0))), (1, .inl k167v1), (2, .inl k167v2), (4, .inr (.inl k167v4)), (6, .inl s167.1), (10, .inl s167.2)]) (st' := [.inl (3 : Int32), .inl s167.2, .inr (.inr (7, 5, 0))]) (M' := M) rfl ?_
      refine xq_bind h (fun q22 e23 h => ?_)
      refine xq_call (j := 87) (as := [.inr (.inr (7, 5, 0)), .inl s167.2, .inl (3 : Int32)]) (pc' := 186) (ls' := [(0, .inr (.inr (7, 5, 0))), (1, .inl k167v1), (2, .inl k167v2), (4, .inr (.inl k167v4)), (6, .inl s167.1), (10, .inl s167.2)]) (st' := []) rfl rfl (f_X6_person_ok e23) ?_
      refine xq_blk 1 (pc' := 187) (ls' := [(0, .inr (.inr (7, 5, 0))), (1, .inl k167v1), (2, .inl k167v2), (4, .inr (.inl k167v4)), (6, .inl s167.1), (10, .inl s167.2)]) (st' := [.inl k167v1, .inl q22]) (M' := M) rfl ?_
      refine xq_ite h (fun c32 h => ?_) (fun c32 h => ?_)
      · refine xq_core (pc' := 190) (ls' := [(0, .inr (.inr (7, 5, 0))), (1, .inl k167v1), (2, .inl k167v2), (4, .inr (.inl k167v4)), (6, .inl s167.1), (10, .inl s167.2)]) (st' := []) rfl (if_pos c32) ?_
        refine xq_blk 3 (pc' := 194) (ls' := [(0, .inr (.inr (7, 5, 0))), (1, .inl k167v1), (2, .inl k167v2), (4, .inr (.inl k167v4)), (6, .inl s167.1), (10, .inl s167.2)]) (st' := [.inl (5 : Int32), .inl s167.2, .inr (.inr (7, 5, 0))]) (M' := M) rfl ?_
        refine xq_bind h (fun q24 e25 h => ?_)
        refine xq_call (j := 87) (as := [.inr (.inr (7, 5, 0)), .inl s167.2, .inl (5 : Int32)]) (pc' := 197) (ls' := [(0, .inr (.inr (7, 5, 0))), (1, .inl k167v1), (2, .inl k167v2), (4, .inr (.inl k167v4)), (6, .inl s167.1), (10, .inl s167.2)]) (st' := []) rfl rfl (f_X6_person_ok e25) ?_
        refine xq_blk 2 (pc' := 199) (ls' := [(0, .inr (.inr (7, 5, 0))), (1, .inl k167v1), (2, .inl k167v2), (4, .inr (.inl k167v4)), (6, .inl s167.1), (10, .inl s167.2)]) (st' := [.inl (1 : Int32), .inr (.inr (7, 5, 0)), .inl q24]) (M' := M) rfl ?_
        refine xq_bind h (fun q26 e27 h => ?_)
        refine xq_call (j := 90) (as := [.inr (.inr (7, 5, 0)), .inl (1 : Int32)]) (pc' := 202) (ls' := [(0, .inr (.inr (7, 5, 0))), (1, .inl k167v1), (2, .inl k167v2), (4, .inr (.inl k167v4)), (6, .inl s167.1), (10, .inl s167.2)]) (st' := [.inl q24]) rfl rfl (f_X6_count_ok e27) ?_
        refine xq_ite h (fun c31 h => ?_) (fun c31 h => ?_)
        · refine xq_core (pc' := 218) (ls' := [(0, .inr (.inr (7, 5, 0))), (1, .inl k167v1), (2, .inl k167v2), (4, .inr (.inl k167v4)), (6, .inl s167.1), (10, .inl s167.2)]) (st' := []) rfl (if_pos c31) ?_
          refine xq_blk 5 (pc' := 167) (ls' := [(10, .inl (s167.2 + (1 : Int32))), (6, .inl (1 : Int32)), (0, .inr (.inr (7, 5, 0))), (1, .inl k167v1), (2, .inl k167v2), (4, .inr (.inl k167v4))]) (st' := []) (M' := M) rfl ?_
          exact xq_sub (a := [(0, .inr (.inr (7, 5, 0))), (1, .inl k167v1), (2, .inl k167v2), (4, .inr (.inl k167v4)), (6, .inl (((1 : Int32), s167.2 + (1 : Int32)).1)), (10, .inl (((1 : Int32), s167.2 + (1 : Int32)).2))]) ⟨rfl, rfl, rfl, rfl, rfl, rfl, trivial⟩ rfl (h0 ((1 : Int32), s167.2 + (1 : Int32)) (Option.some.inj h).symm)
        · refine xq_core (pc' := 205) (ls' := [(0, .inr (.inr (7, 5, 0))), (1, .inl k167v1), (2, .inl k167v2), (4, .inr (.inl k167v4)), (6, .inl s167.1), (10, .inl s167.2)]) (st' := []) rfl (if_neg c31) ?_
          refine xq_blk 3 (pc' := 210) (ls' := [(0, .inr (.inr (7, 5, 0))), (1, .inl k167v1), (2, .inl k167v2), (4, .inr (.inl k167v4)), (6, .inl s167.1), (10, .inl s167.2)]) (st' := [.inl (6 : Int32), .inl s167.2, .inr (.inr (7, 5, 0))]) (M' := M) rfl ?_
          refine xq_bind h (fun q28 e29 h => ?_)
          refine xq_call (j := 87) (as := [.inr (.inr (7, 5, 0)), .inl s167.2, .inl (6 : Int32)]) (pc' := 213) (ls' := [(0, .inr (.inr (7, 5, 0))), (1, .inl k167v1), (2, .inl k167v2), (4, .inr (.inl k167v4)), (6, .inl s167.1), (10, .inl s167.2)]) (st' := []) rfl rfl (f_X6_person_ok e29) ?_
          refine xq_blk 1 (pc' := 215) (ls' := [(0, .inr (.inr (7, 5, 0))), (1, .inl k167v1), (2, .inl k167v2), (4, .inr (.inl k167v4)), (6, .inl s167.1), (10, .inl s167.2)]) (st' := [.inl (-6 : Int32), .inl q28]) (M' := M) rfl ?_
          refine xq_ite h (fun c30 h => ?_) (fun c30 h => ?_)
          · refine xq_core (pc' := 222) (ls' := [(0, .inr (.inr (7, 5, 0))), (1, .inl k167v1), (2, .inl k167v2), (4, .inr (.inl k167v4)), (6, .inl s167.1), (10, .inl s167.2)]) (st' := []) rfl (if_pos c30) ?_
            refine xq_blk 4 (pc' := 167) (ls' := [(10, .inl (s167.2 + (1 : Int32))), (6, .inl (0 : Int32)), (0, .inr (.inr (7, 5, 0))), (1, .inl k167v1), (2, .inl k167v2), (4, .inr (.inl k167v4))]) (st' := []) (M' := M) rfl ?_
            exact xq_sub (a := [(0, .inr (.inr (7, 5, 0))), (1, .inl k167v1), (2, .inl k167v2), (4, .inr (.inl k167v4)), (6, .inl (((0 : Int32), s167.2 + (1 : Int32)).1)), (10, .inl (((0 : Int32), s167.2 + (1 : Int32)).2))]) ⟨rfl, rfl, rfl, rfl, rfl, rfl, trivial⟩ rfl (h0 ((0 : Int32), s167.2 + (1 : Int32)) (Option.some.inj h).symm)
          · refine xq_core (pc' := 218) (ls' := [(0, .inr (.inr (7, 5, 0))), (1, .inl k167v1), (2, .inl k167v2), (4, .inr (.inl k167v4)), (6, .inl s167.1), (10, .inl s167.2)]) (st' := []) rfl (if_neg c30) ?_
            refine xq_blk 5 (pc' := 167) (ls' := [(10, .inl (s167.2 + (1 : Int32))), (6, .inl (1 : Int32)), (0, .inr (.inr (7, 5, 0))), (1, .inl k167v1), (2, .inl k167v2), (4, .inr (.inl k167v4))]) (st' := []) (M' := M) rfl ?_
            exact xq_sub (a := [(0, .inr (.inr (7, 5, 0))), (1, .inl k167v1), (2, .inl k167v2), (4, .inr (.inl k167v4)), (6, .inl (((1 : Int32), s167.2 + (1 : Int32)).1)), (10, .inl (((1 : Int32), s167.2 + (1 : Int32)).2))]) ⟨rfl, rfl, rfl, rfl, rfl, rfl, trivial⟩ rfl (h0 ((1 : Int32), s167.2 + (1 : Int32)) (Option.some.inj h).symm)
      · refine xq_core (pc' := 218) (ls' := [(0, .inr (.inr (7, 5, 0))), (1, .inl k167v1), (2, .inl k167v2), (4, .inr (.inl k167v4)), (6, .inl s167.1), (10, .inl s167.2)]) (st' := []) rfl (if_neg c32) ?_
        refine xq_blk 5 (pc' := 167) (ls' := [(10, .inl (s167.2 + (1 : Int32))), (6, .inl (1 : Int32)), (0, .inr (.inr (7, 5, 0))), (1, .inl k167v1), (2, .inl k167v2), (4, .inr (.inl k167v4))]) (st' := []) (M' := M) rfl ?_
        exact xq_sub (a := [(0, .inr (.inr (7, 5, 0))), (1, .inl k167v1), (2, .inl k167v2), (4, .inr (.inl k167v4)), (6, .inl (((1 : Int32), s167.2 + (1 : Int32)).1)), (10, .inl (((1 : Int32), s167.2 + (1 : Int32)).2))]) ⟨rfl, rfl, rfl, rfl, rfl, rfl, trivial⟩ rfl (h0 ((1 : Int32), s167.2 + (1 : Int32)) (Option.some.inj h).symm)
  · refine xq_core (pc' := 231) (ls' := [(0, .inr (.inr (7, 5, 0))), (1, .inl k167v1), (2, .inl k167v2), (4, .inr (.inl k167v4)), (6, .inl s167.1), (10, .inl s167.2)]) (st' := []) rfl (if_neg c34) ?_
    refine xq_map h (fun p h e => ?_)
    replace hr := fun q e' => hr q (e.symm.trans (congrArg Sum.inr e'))
    clear e
    exact xq_sub (a := [(0, .inr (.inr (7, 5, 0))), (2, .inl k167v2), (4, .inr (.inl k167v4)), (6, .inl s167.1)]) ⟨rfl, rfl, rfl, rfl, trivial⟩ rfl (f_L_sweeps_j231_ok h hr)
def f_L_sweeps_j162 (v1 : Int32) (v2 : Int32) (v4 : Int64) (t0 : Int32) (M : xM) : Option (Int32 × xM) := xlp (f_L_sweeps_l167 v1 v2 v4 M) 4000 (t0, (0 : Int32))
theorem f_L_sweeps_j162_ok {X : List Int32} {v1 : Int32} {v2 : Int32} {v4 : Int64} {t0 : Int32} {M : xM} {p : Int32 × xM} {r : xR} (h : f_L_sweeps_j162 v1 v2 v4 t0 M = some p) (hr : ∀ q, p = q → ((some (.inl q.1), q.2) : xR) = r) : xq X xe 107 162 [(0, .inr (.inr (7, 5, 0))), (1, .inl v1), (2, .inl v2), (4, .inr (.inl v4))] [.inl t0] M r := by
  unfold f_L_sweeps_j162 at h
  refine xq_blk 3 (pc' := 167) (ls' := [(10, .inl (0 : Int32)), (6, .inl t0), (0, .inr (.inr (7, 5, 0))), (1, .inl v1), (2, .inl v2), (4, .inr (.inl v4))]) (st' := []) (M' := M) rfl ?_
  refine xq_sub (a := [(0, .inr (.inr (7, 5, 0))), (1, .inl v1), (2, .inl v2), (4, .inr (.inl v4)), (6, .inl t0), (10, .inl (0 : Int32))]) ⟨rfl, rfl, rfl, rfl, rfl, rfl, trivial⟩ rfl ?_
  exact xlp_ok (P := fun s167 => xq X xe 107 167 [(0, .inr (.inr (7, 5, 0))), (1, .inl v1), (2, .inl v2), (4, .inr (.inl v4)), (6, .inl s167.1), (10, .inl s167.2)] [] M r) (fun s p' hb g0 g1 => f_L_sweeps_l167_ok hb g0 (fun q e => hr q (g1 _ e).symm)) 4000 _ h
def f_L_sweeps_j161 (v1 : Int32) (v2 : Int32) (v4 : Int64) (M : xM) : Option (Int32 × xM) := f_L_sweeps_j162 v1 v2 v4 (0 : Int32) M
theorem f_L_sweeps_j161_ok {X : List Int32} {v1 : Int32} {v2 : Int32} {v4 : Int64} {M : xM} {p : Int32 × xM} {r : xR} (h : f_L_sweeps_j161 v1 v2 v4 M = some p) (hr : ∀ q, p = q → ((some (.inl q.1), q.2) : xR) = r) : xq X xe 107 161 [(0, .inr (.inr (7, 5, 0))), (1, .inl v1), (2, .inl v2), (4, .inr (.inl v4))] [] M r := by
  unfold f_L_sweeps_j161 at h
  refine xq_blk 1 (pc' := 162) (ls' := [(0, .inr (.inr (7, 5, 0))), (1, .inl v1), (2, .inl v2), (4, .inr (.inl v4))]) (st' := [.inl (0 : Int32)]) (M' := M) rfl ?_
  exact xq_sub (a := [(0, .inr (.inr (7, 5, 0))), (1, .inl v1), (2, .inl v2), (4, .inr (.inl v4))]) ⟨rfl, rfl, rfl, rfl, trivial⟩ rfl (f_L_sweeps_j162_ok h hr)
def f_L_sweeps_j131 (v1 : Int32) (v2 : Int32) (v4 : Int64) (t0 : Int32) (M : xM) : Option (Int32 × xM) := if t0 = (0 : Int32) then (f_L_sweeps_j161 v1 v2 v4 M) else ((f_X6_shed v1 (6 : Int32) M).bind (fun q35 => (f_X6_shed v1 (5 : Int32) M).bind (fun q37 => if (q35 &&& (q37 ^^^ (-1 : Int32))) = (0 : Int32) then (f_L_sweeps_j162 v1 v2 v4 (1 : Int32) M) else (f_L_sweeps_j161 v1 v2 v4 M))))
theorem f_L_sweeps_j131_ok {X : List Int32} {v1 : Int32} {v2 : Int32} {v4 : Int64} {t0 : Int32} {M : xM} {p : Int32 × xM} {r : xR} (h : f_L_sweeps_j131 v1 v2 v4 t0 M = some p) (hr : ∀ q, p = q → ((some (.inl q.1), q.2) : xR) = r) : xq X xe 107 131 [(0, .inr (.inr (7, 5, 0))), (1, .inl v1), (2, .inl v2), (4, .inr (.inl v4))] [.inl t0] M r := by
  unfold f_L_sweeps_j131 at h
  refine xq_blk 2 (pc' := 135) (ls' := [(6, .inl t0), (0, .inr (.inr (7, 5, 0))), (1, .inl v1), (2, .inl v2), (4, .inr (.inl v4))]) (st' := [.inl t0]) (M' := M) rfl ?_
  refine xq_ite h (fun c40 h => ?_) (fun c40 h => ?_)
  · refine xq_core (pc' := 161) (ls' := [(6, .inl t0), (0, .inr (.inr (7, 5, 0))), (1, .inl v1), (2, .inl v2), (4, .inr (.inl v4))]) (st' := []) rfl (if_pos c40) ?_
    exact xq_sub (a := [(0, .inr (.inr (7, 5, 0))), (1, .inl v1), (2, .inl v2), (4, .inr (.inl v4))]) ⟨rfl, rfl, rfl, rfl, trivial⟩ rfl (f_L_sweeps_j161_ok h hr)
  · refine xq_core (pc' := 138) (ls' := [(6, .inl t0), (0, .inr (.inr (7, 5, 0))), (1, .inl v1), (2, .inl v2), (4, .inr (.inl v4))]) (st' := []) rfl (if_neg c40) ?_
    refine xq_blk 3 (pc' := 142) (ls' := [(6, .inl t0), (0, .inr (.inr (7, 5, 0))), (1, .inl v1), (2, .inl v2), (4, .inr (.inl v4))]) (st' := [.inl (6 : Int32), .inl v1, .inr (.inr (7, 5, 0))]) (M' := M) rfl ?_
    refine xq_bind h (fun q35 e36 h => ?_)
    refine xq_call (j := 88) (as := [.inr (.inr (7, 5, 0)), .inl v1, .inl (6 : Int32)]) (pc' := 145) (ls' := [(6, .inl t0), (0, .inr (.inr (7, 5, 0))), (1, .inl v1), (2, .inl v2), (4, .inr (.inl v4))]) (st' := []) rfl rfl (f_X6_shed_ok e36) ?_
    refine xq_blk 3 (pc' := 148) (ls' := [(6, .inl t0), (0, .inr (.inr (7, 5, 0))), (1, .inl v1), (2, .inl v2), (4, .inr (.inl v4))]) (st' := [.inl (5 : Int32), .inl v1, .inr (.inr (7, 5, 0)), .inl q35]) (M' := M) rfl ?_
    refine xq_bind h (fun q37 e38 h => ?_)
    refine xq_call (j := 88) (as := [.inr (.inr (7, 5, 0)), .inl v1, .inl (5 : Int32)]) (pc' := 151) (ls' := [(6, .inl t0), (0, .inr (.inr (7, 5, 0))), (1, .inl v1), (2, .inl v2), (4, .inr (.inl v4))]) (st' := [.inl q35]) rfl rfl (f_X6_shed_ok e38) ?_
    refine xq_blk 3 (pc' := 154) (ls' := [(6, .inl t0), (0, .inr (.inr (7, 5, 0))), (1, .inl v1), (2, .inl v2), (4, .inr (.inl v4))]) (st' := [.inl (q35 &&& (q37 ^^^ (-1 : Int32)))]) (M' := M) rfl ?_
    refine xq_ite h (fun c39 h => ?_) (fun c39 h => ?_)
    · refine xq_core (pc' := 157) (ls' := [(6, .inl t0), (0, .inr (.inr (7, 5, 0))), (1, .inl v1), (2, .inl v2), (4, .inr (.inl v4))]) (st' := []) rfl (if_pos c39) ?_
      refine xq_blk 2 (pc' := 162) (ls' := [(6, .inl t0), (0, .inr (.inr (7, 5, 0))), (1, .inl v1), (2, .inl v2), (4, .inr (.inl v4))]) (st' := [.inl (1 : Int32)]) (M' := M) rfl ?_
      exact xq_sub (a := [(0, .inr (.inr (7, 5, 0))), (1, .inl v1), (2, .inl v2), (4, .inr (.inl v4))]) ⟨rfl, rfl, rfl, rfl, trivial⟩ rfl (f_L_sweeps_j162_ok h hr)
    · refine xq_core (pc' := 161) (ls' := [(6, .inl t0), (0, .inr (.inr (7, 5, 0))), (1, .inl v1), (2, .inl v2), (4, .inr (.inl v4))]) (st' := []) rfl (if_neg c39) ?_
      exact xq_sub (a := [(0, .inr (.inr (7, 5, 0))), (1, .inl v1), (2, .inl v2), (4, .inr (.inl v4))]) ⟨rfl, rfl, rfl, rfl, trivial⟩ rfl (f_L_sweeps_j161_ok h hr)
def f_L_sweeps_j130 (v1 : Int32) (v2 : Int32) (v4 : Int64) (M : xM) : Option (Int32 × xM) := f_L_sweeps_j131 v1 v2 v4 (0 : Int32) M
theorem f_L_sweeps_j130_ok {X : List Int32} {v1 : Int32} {v2 : Int32} {v4 : Int64} {M : xM} {p : Int32 × xM} {r : xR} (h : f_L_sweeps_j130 v1 v2 v4 M = some p) (hr : ∀ q, p = q → ((some (.inl q.1), q.2) : xR) = r) : xq X xe 107 130 [(0, .inr (.inr (7, 5, 0))), (1, .inl v1), (2, .inl v2), (4, .inr (.inl v4))] [] M r := by
  unfold f_L_sweeps_j130 at h
  refine xq_blk 1 (pc' := 131) (ls' := [(0, .inr (.inr (7, 5, 0))), (1, .inl v1), (2, .inl v2), (4, .inr (.inl v4))]) (st' := [.inl (0 : Int32)]) (M' := M) rfl ?_
  exact xq_sub (a := [(0, .inr (.inr (7, 5, 0))), (1, .inl v1), (2, .inl v2), (4, .inr (.inl v4))]) ⟨rfl, rfl, rfl, rfl, trivial⟩ rfl (f_L_sweeps_j131_ok h hr)
def f_L_sweeps_j30 (v1 : Int32) (v2 : Int32) (v3 : Int32) (v4 : Int64) (t0 : Int32) (M : xM) : Option (Int32 × xM) := (f_X6_count (11 : Int32) M).bind (fun q5 => (f_X6_count (9 : Int32) M).bind (fun q7 => (f_X6_count (7 : Int32) M).bind (fun q9 => if t0 = (0 : Int32) then (f_L_sweeps_j130 v1 v2 v4 M) else ((f_X6_ifSwept v1 (0 : Int32) M).bind (fun q41 => if q41 = v3 then ((f_X6_sweep v1 M).bind (fun q43 => if q43.1 = v3 then ((f_X6_count (11 : Int32) q43.2).bind (fun q45 => if q45 = (q5 + v3) then ((f_X6_count (9 : Int32) q43.2).bind (fun q47 => if q47 = (q7 + v3) then ((f_X6_count (7 : Int32) q43.2).bind (fun q49 => if q49 = (q9 - v3) then ((f_L_hangs q43.2).bind (fun q51 => if q51.1 = (0 : Int32) then (f_L_sweeps_j130 v1 v2 v4 q51.2) else (f_L_sweeps_j131 v1 v2 v4 (1 : Int32) q51.2))) else (f_L_sweeps_j130 v1 v2 v4 q43.2))) else (f_L_sweeps_j130 v1 v2 v4 q43.2))) else (f_L_sweeps_j130 v1 v2 v4 q43.2))) else (f_L_sweeps_j130 v1 v2 v4 q43.2))) else (f_L_sweeps_j130 v1 v2 v4 M))))))
theorem f_L_sweeps_j30_ok {X : List Int32} {v1 : Int32} {v2 : Int32} {v3 : Int32} {v4 : Int64} {t0 : Int32} {M : xM} {p : Int32 × xM} {r : xR} (h : f_L_sweeps_j30 v1 v2 v3 v4 t0 M = some p) (hr : ∀ q, p = q → ((some (.inl q.1), q.2) : xR) = r) : xq X xe 107 30 [(0, .inr (.inr (7, 5, 0))), (1, .inl v1), (2, .inl v2), (3, .inl v3), (4, .inr (.inl v4))] [.inl t0] M r := by
  unfold f_L_sweeps_j30 at h
  refine xq_blk 3 (pc' := 35) (ls' := [(6, .inl t0), (0, .inr (.inr (7, 5, 0))), (1, .inl v1), (2, .inl v2), (3, .inl v3), (4, .inr (.inl v4))]) (st' := [.inl (11 : Int32), .inr (.inr (7, 5, 0))]) (M' := M) rfl ?_
  refine xq_bind h (fun q5 e6 h => ?_)
  refine xq_call (j := 90) (as := [.inr (.inr (7, 5, 0)), .inl (11 : Int32)]) (pc' := 38) (ls' := [(6, .inl t0), (0, .inr (.inr (7, 5, 0))), (1, .inl v1), (2, .inl v2), (3, .inl v3), (4, .inr (.inl v4))]) (st' := []) rfl rfl (f_X6_count_ok e6) ?_
  refine xq_blk 3 (pc' := 43) (ls' := [(7, .inl q5), (6, .inl t0), (0, .inr (.inr (7, 5, 0))), (1, .inl v1), (2, .inl v2), (3, .inl v3), (4, .inr (.inl v4))]) (st' := [.inl (9 : Int32), .inr (.inr (7, 5, 0))]) (M' := M) rfl ?_
  refine xq_bind h (fun q7 e8 h => ?_)
  refine xq_call (j := 90) (as := [.inr (.inr (7, 5, 0)), .inl (9 : Int32)]) (pc' := 46) (ls' := [(7, .inl q5), (6, .inl t0), (0, .inr (.inr (7, 5, 0))), (1, .inl v1), (2, .inl v2), (3, .inl v3), (4, .inr (.inl v4))]) (st' := []) rfl rfl (f_X6_count_ok e8) ?_
  refine xq_blk 3 (pc' := 51) (ls' := [(8, .inl q7), (7, .inl q5), (6, .inl t0), (0, .inr (.inr (7, 5, 0))), (1, .inl v1), (2, .inl v2), (3, .inl v3), (4, .inr (.inl v4))]) (st' := [.inl (7 : Int32), .inr (.inr (7, 5, 0))]) (M' := M) rfl ?_
  refine xq_bind h (fun q9 e10 h => ?_)
  refine xq_call (j := 90) (as := [.inr (.inr (7, 5, 0)), .inl (7 : Int32)]) (pc' := 54) (ls' := [(8, .inl q7), (7, .inl q5), (6, .inl t0), (0, .inr (.inr (7, 5, 0))), (1, .inl v1), (2, .inl v2), (3, .inl v3), (4, .inr (.inl v4))]) (st' := []) rfl rfl (f_X6_count_ok e10) ?_
  refine xq_blk 2 (pc' := 58) (ls' := [(9, .inl q9), (8, .inl q7), (7, .inl q5), (6, .inl t0), (0, .inr (.inr (7, 5, 0))), (1, .inl v1), (2, .inl v2), (3, .inl v3), (4, .inr (.inl v4))]) (st' := [.inl t0]) (M' := M) rfl ?_
  refine xq_ite h (fun c59 h => ?_) (fun c59 h => ?_)
  · refine xq_core (pc' := 130) (ls' := [(9, .inl q9), (8, .inl q7), (7, .inl q5), (6, .inl t0), (0, .inr (.inr (7, 5, 0))), (1, .inl v1), (2, .inl v2), (3, .inl v3), (4, .inr (.inl v4))]) (st' := []) rfl (if_pos c59) ?_
    exact xq_sub (a := [(0, .inr (.inr (7, 5, 0))), (1, .inl v1), (2, .inl v2), (4, .inr (.inl v4))]) ⟨rfl, rfl, rfl, rfl, trivial⟩ rfl (f_L_sweeps_j130_ok h hr)
  · refine xq_core (pc' := 61) (ls' := [(9, .inl q9), (8, .inl q7), (7, .inl q5), (6, .inl t0), (0, .inr (.inr (7, 5, 0))), (1, .inl v1), (2, .inl v2), (3, .inl v3), (4, .inr (.inl v4))]) (st' := []) rfl (if_neg c59) ?_
    refine xq_blk 3 (pc' := 64) (ls' := [(9, .inl q9), (8, .inl q7), (7, .inl q5), (6, .inl t0), (0, .inr (.inr (7, 5, 0))), (1, .inl v1), (2, .inl v2), (3, .inl v3), (4, .inr (.inl v4))]) (st' := [.inl (0 : Int32), .inl v1, .inr (.inr (7, 5, 0))]) (M' := M) rfl ?_
    refine xq_bind h (fun q41 e42 h => ?_)
    refine xq_call (j := 94) (as := [.inr (.inr (7, 5, 0)), .inl v1, .inl (0 : Int32)]) (pc' := 67) (ls' := [(9, .inl q9), (8, .inl q7), (7, .inl q5), (6, .inl t0), (0, .inr (.inr (7, 5, 0))), (1, .inl v1), (2, .inl v2), (3, .inl v3), (4, .inr (.inl v4))]) (st' := []) rfl rfl (f_X6_ifSwept_ok e42) ?_
    refine xq_blk 1 (pc' := 68) (ls' := [(9, .inl q9), (8, .inl q7), (7, .inl q5), (6, .inl t0), (0, .inr (.inr (7, 5, 0))), (1, .inl v1), (2, .inl v2), (3, .inl v3), (4, .inr (.inl v4))]) (st' := [.inl v3, .inl q41]) (M' := M) rfl ?_
    refine xq_ite h (fun c58 h => ?_) (fun c58 h => ?_)
    · refine xq_core (pc' := 71) (ls' := [(9, .inl q9), (8, .inl q7), (7, .inl q5), (6, .inl t0), (0, .inr (.inr (7, 5, 0))), (1, .inl v1), (2, .inl v2), (3, .inl v3), (4, .inr (.inl v4))]) (st' := []) rfl (if_pos c58) ?_
      refine xq_blk 2 (pc' := 73) (ls' := [(9, .inl q9), (8, .inl q7), (7, .inl q5), (6, .inl t0), (0, .inr (.inr (7, 5, 0))), (1, .inl v1), (2, .inl v2), (3, .inl v3), (4, .inr (.inl v4))]) (st' := [.inl v1, .inr (.inr (7, 5, 0))]) (M' := M) rfl ?_
      refine xq_bind h (fun q43 e44 h => ?_)
      refine xq_call (j := 84) (as := [.inr (.inr (7, 5, 0)), .inl v1]) (pc' := 76) (ls' := [(9, .inl q9), (8, .inl q7), (7, .inl q5), (6, .inl t0), (0, .inr (.inr (7, 5, 0))), (1, .inl v1), (2, .inl v2), (3, .inl v3), (4, .inr (.inl v4))]) (st' := []) rfl rfl (f_X6_sweep_ok e44) ?_
      refine xq_blk 1 (pc' := 77) (ls' := [(9, .inl q9), (8, .inl q7), (7, .inl q5), (6, .inl t0), (0, .inr (.inr (7, 5, 0))), (1, .inl v1), (2, .inl v2), (3, .inl v3), (4, .inr (.inl v4))]) (st' := [.inl v3, .inl q43.1]) (M' := q43.2) rfl ?_
      refine xq_ite h (fun c57 h => ?_) (fun c57 h => ?_)
      · refine xq_core (pc' := 80) (ls' := [(9, .inl q9), (8, .inl q7), (7, .inl q5), (6, .inl t0), (0, .inr (.inr (7, 5, 0))), (1, .inl v1), (2, .inl v2), (3, .inl v3), (4, .inr (.inl v4))]) (st' := []) rfl (if_pos c57) ?_
        refine xq_blk 2 (pc' := 83) (ls' := [(9, .inl q9), (8, .inl q7), (7, .inl q5), (6, .inl t0), (0, .inr (.inr (7, 5, 0))), (1, .inl v1), (2, .inl v2), (3, .inl v3), (4, .inr (.inl v4))]) (st' := [.inl (11 : Int32), .inr (.inr (7, 5, 0))]) (M' := q43.2) rfl ?_
        refine xq_bind h (fun q45 e46 h => ?_)
        refine xq_call (j := 90) (as := [.inr (.inr (7, 5, 0)), .inl (11 : Int32)]) (pc' := 86) (ls' := [(9, .inl q9), (8, .inl q7), (7, .inl q5), (6, .inl t0), (0, .inr (.inr (7, 5, 0))), (1, .inl v1), (2, .inl v2), (3, .inl v3), (4, .inr (.inl v4))]) (st' := []) rfl rfl (f_X6_count_ok e46) ?_
        refine xq_blk 3 (pc' := 90) (ls' := [(9, .inl q9), (8, .inl q7), (7, .inl q5), (6, .inl t0), (0, .inr (.inr (7, 5, 0))), (1, .inl v1), (2, .inl v2), (3, .inl v3), (4, .inr (.inl v4))]) (st' := [.inl (q5 + v3), .inl q45]) (M' := q43.2) rfl ?_
        refine xq_ite h (fun c56 h => ?_) (fun c56 h => ?_)
        · refine xq_core (pc' := 93) (ls' := [(9, .inl q9), (8, .inl q7), (7, .inl q5), (6, .inl t0), (0, .inr (.inr (7, 5, 0))), (1, .inl v1), (2, .inl v2), (3, .inl v3), (4, .inr (.inl v4))]) (st' := []) rfl (if_pos c56) ?_
          refine xq_blk 2 (pc' := 96) (ls' := [(9, .inl q9), (8, .inl q7), (7, .inl q5), (6, .inl t0), (0, .inr (.inr (7, 5, 0))), (1, .inl v1), (2, .inl v2), (3, .inl v3), (4, .inr (.inl v4))]) (st' := [.inl (9 : Int32), .inr (.inr (7, 5, 0))]) (M' := q43.2) rfl ?_
          refine xq_bind h (fun q47 e48 h => ?_)
          refine xq_call (j := 90) (as := [.inr (.inr (7, 5, 0)), .inl (9 : Int32)]) (pc' := 99) (ls' := [(9, .inl q9), (8, .inl q7), (7, .inl q5), (6, .inl t0), (0, .inr (.inr (7, 5, 0))), (1, .inl v1), (2, .inl v2), (3, .inl v3), (4, .inr (.inl v4))]) (st' := []) rfl rfl (f_X6_count_ok e48) ?_
          refine xq_blk 3 (pc' := 103) (ls' := [(9, .inl q9), (8, .inl q7), (7, .inl q5), (6, .inl t0), (0, .inr (.inr (7, 5, 0))), (1, .inl v1), (2, .inl v2), (3, .inl v3), (4, .inr (.inl v4))]) (st' := [.inl (q7 + v3), .inl q47]) (M' := q43.2) rfl ?_
          refine xq_ite h (fun c55 h => ?_) (fun c55 h => ?_)
          · refine xq_core (pc' := 106) (ls' := [(9, .inl q9), (8, .inl q7), (7, .inl q5), (6, .inl t0), (0, .inr (.inr (7, 5, 0))), (1, .inl v1), (2, .inl v2), (3, .inl v3), (4, .inr (.inl v4))]) (st' := []) rfl (if_pos c55) ?_
            refine xq_blk 2 (pc' := 109) (ls' := [(9, .inl q9), (8, .inl q7), (7, .inl q5), (6, .inl t0), (0, .inr (.inr (7, 5, 0))), (1, .inl v1), (2, .inl v2), (3, .inl v3), (4, .inr (.inl v4))]) (st' := [.inl (7 : Int32), .inr (.inr (7, 5, 0))]) (M' := q43.2) rfl ?_
            refine xq_bind h (fun q49 e50 h => ?_)
            refine xq_call (j := 90) (as := [.inr (.inr (7, 5, 0)), .inl (7 : Int32)]) (pc' := 112) (ls' := [(9, .inl q9), (8, .inl q7), (7, .inl q5), (6, .inl t0), (0, .inr (.inr (7, 5, 0))), (1, .inl v1), (2, .inl v2), (3, .inl v3), (4, .inr (.inl v4))]) (st' := []) rfl rfl (f_X6_count_ok e50) ?_
            refine xq_blk 3 (pc' := 116) (ls' := [(9, .inl q9), (8, .inl q7), (7, .inl q5), (6, .inl t0), (0, .inr (.inr (7, 5, 0))), (1, .inl v1), (2, .inl v2), (3, .inl v3), (4, .inr (.inl v4))]) (st' := [.inl (q9 - v3), .inl q49]) (M' := q43.2) rfl ?_
            refine xq_ite h (fun c54 h => ?_) (fun c54 h => ?_)
            · refine xq_core (pc' := 119) (ls' := [(9, .inl q9), (8, .inl q7), (7, .inl q5), (6, .inl t0), (0, .inr (.inr (7, 5, 0))), (1, .inl v1), (2, .inl v2), (3, .inl v3), (4, .inr (.inl v4))]) (st' := []) rfl (if_pos c54) ?_
              refine xq_blk 1 (pc' := 120) (ls' := [(9, .inl q9), (8, .inl q7), (7, .inl q5), (6, .inl t0), (0, .inr (.inr (7, 5, 0))), (1, .inl v1), (2, .inl v2), (3, .inl v3), (4, .inr (.inl v4))]) (st' := [.inr (.inr (7, 5, 0))]) (M' := q43.2) rfl ?_
              refine xq_bind h (fun q51 e52 h => ?_)
              refine xq_call (j := 103) (as := [.inr (.inr (7, 5, 0))]) (pc' := 123) (ls' := [(9, .inl q9), (8, .inl q7), (7, .inl q5), (6, .inl t0), (0, .inr (.inr (7, 5, 0))), (1, .inl v1), (2, .inl v2), (3, .inl v3), (4, .inr (.inl v4))]) (st' := []) rfl rfl (f_L_hangs_ok e52) ?_
              refine xq_ite h (fun c53 h => ?_) (fun c53 h => ?_)
              · refine xq_core (pc' := 130) (ls' := [(9, .inl q9), (8, .inl q7), (7, .inl q5), (6, .inl t0), (0, .inr (.inr (7, 5, 0))), (1, .inl v1), (2, .inl v2), (3, .inl v3), (4, .inr (.inl v4))]) (st' := []) rfl (if_pos c53) ?_
                exact xq_sub (a := [(0, .inr (.inr (7, 5, 0))), (1, .inl v1), (2, .inl v2), (4, .inr (.inl v4))]) ⟨rfl, rfl, rfl, rfl, trivial⟩ rfl (f_L_sweeps_j130_ok h hr)
              · refine xq_core (pc' := 126) (ls' := [(9, .inl q9), (8, .inl q7), (7, .inl q5), (6, .inl t0), (0, .inr (.inr (7, 5, 0))), (1, .inl v1), (2, .inl v2), (3, .inl v3), (4, .inr (.inl v4))]) (st' := []) rfl (if_neg c53) ?_
                refine xq_blk 2 (pc' := 131) (ls' := [(9, .inl q9), (8, .inl q7), (7, .inl q5), (6, .inl t0), (0, .inr (.inr (7, 5, 0))), (1, .inl v1), (2, .inl v2), (3, .inl v3), (4, .inr (.inl v4))]) (st' := [.inl (1 : Int32)]) (M' := q51.2) rfl ?_
                exact xq_sub (a := [(0, .inr (.inr (7, 5, 0))), (1, .inl v1), (2, .inl v2), (4, .inr (.inl v4))]) ⟨rfl, rfl, rfl, rfl, trivial⟩ rfl (f_L_sweeps_j131_ok h hr)
            · refine xq_core (pc' := 130) (ls' := [(9, .inl q9), (8, .inl q7), (7, .inl q5), (6, .inl t0), (0, .inr (.inr (7, 5, 0))), (1, .inl v1), (2, .inl v2), (3, .inl v3), (4, .inr (.inl v4))]) (st' := []) rfl (if_neg c54) ?_
              exact xq_sub (a := [(0, .inr (.inr (7, 5, 0))), (1, .inl v1), (2, .inl v2), (4, .inr (.inl v4))]) ⟨rfl, rfl, rfl, rfl, trivial⟩ rfl (f_L_sweeps_j130_ok h hr)
          · refine xq_core (pc' := 130) (ls' := [(9, .inl q9), (8, .inl q7), (7, .inl q5), (6, .inl t0), (0, .inr (.inr (7, 5, 0))), (1, .inl v1), (2, .inl v2), (3, .inl v3), (4, .inr (.inl v4))]) (st' := []) rfl (if_neg c55) ?_
            exact xq_sub (a := [(0, .inr (.inr (7, 5, 0))), (1, .inl v1), (2, .inl v2), (4, .inr (.inl v4))]) ⟨rfl, rfl, rfl, rfl, trivial⟩ rfl (f_L_sweeps_j130_ok h hr)
        · refine xq_core (pc' := 130) (ls' := [(9, .inl q9), (8, .inl q7), (7, .inl q5), (6, .inl t0), (0, .inr (.inr (7, 5, 0))), (1, .inl v1), (2, .inl v2), (3, .inl v3), (4, .inr (.inl v4))]) (st' := []) rfl (if_neg c56) ?_
          exact xq_sub (a := [(0, .inr (.inr (7, 5, 0))), (1, .inl v1), (2, .inl v2), (4, .inr (.inl v4))]) ⟨rfl, rfl, rfl, rfl, trivial⟩ rfl (f_L_sweeps_j130_ok h hr)
      · refine xq_core (pc' := 130) (ls' := [(9, .inl q9), (8, .inl q7), (7, .inl q5), (6, .inl t0), (0, .inr (.inr (7, 5, 0))), (1, .inl v1), (2, .inl v2), (3, .inl v3), (4, .inr (.inl v4))]) (st' := []) rfl (if_neg c57) ?_
        exact xq_sub (a := [(0, .inr (.inr (7, 5, 0))), (1, .inl v1), (2, .inl v2), (4, .inr (.inl v4))]) ⟨rfl, rfl, rfl, rfl, trivial⟩ rfl (f_L_sweeps_j130_ok h hr)
    · refine xq_core (pc' := 130) (ls' := [(9, .inl q9), (8, .inl q7), (7, .inl q5), (6, .inl t0), (0, .inr (.inr (7, 5, 0))), (1, .inl v1), (2, .inl v2), (3, .inl v3), (4, .inr (.inl v4))]) (st' := []) rfl (if_neg c58) ?_
      exact xq_sub (a := [(0, .inr (.inr (7, 5, 0))), (1, .inl v1), (2, .inl v2), (4, .inr (.inl v4))]) ⟨rfl, rfl, rfl, rfl, trivial⟩ rfl (f_L_sweeps_j130_ok h hr)
def f_L_sweeps_j25 (v1 : Int32) (v2 : Int32) (v3 : Int32) (v4 : Int64) (M : xM) : Option (Int32 × xM) := f_L_sweeps_j30 v1 v2 v3 v4 (1 : Int32) M
theorem f_L_sweeps_j25_ok {X : List Int32} {v1 : Int32} {v2 : Int32} {v3 : Int32} {v4 : Int64} {M : xM} {p : Int32 × xM} {r : xR} (h : f_L_sweeps_j25 v1 v2 v3 v4 M = some p) (hr : ∀ q, p = q → ((some (.inl q.1), q.2) : xR) = r) : xq X xe 107 25 [(0, .inr (.inr (7, 5, 0))), (1, .inl v1), (2, .inl v2), (3, .inl v3), (4, .inr (.inl v4))] [] M r := by
  unfold f_L_sweeps_j25 at h
  refine xq_blk 2 (pc' := 30) (ls' := [(0, .inr (.inr (7, 5, 0))), (1, .inl v1), (2, .inl v2), (3, .inl v3), (4, .inr (.inl v4))]) (st' := [.inl (1 : Int32)]) (M' := M) rfl ?_
  exact xq_sub (a := [(0, .inr (.inr (7, 5, 0))), (1, .inl v1), (2, .inl v2), (3, .inl v3), (4, .inr (.inl v4))]) ⟨rfl, rfl, rfl, rfl, rfl, trivial⟩ rfl (f_L_sweeps_j30_ok h hr)
def f_L_sweeps (a1 : Int32) (a2 : Int32) (M : xM) : Option (Int32 × xM) := (f_X6_ifSwept a1 a2 M).bind (fun q1 => (f_L_print M).bind (fun q3 => if a2 = (0 : Int32) then (f_L_sweeps_j25 a1 a2 q1 q3 M) else ((f_X6_pass a2 M).bind (fun q60 => if q60.1 < (0 : Int32) then (f_L_sweeps_j30 a1 a2 q1 q3 (0 : Int32) q60.2) else (f_L_sweeps_j25 a1 a2 q1 q3 q60.2)))))
theorem f_L_sweeps_run {X : List Int32} {a1 : Int32} {a2 : Int32} {M : xM} {p : Int32 × xM} {r : xR} (h : f_L_sweeps a1 a2 M = some p) (hr : ∀ q, p = q → ((some (.inl q.1), q.2) : xR) = r) : xq X xe 107 0 [(0, .inr (.inr (7, 5, 0))), (1, .inl a1), (2, .inl a2)] [] M r := by
  unfold f_L_sweeps at h
  refine xq_blk 3 (pc' := 3) (ls' := [(0, .inr (.inr (7, 5, 0))), (1, .inl a1), (2, .inl a2)]) (st' := [.inl a2, .inl a1, .inr (.inr (7, 5, 0))]) (M' := M) rfl ?_
  refine xq_bind h (fun q1 e2 h => ?_)
  refine xq_call (j := 94) (as := [.inr (.inr (7, 5, 0)), .inl a1, .inl a2]) (pc' := 6) (ls' := [(0, .inr (.inr (7, 5, 0))), (1, .inl a1), (2, .inl a2)]) (st' := []) rfl rfl (f_X6_ifSwept_ok e2) ?_
  refine xq_blk 2 (pc' := 8) (ls' := [(3, .inl q1), (0, .inr (.inr (7, 5, 0))), (1, .inl a1), (2, .inl a2)]) (st' := [.inr (.inr (7, 5, 0))]) (M' := M) rfl ?_
  refine xq_bind h (fun q3 e4 h => ?_)
  refine xq_call (j := 104) (as := [.inr (.inr (7, 5, 0))]) (pc' := 11) (ls' := [(3, .inl q1), (0, .inr (.inr (7, 5, 0))), (1, .inl a1), (2, .inl a2)]) (st' := []) rfl rfl (f_L_print_ok e4) ?_
  refine xq_blk 2 (pc' := 14) (ls' := [(4, .inr (.inl q3)), (3, .inl q1), (0, .inr (.inr (7, 5, 0))), (1, .inl a1), (2, .inl a2)]) (st' := [.inl a2]) (M' := M) rfl ?_
  refine xq_ite h (fun c63 h => ?_) (fun c63 h => ?_)
  · refine xq_core (pc' := 25) (ls' := [(4, .inr (.inl q3)), (3, .inl q1), (0, .inr (.inr (7, 5, 0))), (1, .inl a1), (2, .inl a2)]) (st' := []) rfl (if_pos c63) ?_
    exact xq_sub (a := [(0, .inr (.inr (7, 5, 0))), (1, .inl a1), (2, .inl a2), (3, .inl q1), (4, .inr (.inl q3))]) ⟨rfl, rfl, rfl, rfl, rfl, trivial⟩ rfl (f_L_sweeps_j25_ok h hr)
  · refine xq_core (pc' := 17) (ls' := [(4, .inr (.inl q3)), (3, .inl q1), (0, .inr (.inr (7, 5, 0))), (1, .inl a1), (2, .inl a2)]) (st' := []) rfl (if_neg c63) ?_
    refine xq_blk 2 (pc' := 19) (ls' := [(4, .inr (.inl q3)), (3, .inl q1), (0, .inr (.inr (7, 5, 0))), (1, .inl a1), (2, .inl a2)]) (st' := [.inl a2, .inr (.inr (7, 5, 0))]) (M' := M) rfl ?_
    refine xq_bind h (fun q60 e61 h => ?_)
    refine xq_call (j := 86) (as := [.inr (.inr (7, 5, 0)), .inl a2]) (pc' := 22) (ls' := [(4, .inr (.inl q3)), (3, .inl q1), (0, .inr (.inr (7, 5, 0))), (1, .inl a1), (2, .inl a2)]) (st' := []) rfl rfl (f_X6_pass_ok e61) ?_
    refine xq_ite h (fun c62 h => ?_) (fun c62 h => ?_)
    · refine xq_core (pc' := 29) (ls' := [(4, .inr (.inl q3)), (3, .inl q1), (0, .inr (.inr (7, 5, 0))), (1, .inl a1), (2, .inl a2)]) (st' := []) rfl (if_pos c62) ?_
      refine xq_blk 1 (pc' := 30) (ls' := [(4, .inr (.inl q3)), (3, .inl q1), (0, .inr (.inr (7, 5, 0))), (1, .inl a1), (2, .inl a2)]) (st' := [.inl (0 : Int32)]) (M' := q60.2) rfl ?_
      exact xq_sub (a := [(0, .inr (.inr (7, 5, 0))), (1, .inl a1), (2, .inl a2), (3, .inl q1), (4, .inr (.inl q3))]) ⟨rfl, rfl, rfl, rfl, rfl, trivial⟩ rfl (f_L_sweeps_j30_ok h hr)
    · refine xq_core (pc' := 25) (ls' := [(4, .inr (.inl q3)), (3, .inl q1), (0, .inr (.inr (7, 5, 0))), (1, .inl a1), (2, .inl a2)]) (st' := []) rfl (if_neg c62) ?_
      exact xq_sub (a := [(0, .inr (.inr (7, 5, 0))), (1, .inl a1), (2, .inl a2), (3, .inl q1), (4, .inr (.inl q3))]) ⟨rfl, rfl, rfl, rfl, rfl, trivial⟩ rfl (f_L_sweeps_j25_ok h hr)
theorem f_L_sweeps_ok {X : List Int32} {a1 : Int32} {a2 : Int32} {M : xM} {p : Int32 × xM} (h : f_L_sweeps a1 a2 M = some p) : xq X xe 107 0 [(0, .inr (.inr (7, 5, 0))), (1, .inl a1), (2, .inl a2)] [] M ((some (.inl p.1), p.2) : xR) := f_L_sweeps_run h (fun q e => by rw [e])
