def f_X7_count (a1 : Int32) (M : xM) : Option (Int32) := if a1 = (0 : Int32) then (if xp_in a1 3540 = true then (some ((M.1 6 1 a1.toNatClampNeg))) else none) else (if a1 = (1 : Int32) then (if xp_in a1 3540 = true then (some ((M.1 6 1 a1.toNatClampNeg))) else none) else (if a1 = (2 : Int32) then (if xp_in a1 3540 = true then (some ((M.1 6 1 a1.toNatClampNeg))) else none) else (if a1 = (3 : Int32) then (if xp_in a1 3540 = true then (some ((M.1 6 1 a1.toNatClampNeg))) else none) else (if a1 = (4 : Int32) then (if xp_in a1 3540 = true then (some ((M.1 6 1 a1.toNatClampNeg))) else none) else (if a1 = (5 : Int32) then ((f_X7_people a1 M).bind (fun q11 => some (q11))) else (if a1 = (6 : Int32) then ((f_X7_people a1 M).bind (fun q14 => some (q14))) else (if a1 = (7 : Int32) then ((f_X7_people a1 M).bind (fun q17 => some (q17))) else (if a1 = (8 : Int32) then ((f_X7_people a1 M).bind (fun q20 => some (q20))) else (if a1 = (9 : Int32) then ((f_X7_people a1 M).bind (fun q23 => some (q23))) else (if a1 = (10 : Int32) then (some ((M.1 6 1 5))) else (if a1 = (11 : Int32) then (some ((M.1 6 1 6))) else (if a1 = (12 : Int32) then (some ((M.1 6 1 7))) else (if a1 = (13 : Int32) then (some ((M.1 6 0 4))) else (if a1 = (14 : Int32) then (some ((M.1 6 0 1))) else (some ((-2 : Int32)))))))))))))))))
theorem f_X7_count_run {X : List Int32} {a1 : Int32} {M : xM} {p : Int32} {r : xR} (h : f_X7_count a1 M = some p) (hr : ∀ q, p = q → ((some (.inl q), M) : xR) = r) : xq X xe 172 0 [(0, .inr (.inr (14, 6, 0))), (1, .inl a1)] [] M r := by
  unfold f_X7_count at h
  refine xq_blk 1 (pc' := 1) (ls' := [(0, .inr (.inr (14, 6, 0))), (1, .inl a1)]) (st' := [.inl a1]) (M' := M) rfl ?_
  refine xq_ite h (fun c2 h => ?_) (fun c2 h => ?_)
  · refine xq_tsw (pc' := 76) (ls' := [(0, .inr (.inr (14, 6, 0))), (1, .inl a1)]) (st' := []) rfl rfl (if_pos c2) ?_
    refine xq_blk 3 (pc' := 81) (ls' := [(0, .inr (.inr (14, 6, 0))), (1, .inl a1)]) (st' := [.inl a1, .inr (.inr (15, 6, 1))]) (M' := M) rfl ?_
    refine xq_guard h (fun g1 h => ?_)
    refine xq_prim (st' := [.inl (M.1 6 1 a1.toNatClampNeg)]) (M' := M) rfl rfl rfl (xg_ald0 rfl g1) ?_
    exact (hr _ (Option.some.inj h).symm) ▸ xq_ret rfl
  · refine xq_ite h (fun c4 h => ?_) (fun c4 h => ?_)
    · refine xq_tsw (pc' := 76) (ls' := [(0, .inr (.inr (14, 6, 0))), (1, .inl a1)]) (st' := []) rfl rfl (Eq.trans (if_neg c2) (if_pos c4)) ?_
      refine xq_blk 3 (pc' := 81) (ls' := [(0, .inr (.inr (14, 6, 0))), (1, .inl a1)]) (st' := [.inl a1, .inr (.inr (15, 6, 1))]) (M' := M) rfl ?_
      refine xq_guard h (fun g3 h => ?_)
      refine xq_prim (st' := [.inl (M.1 6 1 a1.toNatClampNeg)]) (M' := M) rfl rfl rfl (xg_ald0 rfl g3) ?_
      exact (hr _ (Option.some.inj h).symm) ▸ xq_ret rfl
    · refine xq_ite h (fun c6 h => ?_) (fun c6 h => ?_)
      · refine xq_tsw (pc' := 76) (ls' := [(0, .inr (.inr (14, 6, 0))), (1, .inl a1)]) (st' := []) rfl rfl (Eq.trans (if_neg c2) (Eq.trans (if_neg c4) (if_pos c6))) ?_
        refine xq_blk 3 (pc' := 81) (ls' := [(0, .inr (.inr (14, 6, 0))), (1, .inl a1)]) (st' := [.inl a1, .inr (.inr (15, 6, 1))]) (M' := M) rfl ?_
        refine xq_guard h (fun g5 h => ?_)
        refine xq_prim (st' := [.inl (M.1 6 1 a1.toNatClampNeg)]) (M' := M) rfl rfl rfl (xg_ald0 rfl g5) ?_
        exact (hr _ (Option.some.inj h).symm) ▸ xq_ret rfl
      · refine xq_ite h (fun c8 h => ?_) (fun c8 h => ?_)
        · refine xq_tsw (pc' := 76) (ls' := [(0, .inr (.inr (14, 6, 0))), (1, .inl a1)]) (st' := []) rfl rfl (Eq.trans (if_neg c2) (Eq.trans (if_neg c4) (Eq.trans (if_neg c6) (if_pos c8)))) ?_
          refine xq_blk 3 (pc' := 81) (ls' := [(0, .inr (.inr (14, 6, 0))), (1, .inl a1)]) (st' := [.inl a1, .inr (.inr (15, 6, 1))]) (M' := M) rfl ?_
          refine xq_guard h (fun g7 h => ?_)
          refine xq_prim (st' := [.inl (M.1 6 1 a1.toNatClampNeg)]) (M' := M) rfl rfl rfl (xg_ald0 rfl g7) ?_
          exact (hr _ (Option.some.inj h).symm) ▸ xq_ret rfl
        · refine xq_ite h (fun c10 h => ?_) (fun c10 h => ?_)
          · refine xq_tsw (pc' := 76) (ls' := [(0, .inr (.inr (14, 6, 0))), (1, .inl a1)]) (st' := []) rfl rfl (Eq.trans (if_neg c2) (Eq.trans (if_neg c4) (Eq.trans (if_neg c6) (Eq.trans (if_neg c8) (if_pos c10))))) ?_
            refine xq_blk 3 (pc' := 81) (ls' := [(0, .inr (.inr (14, 6, 0))), (1, .inl a1)]) (st' := [.inl a1, .inr (.inr (15, 6, 1))]) (M' := M) rfl ?_
            refine xq_guard h (fun g9 h => ?_)
            refine xq_prim (st' := [.inl (M.1 6 1 a1.toNatClampNeg)]) (M' := M) rfl rfl rfl (xg_ald0 rfl g9) ?_
            exact (hr _ (Option.some.inj h).symm) ▸ xq_ret rfl
          · refine xq_ite h (fun c13 h => ?_) (fun c13 h => ?_)
            · refine xq_tsw (pc' := 83) (ls' := [(0, .inr (.inr (14, 6, 0))), (1, .inl a1)]) (st' := []) rfl rfl (Eq.trans (if_neg c2) (Eq.trans (if_neg c4) (Eq.trans (if_neg c6) (Eq.trans (if_neg c8) (Eq.trans (if_neg c10) (if_pos c13)))))) ?_
              refine xq_blk 2 (pc' := 85) (ls' := [(0, .inr (.inr (14, 6, 0))), (1, .inl a1)]) (st' := [.inl a1, .inr (.inr (14, 6, 0))]) (M' := M) rfl ?_
              refine xq_bind h (fun q11 e12 h => ?_)
              refine xq_call (j := 171) (as := [.inr (.inr (14, 6, 0)), .inl a1]) (pc' := 88) (ls' := [(0, .inr (.inr (14, 6, 0))), (1, .inl a1)]) (st' := []) rfl rfl (f_X7_people_ok e12) ?_
              exact (hr _ (Option.some.inj h).symm) ▸ xq_ret rfl
            · refine xq_ite h (fun c16 h => ?_) (fun c16 h => ?_)
              · refine xq_tsw (pc' := 83) (ls' := [(0, .inr (.inr (14, 6, 0))), (1, .inl a1)]) (st' := []) rfl rfl (Eq.trans (if_neg c2) (Eq.trans (if_neg c4) (Eq.trans (if_neg c6) (Eq.trans (if_neg c8) (Eq.trans (if_neg c10) (Eq.trans (if_neg c13) (if_pos c16))))))) ?_
                refine xq_blk 2 (pc' := 85) (ls' := [(0, .inr (.inr (14, 6, 0))), (1, .inl a1)]) (st' := [.inl a1, .inr (.inr (14, 6, 0))]) (M' := M) rfl ?_
                refine xq_bind h (fun q14 e15 h => ?_)
                refine xq_call (j := 171) (as := [.inr (.inr (14, 6, 0)), .inl a1]) (pc' := 88) (ls' := [(0, .inr (.inr (14, 6, 0))), (1, .inl a1)]) (st' := []) rfl rfl (f_X7_people_ok e15) ?_
                exact (hr _ (Option.some.inj h).symm) ▸ xq_ret rfl
              · refine xq_ite h (fun c19 h => ?_) (fun c19 h => ?_)
                · refine xq_tsw (pc' := 83) (ls' := [(0, .inr (.inr (14, 6, 0))), (1, .inl a1)]) (st' := []) rfl rfl (Eq.trans (if_neg c2) (Eq.trans (if_neg c4) (Eq.trans (if_neg c6) (Eq.trans (if_neg c8) (Eq.trans (if_neg c10) (Eq.trans (if_neg c13) (Eq.trans (if_neg c16) (if_pos c19)))))))) ?_
                  refine xq_blk 2 (pc' := 85) (ls' := [(0, .inr (.inr (14, 6, 0))), (1, .inl a1)]) (st' := [.inl a1, .inr (.inr (14, 6, 0))]) (M' := M) rfl ?_
                  refine xq_bind h (fun q17 e18 h => ?_)
                  refine xq_call (j := 171) (as := [.inr (.inr (14, 6, 0)), .inl a1]) (pc' := 88) (ls' := [(0, .inr (.inr (14, 6, 0))), (1, .inl a1)]) (st' := []) rfl rfl (f_X7_people_ok e18) ?_
                  exact (hr _ (Option.some.inj h).symm) ▸ xq_ret rfl
                · refine xq_ite h (fun c22 h => ?_) (fun c22 h => ?_)
                  · refine xq_tsw (pc' := 83) (ls' := [(0, .inr (.inr (14, 6, 0))), (1, .inl a1)]) (st' := []) rfl rfl (Eq.trans (if_neg c2) (Eq.trans (if_neg c4) (Eq.trans (if_neg c6) (Eq.trans (if_neg c8) (Eq.trans (if_neg c10) (Eq.trans (if_neg c13) (Eq.trans (if_neg c16) (Eq.trans (if_neg c19) (if_pos c22))))))))) ?_
                    refine xq_blk 2 (pc' := 85) (ls' := [(0, .inr (.inr (14, 6, 0))), (1, .inl a1)]) (st' := [.inl a1, .inr (.inr (14, 6, 0))]) (M' := M) rfl ?_
                    refine xq_bind h (fun q20 e21 h => ?_)
                    refine xq_call (j := 171) (as := [.inr (.inr (14, 6, 0)), .inl a1]) (pc' := 88) (ls' := [(0, .inr (.inr (14, 6, 0))), (1, .inl a1)]) (st' := []) rfl rfl (f_X7_people_ok e21) ?_
                    exact (hr _ (Option.some.inj h).symm) ▸ xq_ret rfl
                  · refine xq_ite h (fun c25 h => ?_) (fun c25 h => ?_)
                    · refine xq_tsw (pc' := 83) (ls' := [(0, .inr (.inr (14, 6, 0))), (1, .inl a1)]) (st' := []) rfl rfl (Eq.trans (if_neg c2) (Eq.trans (if_neg c4) (Eq.trans (if_neg c6) (Eq.trans (if_neg c8) (Eq.trans (if_neg c10) (Eq.trans (if_neg c13) (Eq.trans (if_neg c16) (Eq.trans (if_neg c19) (Eq.trans (if_neg c22) (if_pos c25)))))))))) ?_
                      refine xq_blk 2 (pc' := 85) (ls' := [(0, .inr (.inr (14, 6, 0))), (1, .inl a1)]) (st' := [.inl a1, .inr (.inr (14, 6, 0))]) (M' := M) rfl ?_
                      refine xq_bind h (fun q23 e24 h => ?_)
                      refine xq_call (j := 171) (as := [.inr (.inr (14, 6, 0)), .inl a1]) (pc' := 88) (ls' := [(0, .inr (.inr (14, 6, 0))), (1, .inl a1)]) (st' := []) rfl rfl (f_X7_people_ok e24) ?_
                      exact (hr _ (Option.some.inj h).symm) ▸ xq_ret rfl
                    · refine xq_ite h (fun c26 h => ?_) (fun c26 h => ?_)
                      · refine xq_tsw (pc' := 89) (ls' := [(0, .inr (.inr (14, 6, 0))), (1, .inl a1)]) (st' := []) rfl rfl (Eq.trans (if_neg c2) (Eq.trans (if_neg c4) (Eq.trans (if_neg c6) (Eq.trans (if_neg c8) (Eq.trans (if_neg c10) (Eq.trans (if_neg c13) (Eq.trans (if_neg c16) (Eq.trans (if_neg c19) (Eq.trans (if_neg c22) (Eq.trans (if_neg c25) (if_pos c26))))))))))) ?_
                        refine xq_blk 3 (pc' := 94) (ls' := [(0, .inr (.inr (14, 6, 0))), (1, .inl a1)]) (st' := [.inl (5 : Int32), .inr (.inr (15, 6, 1))]) (M' := M) rfl ?_
                        refine xq_prim (st' := [.inl (M.1 6 1 5)]) (M' := M) rfl rfl rfl (xg_ald0 rfl rfl) ?_
                        exact (hr _ (Option.some.inj h).symm) ▸ xq_ret rfl
                      · refine xq_ite h (fun c27 h => ?_) (fun c27 h => ?_)
                        · refine xq_tsw (pc' := 96) (ls' := [(0, .inr (.inr (14, 6, 0))), (1, .inl a1)]) (st' := []) rfl rfl (Eq.trans (if_neg c2) (Eq.trans (if_neg c4) (Eq.trans (if_neg c6) (Eq.trans (if_neg c8) (Eq.trans (if_neg c10) (Eq.trans (if_neg c13) (Eq.trans (if_neg c16) (Eq.trans (if_neg c19) (Eq.trans (if_neg c22) (Eq.trans (if_neg c25) (Eq.trans (if_neg c26) (if_pos c27)))))))))))) ?_
                          refine xq_blk 3 (pc' := 102) (ls' := [(0, .inr (.inr (14, 6, 0))), (1, .inl a1)]) (st' := [.inl (6 : Int32), .inr (.inr (15, 6, 1))]) (M' := M) rfl ?_
                          refine xq_prim (st' := [.inl (M.1 6 1 6)]) (M' := M) rfl rfl rfl (xg_ald0 rfl rfl) ?_
                          exact (hr _ (Option.some.inj h).symm) ▸ xq_ret rfl
                        · refine xq_ite h (fun c28 h => ?_) (fun c28 h => ?_)
                          · refine xq_tsw (pc' := 104) (ls' := [(0, .inr (.inr (14, 6, 0))), (1, .inl a1)]) (st' := []) rfl rfl (Eq.trans (if_neg c2) (Eq.trans (if_neg c4) (Eq.trans (if_neg c6) (Eq.trans (if_neg c8) (Eq.trans (if_neg c10) (Eq.trans (if_neg c13) (Eq.trans (if_neg c16) (Eq.trans (if_neg c19) (Eq.trans (if_neg c22) (Eq.trans (if_neg c25) (Eq.trans (if_neg c26) (Eq.trans (if_neg c27) (if_pos c28))))))))))))) ?_
                            refine xq_blk 3 (pc' := 110) (ls' := [(0, .inr (.inr (14, 6, 0))), (1, .inl a1)]) (st' := [.inl (7 : Int32), .inr (.inr (15, 6, 1))]) (M' := M) rfl ?_
                            refine xq_prim (st' := [.inl (M.1 6 1 7)]) (M' := M) rfl rfl rfl (xg_ald0 rfl rfl) ?_
                            exact (hr _ (Option.some.inj h).symm) ▸ xq_ret rfl
                          · refine xq_ite h (fun c29 h => ?_) (fun c29 h => ?_)
                            · refine xq_tsw (pc' := 112) (ls' := [(0, .inr (.inr (14, 6, 0))), (1, .inl a1)]) (st' := []) rfl rfl (Eq.trans (if_neg c2) (Eq.trans (if_neg c4) (Eq.trans (if_neg c6) (Eq.trans (if_neg c8) (Eq.trans (if_neg c10) (Eq.trans (if_neg c13) (Eq.trans (if_neg c16) (Eq.trans (if_neg c19) (Eq.trans (if_neg c22) (Eq.trans (if_neg c25) (Eq.trans (if_neg c26) (Eq.trans (if_neg c27) (Eq.trans (if_neg c28) (if_pos c29)))))))))))))) ?_
                              refine xq_blk 2 (pc' := 116) (ls' := [(0, .inr (.inr (14, 6, 0))), (1, .inl a1)]) (st' := [.inl (M.1 6 0 4)]) (M' := M) rfl ?_
                              exact (hr _ (Option.some.inj h).symm) ▸ xq_ret rfl
                            · refine xq_ite h (fun c30 h => ?_) (fun c30 h => ?_)
                              · refine xq_tsw (pc' := 117) (ls' := [(0, .inr (.inr (14, 6, 0))), (1, .inl a1)]) (st' := []) rfl rfl (Eq.trans (if_neg c2) (Eq.trans (if_neg c4) (Eq.trans (if_neg c6) (Eq.trans (if_neg c8) (Eq.trans (if_neg c10) (Eq.trans (if_neg c13) (Eq.trans (if_neg c16) (Eq.trans (if_neg c19) (Eq.trans (if_neg c22) (Eq.trans (if_neg c25) (Eq.trans (if_neg c26) (Eq.trans (if_neg c27) (Eq.trans (if_neg c28) (Eq.trans (if_neg c29) (if_pos c30))))))))))))))) ?_
                                refine xq_blk 2 (pc' := 121) (ls' := [(0, .inr (.inr (14, 6, 0))), (1, .inl a1)]) (st' := [.inl (M.1 6 0 1)]) (M' := M) rfl ?_
                                exact (hr _ (Option.some.inj h).symm) ▸ xq_ret rfl
                              · refine xq_tsw (pc' := 122) (ls' := [(0, .inr (.inr (14, 6, 0))), (1, .inl a1)]) (st' := []) rfl rfl (Eq.trans (if_neg c2) (Eq.trans (if_neg c4) (Eq.trans (if_neg c6) (Eq.trans (if_neg c8) (Eq.trans (if_neg c10) (Eq.trans (if_neg c13) (Eq.trans (if_neg c16) (Eq.trans (if_neg c19) (Eq.trans (if_neg c22) (Eq.trans (if_neg c25) (Eq.trans (if_neg c26) (Eq.trans (if_neg c27) (Eq.trans (if_neg c28) (Eq.trans (if_neg c29) (Eq.trans (if_neg c30) (rfl)))))))))))))))) ?_
                                refine xq_blk 1 (pc' := 124) (ls' := [(0, .inr (.inr (14, 6, 0))), (1, .inl a1)]) (st' := [.inl (-2 : Int32)]) (M' := M) rfl ?_
                                exact (hr _ (Option.some.inj h).symm) ▸ xq_ret rfl
theorem f_X7_count_ok {X : List Int32} {a1 : Int32} {M : xM} {p : Int32} (h : f_X7_count a1 M = some p) : xq X xe 172 0 [(0, .inr (.inr (14, 6, 0))), (1, .inl a1)] [] M ((some (.inl p), M) : xR) := f_X7_count_run h (fun q e => by rw [e])
def f_X7_daysTo_j41 (v1 : Int32) (v2 : Int32) (v3 : Int32) (M : xM) : Option (Int32 × xM) := (f_X7_personAt v2 v1 M).bind (fun q6 => if xp_in q6 3540 = true then (if (M.1 6 1 q6.toNatClampNeg) = (-6 : Int32) then (some (((-6 : Int32), M))) else (some ((v3, M)))) else none)
theorem f_X7_daysTo_j41_ok {X : List Int32} {v1 : Int32} {v2 : Int32} {v3 : Int32} {M : xM} {p : Int32 × xM} {r : xR} (h : f_X7_daysTo_j41 v1 v2 v3 M = some p) (hr : ∀ q, p = q → ((some (.inl q.1), q.2) : xR) = r) : xq X xe 173 41 [(0, .inr (.inr (14, 6, 0))), (1, .inl v1), (2, .inl v2), (3, .inl v3)] [] M r := by
  unfold f_X7_daysTo_j41 at h
  refine xq_blk 4 (pc' := 47) (ls' := [(0, .inr (.inr (14, 6, 0))), (1, .inl v1), (2, .inl v2), (3, .inl v3)]) (st' := [.inl v1, .inl v2, .inr (.inr (15, 6, 1))]) (M' := M) rfl ?_
  refine xq_bind h (fun q6 e7 h => ?_)
  refine xq_call (j := 117) (as := [.inl v2, .inl v1]) (pc' := 50) (ls' := [(0, .inr (.inr (14, 6, 0))), (1, .inl v1), (2, .inl v2), (3, .inl v3)]) (st' := [.inr (.inr (15, 6, 1))]) rfl rfl (f_X7_personAt_ok e7) ?_
  refine xq_guard h (fun g8 h => ?_)
  refine xq_prim (st' := [.inl (M.1 6 1 q6.toNatClampNeg)]) (M' := M) rfl rfl rfl (xg_ald0 rfl g8) ?_
  refine xq_blk 1 (pc' := 53) (ls' := [(0, .inr (.inr (14, 6, 0))), (1, .inl v1), (2, .inl v2), (3, .inl v3)]) (st' := [.inl (-6 : Int32), .inl (M.1 6 1 q6.toNatClampNeg)]) (M' := M) rfl ?_
  refine xq_ite h (fun c9 h => ?_) (fun c9 h => ?_)
  · refine xq_core (pc' := 56) (ls' := [(0, .inr (.inr (14, 6, 0))), (1, .inl v1), (2, .inl v2), (3, .inl v3)]) (st' := []) rfl (if_pos c9) ?_
    refine xq_blk 2 (pc' := 62) (ls' := [(0, .inr (.inr (14, 6, 0))), (1, .inl v1), (2, .inl v2), (3, .inl v3)]) (st' := [.inl (-6 : Int32)]) (M' := M) rfl ?_
    exact (hr _ (Option.some.inj h).symm) ▸ xq_ret rfl
  · refine xq_core (pc' := 61) (ls' := [(0, .inr (.inr (14, 6, 0))), (1, .inl v1), (2, .inl v2), (3, .inl v3)]) (st' := []) rfl (if_neg c9) ?_
    refine xq_blk 1 (pc' := 62) (ls' := [(0, .inr (.inr (14, 6, 0))), (1, .inl v1), (2, .inl v2), (3, .inl v3)]) (st' := [.inl v3]) (M' := M) rfl ?_
    exact (hr _ (Option.some.inj h).symm) ▸ xq_ret rfl
def f_X7_daysTo_l6 (k6v1 : Int32) (k6v2 : Int32) (s6 : Int32 × xM) : Option ((Int32 × xM) ⊕ (Int32 × xM)) := if s6.1 < (300 : Int32) then ((f_X7_personAt k6v2 k6v1 s6.2).bind (fun q1 => if xp_in q1 3540 = true then (if (s6.2.1 6 1 q1.toNatClampNeg) = (-6 : Int32) then ((f_X7_day k6v2 s6.2).bind (fun q4 => some (.inl (s6.1 + (1 : Int32), q4.2)))) else (Option.map Sum.inr (f_X7_daysTo_j41 k6v1 k6v2 s6.1 s6.2))) else none)) else (Option.map Sum.inr (f_X7_daysTo_j41 k6v1 k6v2 s6.1 s6.2))
theorem f_X7_daysTo_l6_ok {X : List Int32} {k6v1 : Int32} {k6v2 : Int32} {s6 : Int32 × xM} {p : (Int32 × xM) ⊕ (Int32 × xM)} {r : xR} (h : f_X7_daysTo_l6 k6v1 k6v2 s6 = some p) (h0 : ∀ s', p = .inl s' → xq X xe 173 6 [(0, .inr (.inr (14, 6, 0))), (1, .inl k6v1), (2, .inl k6v2), (3, .inl s'.1)] [] s'.2 r) (hr : ∀ q, p = .inr (q) → ((some (.inl q.1), q.2) : xR) = r) : xq X xe 173 6 [(0, .inr (.inr (14, 6, 0))), (1, .inl k6v1), (2, .inl k6v2), (3, .inl s6.1)] [] s6.2 r := by
  unfold f_X7_daysTo_l6 at h
  refine xq_blk 2 (pc' := 10) (ls' := [(0, .inr (.inr (14, 6, 0))), (1, .inl k6v1), (2, .inl k6v2), (3, .inl s6.1)]) (st' := [.inl (300 : Int32), .inl s6.1]) (M' := s6.2) rfl ?_
  refine xq_ite h (fun c11 h => ?_) (fun c11 h => ?_)
  · refine xq_core (pc' := 13) (ls' := [(0, .inr (.inr (14, 6, 0))), (1, .inl k6v1), (2, .inl k6v2), (3, .inl s6.1)]) (st' := []) rfl (if_pos c11) ?_
    refine xq_blk 4 (pc' := 19) (ls' := [(0, .inr (.inr (14, 6, 0))), (1, .inl k6v1), (2, .inl k6v2), (3, .inl s6.1)]) (st' := [.inl k6v1, .inl k6v2, .inr (.inr (15, 6, 1))]) (M' := s6.2) rfl ?_
    refine xq_bind h (fun q1 e2 h => ?_)
    refine xq_call (j := 117) (as := [.inl k6v2, .inl k6v1]) (pc' := 22) (ls' := [(0, .inr (.inr (14, 6, 0))), (1, .inl k6v1), (2, .inl k6v2), (3, .inl s6.1)]) (st' := [.inr (.inr (15, 6, 1))]) rfl rfl (f_X7_personAt_ok e2) ?_
    refine xq_guard h (fun g3 h => ?_)
    refine xq_prim (st' := [.inl (s6.2.1 6 1 q1.toNatClampNeg)]) (M' := s6.2) rfl rfl rfl (xg_ald0 rfl g3) ?_
    refine xq_blk 1 (pc' := 25) (ls' := [(0, .inr (.inr (14, 6, 0))), (1, .inl k6v1), (2, .inl k6v2), (3, .inl s6.1)]) (st' := [.inl (-6 : Int32), .inl (s6.2.1 6 1 q1.toNatClampNeg)]) (M' := s6.2) rfl ?_
    refine xq_ite h (fun c10 h => ?_) (fun c10 h => ?_)
    · refine xq_core (pc' := 28) (ls' := [(0, .inr (.inr (14, 6, 0))), (1, .inl k6v1), (2, .inl k6v2), (3, .inl s6.1)]) (st' := []) rfl (if_pos c10) ?_
      refine xq_blk 2 (pc' := 30) (ls' := [(0, .inr (.inr (14, 6, 0))), (1, .inl k6v1), (2, .inl k6v2), (3, .inl s6.1)]) (st' := [.inl k6v2, .inr (.inr (14, 6, 0))]) (M' := s6.2) rfl ?_
      refine xq_bind h (fun q4 e5 h => ?_)
      refine xq_call (j := 134) (as := [.inr (.inr (14, 6, 0)), .inl k6v2]) (pc' := 33) (ls' := [(0, .inr (.inr (14, 6, 0))), (1, .inl k6v1), (2, .inl k6v2), (3, .inl s6.1)]) (st' := []) rfl rfl (f_X7_day_ok e5) ?_
      refine xq_blk 3 (pc' := 6) (ls' := [(3, .inl (s6.1 + (1 : Int32))), (4, .inl q4.1), (0, .inr (.inr (14, 6, 0))), (1, .inl k6v1), (2, .inl k6v2)]) (st' := []) (M' := q4.2) rfl ?_
      exact xq_sub (a := [(0, .inr (.inr (14, 6, 0))), (1, .inl k6v1), (2, .inl k6v2), (3, .inl ((s6.1 + (1 : Int32), q4.2).1))]) ⟨rfl, rfl, rfl, rfl, trivial⟩ rfl (h0 (s6.1 + (1 : Int32), q4.2) (Option.some.inj h).symm)
    · refine xq_core (pc' := 41) (ls' := [(0, .inr (.inr (14, 6, 0))), (1, .inl k6v1), (2, .inl k6v2), (3, .inl s6.1)]) (st' := []) rfl (if_neg c10) ?_
      refine xq_map h (fun p h e => ?_)
      replace hr := fun q e' => hr q (e.symm.trans (congrArg Sum.inr e'))
      clear e
      exact xq_sub (a := [(0, .inr (.inr (14, 6, 0))), (1, .inl k6v1), (2, .inl k6v2), (3, .inl s6.1)]) ⟨rfl, rfl, rfl, rfl, trivial⟩ rfl (f_X7_daysTo_j41_ok h hr)
  · refine xq_core (pc' := 41) (ls' := [(0, .inr (.inr (14, 6, 0))), (1, .inl k6v1), (2, .inl k6v2), (3, .inl s6.1)]) (st' := []) rfl (if_neg c11) ?_
    refine xq_map h (fun p h e => ?_)
    replace hr := fun q e' => hr q (e.symm.trans (congrArg Sum.inr e'))
    clear e
    exact xq_sub (a := [(0, .inr (.inr (14, 6, 0))), (1, .inl k6v1), (2, .inl k6v2), (3, .inl s6.1)]) ⟨rfl, rfl, rfl, rfl, trivial⟩ rfl (f_X7_daysTo_j41_ok h hr)
def f_X7_daysTo (a1 : Int32) (M : xM) : Option (Int32 × xM) := xlp (f_X7_daysTo_l6 a1 (3186 : Int32)) 4000 ((0 : Int32), M)
theorem f_X7_daysTo_run {X : List Int32} {a1 : Int32} {M : xM} {p : Int32 × xM} {r : xR} (h : f_X7_daysTo a1 M = some p) (hr : ∀ q, p = q → ((some (.inl q.1), q.2) : xR) = r) : xq X xe 173 0 [(0, .inr (.inr (14, 6, 0))), (1, .inl a1)] [] M r := by
  unfold f_X7_daysTo at h
  refine xq_blk 4 (pc' := 6) (ls' := [(3, .inl (0 : Int32)), (2, .inl (3186 : Int32)), (0, .inr (.inr (14, 6, 0))), (1, .inl a1)]) (st' := []) (M' := M) rfl ?_
  refine xq_sub (a := [(0, .inr (.inr (14, 6, 0))), (1, .inl a1), (2, .inl (3186 : Int32)), (3, .inl (0 : Int32))]) ⟨rfl, rfl, rfl, rfl, trivial⟩ rfl ?_
  exact xlp_ok (P := fun s6 => xq X xe 173 6 [(0, .inr (.inr (14, 6, 0))), (1, .inl a1), (2, .inl (3186 : Int32)), (3, .inl s6.1)] [] s6.2 r) (fun s p' hb g0 g1 => f_X7_daysTo_l6_ok hb g0 (fun q e => hr q (g1 _ e).symm)) 4000 _ h
theorem f_X7_daysTo_ok {X : List Int32} {a1 : Int32} {M : xM} {p : Int32 × xM} (h : f_X7_daysTo a1 M = some p) : xq X xe 173 0 [(0, .inr (.inr (14, 6, 0))), (1, .inl a1)] [] M ((some (.inl p.1), p.2) : xR) := f_X7_daysTo_run h (fun q e => by rw [e])
def f_X7_untilPermit (a1 : Int32) (M : xM) : Option (Int32 × xM) := (f_X7_isPerson a1 M).bind (fun q1 => if q1 = (0 : Int32) then (some (((-1 : Int32), M))) else ((f_X7_waitsFor (0 : Int32) a1 M).bind (fun q3 => if q3 = (0 : Int32) then (some (((-5 : Int32), M))) else ((f_X7_copies (0 : Int32) (9 : Int32) M).bind (fun q5 => (f_X7_daysTo a1 q5).bind (fun q7 => some ((q7.1, q7.2))))))))
theorem f_X7_untilPermit_run {X : List Int32} {a1 : Int32} {M : xM} {p : Int32 × xM} {r : xR} (h : f_X7_untilPermit a1 M = some p) (hr : ∀ q, p = q → ((some (.inl q.1), q.2) : xR) = r) : xq X xe 174 0 [(0, .inr (.inr (14, 6, 0))), (1, .inl a1)] [] M r := by
  unfold f_X7_untilPermit at h
  refine xq_blk 1 (pc' := 1) (ls' := [(0, .inr (.inr (14, 6, 0))), (1, .inl a1)]) (st' := [.inl a1]) (M' := M) rfl ?_
  refine xq_bind h (fun q1 e2 h => ?_)
  refine xq_call (j := 141) (as := [.inl a1]) (pc' := 4) (ls' := [(0, .inr (.inr (14, 6, 0))), (1, .inl a1)]) (st' := []) rfl rfl (f_X7_isPerson_ok e2) ?_
  refine xq_ite h (fun c10 h => ?_) (fun c10 h => ?_)
  · refine xq_core (pc' := 7) (ls' := [(0, .inr (.inr (14, 6, 0))), (1, .inl a1)]) (st' := []) rfl (if_pos c10) ?_
    refine xq_blk 1 (pc' := 8) (ls' := [(0, .inr (.inr (14, 6, 0))), (1, .inl a1)]) (st' := [.inl (-1 : Int32)]) (M' := M) rfl ?_
    exact (hr _ (Option.some.inj h).symm) ▸ xq_ret rfl
  · refine xq_core (pc' := 9) (ls' := [(0, .inr (.inr (14, 6, 0))), (1, .inl a1)]) (st' := []) rfl (if_neg c10) ?_
    refine xq_blk 3 (pc' := 12) (ls' := [(0, .inr (.inr (14, 6, 0))), (1, .inl a1)]) (st' := [.inl a1, .inl (0 : Int32), .inr (.inr (14, 6, 0))]) (M' := M) rfl ?_
    refine xq_bind h (fun q3 e4 h => ?_)
    refine xq_call (j := 128) (as := [.inr (.inr (14, 6, 0)), .inl (0 : Int32), .inl a1]) (pc' := 15) (ls' := [(0, .inr (.inr (14, 6, 0))), (1, .inl a1)]) (st' := []) rfl rfl (f_X7_waitsFor_ok e4) ?_
    refine xq_ite h (fun c9 h => ?_) (fun c9 h => ?_)
    · refine xq_core (pc' := 18) (ls' := [(0, .inr (.inr (14, 6, 0))), (1, .inl a1)]) (st' := []) rfl (if_pos c9) ?_
      refine xq_blk 1 (pc' := 20) (ls' := [(0, .inr (.inr (14, 6, 0))), (1, .inl a1)]) (st' := [.inl (-5 : Int32)]) (M' := M) rfl ?_
      exact (hr _ (Option.some.inj h).symm) ▸ xq_ret rfl
    · refine xq_core (pc' := 21) (ls' := [(0, .inr (.inr (14, 6, 0))), (1, .inl a1)]) (st' := []) rfl (if_neg c9) ?_
      refine xq_blk 3 (pc' := 25) (ls' := [(0, .inr (.inr (14, 6, 0))), (1, .inl a1)]) (st' := [.inl (9 : Int32), .inl (0 : Int32), .inr (.inr (14, 6, 0))]) (M' := M) rfl ?_
      refine xq_bind h (fun q5 e6 h => ?_)
      refine xq_call (j := 121) (as := [.inr (.inr (14, 6, 0)), .inl (0 : Int32), .inl (9 : Int32)]) (pc' := 28) (ls' := [(0, .inr (.inr (14, 6, 0))), (1, .inl a1)]) (st' := []) rfl rfl (f_X7_copies_ok e6) ?_
      refine xq_blk 2 (pc' := 30) (ls' := [(0, .inr (.inr (14, 6, 0))), (1, .inl a1)]) (st' := [.inl a1, .inr (.inr (14, 6, 0))]) (M' := q5) rfl ?_
      refine xq_bind h (fun q7 e8 h => ?_)
      refine xq_call (j := 173) (as := [.inr (.inr (14, 6, 0)), .inl a1]) (pc' := 33) (ls' := [(0, .inr (.inr (14, 6, 0))), (1, .inl a1)]) (st' := []) rfl rfl (f_X7_daysTo_ok e8) ?_
      exact (hr _ (Option.some.inj h).symm) ▸ xq_ret rfl
theorem f_X7_untilPermit_ok {X : List Int32} {a1 : Int32} {M : xM} {p : Int32 × xM} (h : f_X7_untilPermit a1 M = some p) : xq X xe 174 0 [(0, .inr (.inr (14, 6, 0))), (1, .inl a1)] [] M ((some (.inl p.1), p.2) : xR) := f_X7_untilPermit_run h (fun q e => by rw [e])
def f_X7_bestShed_j133_60 (k60v1 : Int32) (k60v2 : Int32) (k60v3 : Int32) (v5 : Int32) (v6 : Int32) (v8 : Int32) (v9 : Int32) (t0 : Int32) (M : xM) : Option ((Int32 × Int32 × Int32 × xM) ⊕ (Int32 × xM)) := if v9 = (0 : Int32) then (some (.inl (t0, v5, v6 + (1 : Int32), M))) else (some (.inl (t0, v8, v6 + (1 : Int32), M)))
theorem f_X7_bestShed_j133_60_ok {X : List Int32} {k60v1 : Int32} {k60v2 : Int32} {k60v3 : Int32} {v5 : Int32} {v6 : Int32} {v8 : Int32} {v9 : Int32} {t0 : Int32} {M : xM} {p : (Int32 × Int32 × Int32 × xM) ⊕ (Int32 × xM)} {r : xR} (h : f_X7_bestShed_j133_60 k60v1 k60v2 k60v3 v5 v6 v8 v9 t0 M = some p) (h0 : ∀ s', p = .inl s' → xq X xe 175 60 [(0, .inr (.inr (14, 6, 0))), (1, .inl k60v1), (2, .inl k60v2), (3, .inl k60v3), (4, .inl s'.1), (5, .inl s'.2.1), (6, .inl s'.2.2.1)] [] s'.2.2.2 r) (hr : ∀ q, p = .inr (q) → ((some (.inl q.1), q.2) : xR) = r) : xq X xe 175 133 [(0, .inr (.inr (14, 6, 0))), (1, .inl k60v1), (2, .inl k60v2), (3, .inl k60v3), (5, .inl v5), (6, .inl v6), (8, .inl v8), (9, .inl v9)] [.inl t0] M r := by
  unfold f_X7_bestShed_j133_60 at h
  refine xq_blk 2 (pc' := 137) (ls' := [(4, .inl t0), (0, .inr (.inr (14, 6, 0))), (1, .inl k60v1), (2, .inl k60v2), (3, .inl k60v3), (5, .inl v5), (6, .inl v6), (8, .inl v8), (9, .inl v9)]) (st' := [.inl v9]) (M' := M) rfl ?_
  refine xq_ite h (fun c17 h => ?_) (fun c17 h => ?_)
  · refine xq_core (pc' := 145) (ls' := [(4, .inl t0), (0, .inr (.inr (14, 6, 0))), (1, .inl k60v1), (2, .inl k60v2), (3, .inl k60v3), (5, .inl v5), (6, .inl v6), (8, .inl v8), (9, .inl v9)]) (st' := []) rfl (if_pos c17) ?_
    refine xq_blk 4 (pc' := 60) (ls' := [(6, .inl (v6 + (1 : Int32))), (5, .inl v5), (4, .inl t0), (0, .inr (.inr (14, 6, 0))), (1, .inl k60v1), (2, .inl k60v2), (3, .inl k60v3), (8, .inl v8), (9, .inl v9)]) (st' := []) (M' := M) rfl ?_
    exact xq_sub (a := [(0, .inr (.inr (14, 6, 0))), (1, .inl k60v1), (2, .inl k60v2), (3, .inl k60v3), (4, .inl ((t0, v5, v6 + (1 : Int32), M).1)), (5, .inl ((t0, v5, v6 + (1 : Int32), M).2.1)), (6, .inl ((t0, v5, v6 + (1 : Int32), M).2.2.1))]) ⟨rfl, rfl, rfl, rfl, rfl, rfl, rfl, trivial⟩ rfl (h0 (t0, v5, v6 + (1 : Int32), M) (Option.some.inj h).symm)
  · refine xq_core (pc' := 140) (ls' := [(4, .inl t0), (0, .inr (.inr (14, 6, 0))), (1, .inl k60v1), (2, .inl k60v2), (3, .inl k60v3), (5, .inl v5), (6, .inl v6), (8, .inl v8), (9, .inl v9)]) (st' := []) rfl (if_neg c17) ?_
    refine xq_blk 5 (pc' := 60) (ls' := [(6, .inl (v6 + (1 : Int32))), (5, .inl v8), (4, .inl t0), (0, .inr (.inr (14, 6, 0))), (1, .inl k60v1), (2, .inl k60v2), (3, .inl k60v3), (8, .inl v8), (9, .inl v9)]) (st' := []) (M' := M) rfl ?_
    exact xq_sub (a := [(0, .inr (.inr (14, 6, 0))), (1, .inl k60v1), (2, .inl k60v2), (3, .inl k60v3), (4, .inl ((t0, v8, v6 + (1 : Int32), M).1)), (5, .inl ((t0, v8, v6 + (1 : Int32), M).2.1)), (6, .inl ((t0, v8, v6 + (1 : Int32), M).2.2.1))]) ⟨rfl, rfl, rfl, rfl, rfl, rfl, rfl, trivial⟩ rfl (h0 (t0, v8, v6 + (1 : Int32), M) (Option.some.inj h).symm)
def f_X7_bestShed_j119_60 (k60v1 : Int32) (k60v2 : Int32) (k60v3 : Int32) (v4 : Int32) (v5 : Int32) (v6 : Int32) (v8 : Int32) (t0 : Int32) (M : xM) : Option ((Int32 × Int32 × Int32 × xM) ⊕ (Int32 × xM)) := if t0 = (0 : Int32) then (f_X7_bestShed_j133_60 k60v1 k60v2 k60v3 v5 v6 v8 t0 v4 M) else (f_X7_bestShed_j133_60 k60v1 k60v2 k60v3 v5 v6 v8 t0 v6 M)
theorem f_X7_bestShed_j119_60_ok {X : List Int32} {k60v1 : Int32} {k60v2 : Int32} {k60v3 : Int32} {v4 : Int32} {v5 : Int32} {v6 : Int32} {v8 : Int32} {t0 : Int32} {M : xM} {p : (Int32 × Int32 × Int32 × xM) ⊕ (Int32 × xM)} {r : xR} (h : f_X7_bestShed_j119_60 k60v1 k60v2 k60v3 v4 v5 v6 v8 t0 M = some p) (h0 : ∀ s', p = .inl s' → xq X xe 175 60 [(0, .inr (.inr (14, 6, 0))), (1, .inl k60v1), (2, .inl k60v2), (3, .inl k60v3), (4, .inl s'.1), (5, .inl s'.2.1), (6, .inl s'.2.2.1)] [] s'.2.2.2 r) (hr : ∀ q, p = .inr (q) → ((some (.inl q.1), q.2) : xR) = r) : xq X xe 175 119 [(0, .inr (.inr (14, 6, 0))), (1, .inl k60v1), (2, .inl k60v2), (3, .inl k60v3), (4, .inl v4), (5, .inl v5), (6, .inl v6), (8, .inl v8)] [.inl t0] M r := by
  unfold f_X7_bestShed_j119_60 at h
  refine xq_blk 2 (pc' := 123) (ls' := [(9, .inl t0), (0, .inr (.inr (14, 6, 0))), (1, .inl k60v1), (2, .inl k60v2), (3, .inl k60v3), (4, .inl v4), (5, .inl v5), (6, .inl v6), (8, .inl v8)]) (st' := [.inl t0]) (M' := M) rfl ?_
  refine xq_ite h (fun c18 h => ?_) (fun c18 h => ?_)
  · refine xq_core (pc' := 131) (ls' := [(9, .inl t0), (0, .inr (.inr (14, 6, 0))), (1, .inl k60v1), (2, .inl k60v2), (3, .inl k60v3), (4, .inl v4), (5, .inl v5), (6, .inl v6), (8, .inl v8)]) (st' := []) rfl (if_pos c18) ?_
    refine xq_blk 1 (pc' := 133) (ls' := [(9, .inl t0), (0, .inr (.inr (14, 6, 0))), (1, .inl k60v1), (2, .inl k60v2), (3, .inl k60v3), (4, .inl v4), (5, .inl v5), (6, .inl v6), (8, .inl v8)]) (st' := [.inl v4]) (M' := M) rfl ?_
    exact xq_sub (a := [(0, .inr (.inr (14, 6, 0))), (1, .inl k60v1), (2, .inl k60v2), (3, .inl k60v3), (5, .inl v5), (6, .inl v6), (8, .inl v8), (9, .inl t0)]) ⟨rfl, rfl, rfl, rfl, rfl, rfl, rfl, rfl, trivial⟩ rfl (f_X7_bestShed_j133_60_ok h h0 hr)
  · refine xq_core (pc' := 126) (ls' := [(9, .inl t0), (0, .inr (.inr (14, 6, 0))), (1, .inl k60v1), (2, .inl k60v2), (3, .inl k60v3), (4, .inl v4), (5, .inl v5), (6, .inl v6), (8, .inl v8)]) (st' := []) rfl (if_neg c18) ?_
    refine xq_blk 2 (pc' := 133) (ls' := [(9, .inl t0), (0, .inr (.inr (14, 6, 0))), (1, .inl k60v1), (2, .inl k60v2), (3, .inl k60v3), (4, .inl v4), (5, .inl v5), (6, .inl v6), (8, .inl v8)]) (st' := [.inl v6]) (M' := M) rfl ?_
    exact xq_sub (a := [(0, .inr (.inr (14, 6, 0))), (1, .inl k60v1), (2, .inl k60v2), (3, .inl k60v3), (5, .inl v5), (6, .inl v6), (8, .inl v8), (9, .inl t0)]) ⟨rfl, rfl, rfl, rfl, rfl, rfl, rfl, rfl, trivial⟩ rfl (f_X7_bestShed_j133_60_ok h h0 hr)
def f_X7_bestShed_j118_60 (k60v1 : Int32) (k60v2 : Int32) (k60v3 : Int32) (v4 : Int32) (v5 : Int32) (v6 : Int32) (v8 : Int32) (M : xM) : Option ((Int32 × Int32 × Int32 × xM) ⊕ (Int32 × xM)) := f_X7_bestShed_j119_60 k60v1 k60v2 k60v3 v4 v5 v6 v8 (0 : Int32) M
theorem f_X7_bestShed_j118_60_ok {X : List Int32} {k60v1 : Int32} {k60v2 : Int32} {k60v3 : Int32} {v4 : Int32} {v5 : Int32} {v6 : Int32} {v8 : Int32} {M : xM} {p : (Int32 × Int32 × Int32 × xM) ⊕ (Int32 × xM)} {r : xR} (h : f_X7_bestShed_j118_60 k60v1 k60v2 k60v3 v4 v5 v6 v8 M = some p) (h0 : ∀ s', p = .inl s' → xq X xe 175 60 [(0, .inr (.inr (14, 6, 0))), (1, .inl k60v1), (2, .inl k60v2), (3, .inl k60v3), (4, .inl s'.1), (5, .inl s'.2.1), (6, .inl s'.2.2.1)] [] s'.2.2.2 r) (hr : ∀ q, p = .inr (q) → ((some (.inl q.1), q.2) : xR) = r) : xq X xe 175 118 [(0, .inr (.inr (14, 6, 0))), (1, .inl k60v1), (2, .inl k60v2), (3, .inl k60v3), (4, .inl v4), (5, .inl v5), (6, .inl v6), (8, .inl v8)] [] M r := by
  unfold f_X7_bestShed_j118_60 at h
  refine xq_blk 1 (pc' := 119) (ls' := [(0, .inr (.inr (14, 6, 0))), (1, .inl k60v1), (2, .inl k60v2), (3, .inl k60v3), (4, .inl v4), (5, .inl v5), (6, .inl v6), (8, .inl v8)]) (st' := [.inl (0 : Int32)]) (M' := M) rfl ?_
  exact xq_sub (a := [(0, .inr (.inr (14, 6, 0))), (1, .inl k60v1), (2, .inl k60v2), (3, .inl k60v3), (4, .inl v4), (5, .inl v5), (6, .inl v6), (8, .inl v8)]) ⟨rfl, rfl, rfl, rfl, rfl, rfl, rfl, rfl, trivial⟩ rfl (f_X7_bestShed_j119_60_ok h h0 hr)
def f_X7_bestShed_j114_60 (k60v1 : Int32) (k60v2 : Int32) (k60v3 : Int32) (v4 : Int32) (v5 : Int32) (v6 : Int32) (v8 : Int32) (M : xM) : Option ((Int32 × Int32 × Int32 × xM) ⊕ (Int32 × xM)) := f_X7_bestShed_j119_60 k60v1 k60v2 k60v3 v4 v5 v6 v8 (1 : Int32) M
theorem f_X7_bestShed_j114_60_ok {X : List Int32} {k60v1 : Int32} {k60v2 : Int32} {k60v3 : Int32} {v4 : Int32} {v5 : Int32} {v6 : Int32} {v8 : Int32} {M : xM} {p : (Int32 × Int32 × Int32 × xM) ⊕ (Int32 × xM)} {r : xR} (h : f_X7_bestShed_j114_60 k60v1 k60v2 k60v3 v4 v5 v6 v8 M = some p) (h0 : ∀ s', p = .inl s' → xq X xe 175 60 [(0, .inr (.inr (14, 6, 0))), (1, .inl k60v1), (2, .inl k60v2), (3, .inl k60v3), (4, .inl s'.1), (5, .inl s'.2.1), (6, .inl s'.2.2.1)] [] s'.2.2.2 r) (hr : ∀ q, p = .inr (q) → ((some (.inl q.1), q.2) : xR) = r) : xq X xe 175 114 [(0, .inr (.inr (14, 6, 0))), (1, .inl k60v1), (2, .inl k60v2), (3, .inl k60v3), (4, .inl v4), (5, .inl v5), (6, .inl v6), (8, .inl v8)] [] M r := by
  unfold f_X7_bestShed_j114_60 at h
  refine xq_blk 2 (pc' := 119) (ls' := [(0, .inr (.inr (14, 6, 0))), (1, .inl k60v1), (2, .inl k60v2), (3, .inl k60v3), (4, .inl v4), (5, .inl v5), (6, .inl v6), (8, .inl v8)]) (st' := [.inl (1 : Int32)]) (M' := M) rfl ?_
  exact xq_sub (a := [(0, .inr (.inr (14, 6, 0))), (1, .inl k60v1), (2, .inl k60v2), (3, .inl k60v3), (4, .inl v4), (5, .inl v5), (6, .inl v6), (8, .inl v8)]) ⟨rfl, rfl, rfl, rfl, rfl, rfl, rfl, rfl, trivial⟩ rfl (f_X7_bestShed_j119_60_ok h h0 hr)
def f_X7_bestShed_l60 (k60v1 : Int32) (k60v2 : Int32) (k60v3 : Int32) (s60 : Int32 × Int32 × Int32 × xM) : Option ((Int32 × Int32 × Int32 × xM) ⊕ (Int32 × xM)) := if s60.2.2.1 < (3 : Int32) then ((f_X7_copies (0 : Int32) (9 : Int32) s60.2.2.2).bind (fun q11 => (f_X7_asksFor (3186 : Int32) k60v1 s60.2.2.1 k60v2 q11).bind (fun q13 => (f_X7_daysTo k60v1 q13.2).bind (fun q15 => if q15.1 = (-6 : Int32) then (f_X7_bestShed_j118_60 k60v1 k60v2 k60v3 s60.1 s60.2.1 s60.2.2.1 q15.1 q15.2) else (if s60.1 = (-6 : Int32) then (f_X7_bestShed_j114_60 k60v1 k60v2 k60v3 s60.1 s60.2.1 s60.2.2.1 q15.1 q15.2) else (if q15.1 < s60.2.1 then (f_X7_bestShed_j114_60 k60v1 k60v2 k60v3 s60.1 s60.2.1 s60.2.2.1 q15.1 q15.2) else (f_X7_bestShed_j118_60 k60v1 k60v2 k60v3 s60.1 s60.2.1 s60.2.2.1 q15.1 q15.2))))))) else (Option.map Sum.inr (if k60v3 = (0 : Int32) then (some ((s60.1, s60.2.2.2))) else (some ((s60.2.1, s60.2.2.2)))))
theorem f_X7_bestShed_l60_ok {X : List Int32} {k60v1 : Int32} {k60v2 : Int32} {k60v3 : Int32} {s60 : Int32 × Int32 × Int32 × xM} {p : (Int32 × Int32 × Int32 × xM) ⊕ (Int32 × xM)} {r : xR} (h : f_X7_bestShed_l60 k60v1 k60v2 k60v3 s60 = some p) (h0 : ∀ s', p = .inl s' → xq X xe 175 60 [(0, .inr (.inr (14, 6, 0))), (1, .inl k60v1), (2, .inl k60v2), (3, .inl k60v3), (4, .inl s'.1), (5, .inl s'.2.1), (6, .inl s'.2.2.1)] [] s'.2.2.2 r) (hr : ∀ q, p = .inr (q) → ((some (.inl q.1), q.2) : xR) = r) : xq X xe 175 60 [(0, .inr (.inr (14, 6, 0))), (1, .inl k60v1), (2, .inl k60v2), (3, .inl k60v3), (4, .inl s60.1), (5, .inl s60.2.1), (6, .inl s60.2.2.1)] [] s60.2.2.2 r := by
  unfold f_X7_bestShed_l60 at h
  refine xq_blk 2 (pc' := 63) (ls' := [(0, .inr (.inr (14, 6, 0))), (1, .inl k60v1), (2, .inl k60v2), (3, .inl k60v3), (4, .inl s60.1), (5, .inl s60.2.1), (6, .inl s60.2.2.1)]) (st' := [.inl (3 : Int32), .inl s60.2.2.1]) (M' := s60.2.2.2) rfl ?_
  refine xq_ite h (fun c23 h => ?_) (fun c23 h => ?_)
  · refine xq_core (pc' := 66) (ls' := [(0, .inr (.inr (14, 6, 0))), (1, .inl k60v1), (2, .inl k60v2), (3, .inl k60v3), (4, .inl s60.1), (5, .inl s60.2.1), (6, .inl s60.2.2.1)]) (st' := []) rfl (if_pos c23) ?_
    refine xq_blk 3 (pc' := 70) (ls' := [(0, .inr (.inr (14, 6, 0))), (1, .inl k60v1), (2, .inl k60v2), (3, .inl k60v3), (4, .inl s60.1), (5, .inl s60.2.1), (6, .inl s60.2.2.1)]) (st' := [.inl (9 : Int32), .inl (0 : Int32), .inr (.inr (14, 6, 0))]) (M' := s60.2.2.2) rfl ?_
    refine xq_bind h (fun q11 e12 h => ?_)
    refine xq_call (j := 121) (as := [.inr (.inr (14, 6, 0)), .inl (0 : Int32), .inl (9 : Int32)]) (pc' := 73) (ls' := [(0, .inr (.inr (14, 6, 0))), (1, .inl k60v1), (2, .inl k60v2), (3, .inl k60v3), (4, .inl s60.1), (5, .inl s60.2.1), (6, .inl s60.2.2.1)]) (st' := []) rfl rfl (f_X7_copies_ok e12) ?_
    refine xq_blk 5 (pc' := 81) (ls' := [(0, .inr (.inr (14, 6, 0))), (1, .inl k60v1), (2, .inl k60v2), (3, .inl k60v3), (4, .inl s60.1), (5, .inl s60.2.1), (6, .inl s60.2.2.1)]) (st' := [.inl k60v2, .inl s60.2.2.1, .inl k60v1, .inl (3186 : Int32), .inr (.inr (14, 6, 0))]) (M' := q11) rfl ?_
    refine xq_bind h (fun q13 e14 h => ?_)
    refine xq_call (j := 132) (as := [.inr (.inr (14, 6, 0)), .inl (3186 : Int32), .inl k60v1, .inl s60.2.2.1, .inl k60v2]) (pc' := 84) (ls' := [(0, .inr (.inr (14, 6, 0))), (1, .inl k60v1), (2, .inl k60v2), (3, .inl k60v3), (4, .inl s60.1), (5, .inl s60.2.1), (6, .inl s60.2.2.1)]) (st' := []) rfl rfl (f_X7_asksFor_ok e14) ?_
    refine xq_blk 3 (pc' := 88) (ls' := [(7, .inl q13.1), (0, .inr (.inr (14, 6, 0))), (1, .inl k60v1), (2, .inl k60v2), (3, .inl k60v3), (4, .inl s60.1), (5, .inl s60.2.1), (6, .inl s60.2.2.1)]) (st' := [.inl k60v1, .inr (.inr (14, 6, 0))]) (M' := q13.2) rfl ?_
    refine xq_bind h (fun q15 e16 h => ?_)
    refine xq_call (j := 173) (as := [.inr (.inr (14, 6, 0)), .inl k60v1]) (pc' := 91) (ls' := [(7, .inl q13.1), (0, .inr (.inr (14, 6, 0))), (1, .inl k60v1), (2, .inl k60v2), (3, .inl k60v3), (4, .inl s60.1), (5, .inl s60.2.1), (6, .inl s60.2.2.1)]) (st' := []) rfl rfl (f_X7_daysTo_ok e16) ?_
    refine xq_blk 3 (pc' := 97) (ls' := [(8, .inl q15.1), (7, .inl q13.1), (0, .inr (.inr (14, 6, 0))), (1, .inl k60v1), (2, .inl k60v2), (3, .inl k60v3), (4, .inl s60.1), (5, .inl s60.2.1), (6, .inl s60.2.2.1)]) (st' := [.inl (-6 : Int32), .inl q15.1]) (M' := q15.2) rfl ?_
    refine xq_ite h (fun c21 h => ?_) (fun c21 h => ?_)
    · refine xq_core (pc' := 118) (ls' := [(8, .inl q15.1), (7, .inl q13.1), (0, .inr (.inr (14, 6, 0))), (1, .inl k60v1), (2, .inl k60v2), (3, .inl k60v3), (4, .inl s60.1), (5, .inl s60.2.1), (6, .inl s60.2.2.1)]) (st' := []) rfl (if_pos c21) ?_
      exact xq_sub (a := [(0, .inr (.inr (14, 6, 0))), (1, .inl k60v1), (2, .inl k60v2), (3, .inl k60v3), (4, .inl s60.1), (5, .inl s60.2.1), (6, .inl s60.2.2.1), (8, .inl q15.1)]) ⟨rfl, rfl, rfl, rfl, rfl, rfl, rfl, rfl, trivial⟩ rfl (f_X7_bestShed_j118_60_ok h h0 hr)
    · refine xq_core (pc' := 100) (ls' := [(8, .inl q15.1), (7, .inl q13.1), (0, .inr (.inr (14, 6, 0))), (1, .inl k60v1), (2, .inl k60v2), (3, .inl k60v3), (4, .inl s60.1), (5, .inl s60.2.1), (6, .inl s60.2.2.1)]) (st' := []) rfl (if_neg c21) ?_
      refine xq_blk 2 (pc' := 104) (ls' := [(8, .inl q15.1), (7, .inl q13.1), (0, .inr (.inr (14, 6, 0))), (1, .inl k60v1), (2, .inl k60v2), (3, .inl k60v3), (4, .inl s60.1), (5, .inl s60.2.1), (6, .inl s60.2.2.1)]) (st' := [.inl (-6 : Int32), .inl s60.1]) (M' := q15.2) rfl ?_
      refine xq_ite h (fun c20 h => ?_) (fun c20 h => ?_)
      · refine xq_core (pc' := 114) (ls' := [(8, .inl q15.1), (7, .inl q13.1), (0, .inr (.inr (14, 6, 0))), (1, .inl k60v1), (2, .inl k60v2), (3, .inl k60v3), (4, .inl s60.1), (5, .inl s60.2.1), (6, .inl s60.2.2.1)]) (st' := []) rfl (if_pos c20) ?_
        exact xq_sub (a := [(0, .inr (.inr (14, 6, 0))), (1, .inl k60v1), (2, .inl k60v2), (3, .inl k60v3), (4, .inl s60.1), (5, .inl s60.2.1), (6, .inl s60.2.2.1), (8, .inl q15.1)]) ⟨rfl, rfl, rfl, rfl, rfl, rfl, rfl, rfl, trivial⟩ rfl (f_X7_bestShed_j114_60_ok h h0 hr)
      · refine xq_core (pc' := 107) (ls' := [(8, .inl q15.1), (7, .inl q13.1), (0, .inr (.inr (14, 6, 0))), (1, .inl k60v1), (2, .inl k60v2), (3, .inl k60v3), (4, .inl s60.1), (5, .inl s60.2.1), (6, .inl s60.2.2.1)]) (st' := []) rfl (if_neg c20) ?_
        refine xq_blk 2 (pc' := 111) (ls' := [(8, .inl q15.1), (7, .inl q13.1), (0, .inr (.inr (14, 6, 0))), (1, .inl k60v1), (2, .inl k60v2), (3, .inl k60v3), (4, .inl s60.1), (5, .inl s60.2.1), (6, .inl s60.2.2.1)]) (st' := [.inl s60.2.1, .inl q15.1]) (M' := q15.2) rfl ?_
        refine xq_ite h (fun c19 h => ?_) (fun c19 h => ?_)
        · refine xq_core (pc' := 114) (ls' := [(8, .inl q15.1), (7, .inl q13.1), (0, .inr (.inr (14, 6, 0))), (1, .inl k60v1), (2, .inl k60v2), (3, .inl k60v3), (4, .inl s60.1), (5, .inl s60.2.1), (6, .inl s60.2.2.1)]) (st' := []) rfl (if_pos c19) ?_
          exact xq_sub (a := [(0, .inr (.inr (14, 6, 0))), (1, .inl k60v1), (2, .inl k60v2), (3, .inl k60v3), (4, .inl s60.1), (5, .inl s60.2.1), (6, .inl s60.2.2.1), (8, .inl q15.1)]) ⟨rfl, rfl, rfl, rfl, rfl, rfl, rfl, rfl, trivial⟩ rfl (f_X7_bestShed_j114_60_ok h h0 hr)
        · refine xq_core (pc' := 118) (ls' := [(8, .inl q15.1), (7, .inl q13.1), (0, .inr (.inr (14, 6, 0))), (1, .inl k60v1), (2, .inl k60v2), (3, .inl k60v3), (4, .inl s60.1), (5, .inl s60.2.1), (6, .inl s60.2.2.1)]) (st' := []) rfl (if_neg c19) ?_
          exact xq_sub (a := [(0, .inr (.inr (14, 6, 0))), (1, .inl k60v1), (2, .inl k60v2), (3, .inl k60v3), (4, .inl s60.1), (5, .inl s60.2.1), (6, .inl s60.2.2.1), (8, .inl q15.1)]) ⟨rfl, rfl, rfl, rfl, rfl, rfl, rfl, rfl, trivial⟩ rfl (f_X7_bestShed_j118_60_ok h h0 hr)
  · refine xq_core (pc' := 155) (ls' := [(0, .inr (.inr (14, 6, 0))), (1, .inl k60v1), (2, .inl k60v2), (3, .inl k60v3), (4, .inl s60.1), (5, .inl s60.2.1), (6, .inl s60.2.2.1)]) (st' := []) rfl (if_neg c23) ?_
    refine xq_map h (fun p h e => ?_)
    replace hr := fun q e' => hr q (e.symm.trans (congrArg Sum.inr e'))
    clear e
    refine xq_blk 1 (pc' := 156) (ls' := [(0, .inr (.inr (14, 6, 0))), (1, .inl k60v1), (2, .inl k60v2), (3, .inl k60v3), (4, .inl s60.1), (5, .inl s60.2.1), (6, .inl s60.2.2.1)]) (st' := [.inl k60v3]) (M' := s60.2.2.2) rfl ?_
    refine xq_ite h (fun c22 h => ?_) (fun c22 h => ?_)
    · refine xq_core (pc' := 159) (ls' := [(0, .inr (.inr (14, 6, 0))), (1, .inl k60v1), (2, .inl k60v2), (3, .inl k60v3), (4, .inl s60.1), (5, .inl s60.2.1), (6, .inl s60.2.2.1)]) (st' := []) rfl (if_pos c22) ?_
      refine xq_blk 2 (pc' := 166) (ls' := [(0, .inr (.inr (14, 6, 0))), (1, .inl k60v1), (2, .inl k60v2), (3, .inl k60v3), (4, .inl s60.1), (5, .inl s60.2.1), (6, .inl s60.2.2.1)]) (st' := [.inl s60.1]) (M' := s60.2.2.2) rfl ?_
      exact (hr _ (Option.some.inj h).symm) ▸ xq_ret rfl
    · refine xq_core (pc' := 164) (ls' := [(0, .inr (.inr (14, 6, 0))), (1, .inl k60v1), (2, .inl k60v2), (3, .inl k60v3), (4, .inl s60.1), (5, .inl s60.2.1), (6, .inl s60.2.2.1)]) (st' := []) rfl (if_neg c22) ?_
      refine xq_blk 1 (pc' := 166) (ls' := [(0, .inr (.inr (14, 6, 0))), (1, .inl k60v1), (2, .inl k60v2), (3, .inl k60v3), (4, .inl s60.1), (5, .inl s60.2.1), (6, .inl s60.2.2.1)]) (st' := [.inl s60.2.1]) (M' := s60.2.2.2) rfl ?_
      exact (hr _ (Option.some.inj h).symm) ▸ xq_ret rfl
def f_X7_bestShed (a1 : Int32) (a2 : Int32) (a3 : Int32) (M : xM) : Option (Int32 × xM) := (f_X7_isPerson a1 M).bind (fun q1 => if q1 = (0 : Int32) then (some (((-1 : Int32), M))) else ((f_X7_areDays a2 M).bind (fun q3 => if q3 = (0 : Int32) then (some (((-2 : Int32), M))) else ((f_X7_in a3.toInt64 (0 : Int64) (1 : Int64) M).bind (fun q5 => if q5 = (0 : Int32) then (some (((-2 : Int32), M))) else ((f_X7_hasPermit a1 M).bind (fun q7 => if q7 = (0 : Int32) then ((f_X7_waitsFor (0 : Int32) a1 M).bind (fun q9 => if q9 = (0 : Int32) then (xlp (f_X7_bestShed_l60 a1 a2 a3) 4000 ((-6 : Int32), (-6 : Int32), (0 : Int32), M)) else (some (((-5 : Int32), M))))) else (some (((-5 : Int32), M))))))))))
theorem f_X7_bestShed_run {X : List Int32} {a1 : Int32} {a2 : Int32} {a3 : Int32} {M : xM} {p : Int32 × xM} {r : xR} (h : f_X7_bestShed a1 a2 a3 M = some p) (hr : ∀ q, p = q → ((some (.inl q.1), q.2) : xR) = r) : xq X xe 175 0 [(0, .inr (.inr (14, 6, 0))), (1, .inl a1), (2, .inl a2), (3, .inl a3)] [] M r := by
  unfold f_X7_bestShed at h
  refine xq_blk 1 (pc' := 1) (ls' := [(0, .inr (.inr (14, 6, 0))), (1, .inl a1), (2, .inl a2), (3, .inl a3)]) (st' := [.inl a1]) (M' := M) rfl ?_
  refine xq_bind h (fun q1 e2 h => ?_)
  refine xq_call (j := 141) (as := [.inl a1]) (pc' := 4) (ls' := [(0, .inr (.inr (14, 6, 0))), (1, .inl a1), (2, .inl a2), (3, .inl a3)]) (st' := []) rfl rfl (f_X7_isPerson_ok e2) ?_
  refine xq_ite h (fun c28 h => ?_) (fun c28 h => ?_)
  · refine xq_core (pc' := 7) (ls' := [(0, .inr (.inr (14, 6, 0))), (1, .inl a1), (2, .inl a2), (3, .inl a3)]) (st' := []) rfl (if_pos c28) ?_
    refine xq_blk 1 (pc' := 8) (ls' := [(0, .inr (.inr (14, 6, 0))), (1, .inl a1), (2, .inl a2), (3, .inl a3)]) (st' := [.inl (-1 : Int32)]) (M' := M) rfl ?_
    exact (hr _ (Option.some.inj h).symm) ▸ xq_ret rfl
  · refine xq_core (pc' := 9) (ls' := [(0, .inr (.inr (14, 6, 0))), (1, .inl a1), (2, .inl a2), (3, .inl a3)]) (st' := []) rfl (if_neg c28) ?_
    refine xq_blk 1 (pc' := 10) (ls' := [(0, .inr (.inr (14, 6, 0))), (1, .inl a1), (2, .inl a2), (3, .inl a3)]) (st' := [.inl a2]) (M' := M) rfl ?_
    refine xq_bind h (fun q3 e4 h => ?_)
    refine xq_call (j := 143) (as := [.inl a2]) (pc' := 13) (ls' := [(0, .inr (.inr (14, 6, 0))), (1, .inl a1), (2, .inl a2), (3, .inl a3)]) (st' := []) rfl rfl (f_X7_areDays_ok e4) ?_
    refine xq_ite h (fun c27 h => ?_) (fun c27 h => ?_)
    · refine xq_core (pc' := 26) (ls' := [(0, .inr (.inr (14, 6, 0))), (1, .inl a1), (2, .inl a2), (3, .inl a3)]) (st' := []) rfl (if_pos c27) ?_
      refine xq_blk 1 (pc' := 28) (ls' := [(0, .inr (.inr (14, 6, 0))), (1, .inl a1), (2, .inl a2), (3, .inl a3)]) (st' := [.inl (-2 : Int32)]) (M' := M) rfl ?_
      exact (hr _ (Option.some.inj h).symm) ▸ xq_ret rfl
    · refine xq_core (pc' := 16) (ls' := [(0, .inr (.inr (14, 6, 0))), (1, .inl a1), (2, .inl a2), (3, .inl a3)]) (st' := []) rfl (if_neg c27) ?_
      refine xq_blk 4 (pc' := 20) (ls' := [(0, .inr (.inr (14, 6, 0))), (1, .inl a1), (2, .inl a2), (3, .inl a3)]) (st' := [.inr (.inl (1 : Int64)), .inr (.inl (0 : Int64)), .inr (.inl a3.toInt64)]) (M' := M) rfl ?_
      refine xq_bind h (fun q5 e6 h => ?_)
      refine xq_call (j := 119) (as := [.inr (.inl a3.toInt64), .inr (.inl (0 : Int64)), .inr (.inl (1 : Int64))]) (pc' := 23) (ls' := [(0, .inr (.inr (14, 6, 0))), (1, .inl a1), (2, .inl a2), (3, .inl a3)]) (st' := []) rfl rfl (f_X7_in_ok e6) ?_
      refine xq_ite h (fun c26 h => ?_) (fun c26 h => ?_)
      · refine xq_core (pc' := 26) (ls' := [(0, .inr (.inr (14, 6, 0))), (1, .inl a1), (2, .inl a2), (3, .inl a3)]) (st' := []) rfl (if_pos c26) ?_
        refine xq_blk 1 (pc' := 28) (ls' := [(0, .inr (.inr (14, 6, 0))), (1, .inl a1), (2, .inl a2), (3, .inl a3)]) (st' := [.inl (-2 : Int32)]) (M' := M) rfl ?_
        exact (hr _ (Option.some.inj h).symm) ▸ xq_ret rfl
      · refine xq_core (pc' := 29) (ls' := [(0, .inr (.inr (14, 6, 0))), (1, .inl a1), (2, .inl a2), (3, .inl a3)]) (st' := []) rfl (if_neg c26) ?_
        refine xq_blk 2 (pc' := 31) (ls' := [(0, .inr (.inr (14, 6, 0))), (1, .inl a1), (2, .inl a2), (3, .inl a3)]) (st' := [.inl a1, .inr (.inr (14, 6, 0))]) (M' := M) rfl ?_
        refine xq_bind h (fun q7 e8 h => ?_)
        refine xq_call (j := 144) (as := [.inr (.inr (14, 6, 0)), .inl a1]) (pc' := 34) (ls' := [(0, .inr (.inr (14, 6, 0))), (1, .inl a1), (2, .inl a2), (3, .inl a3)]) (st' := []) rfl rfl (f_X7_hasPermit_ok e8) ?_
        refine xq_ite h (fun c25 h => ?_) (fun c25 h => ?_)
        · refine xq_core (pc' := 37) (ls' := [(0, .inr (.inr (14, 6, 0))), (1, .inl a1), (2, .inl a2), (3, .inl a3)]) (st' := []) rfl (if_pos c25) ?_
          refine xq_blk 3 (pc' := 40) (ls' := [(0, .inr (.inr (14, 6, 0))), (1, .inl a1), (2, .inl a2), (3, .inl a3)]) (st' := [.inl a1, .inl (0 : Int32), .inr (.inr (14, 6, 0))]) (M' := M) rfl ?_
          refine xq_bind h (fun q9 e10 h => ?_)
          refine xq_call (j := 128) (as := [.inr (.inr (14, 6, 0)), .inl (0 : Int32), .inl a1]) (pc' := 43) (ls' := [(0, .inr (.inr (14, 6, 0))), (1, .inl a1), (2, .inl a2), (3, .inl a3)]) (st' := []) rfl rfl (f_X7_waitsFor_ok e10) ?_
          refine xq_ite h (fun c24 h => ?_) (fun c24 h => ?_)
          · refine xq_core (pc' := 49) (ls' := [(0, .inr (.inr (14, 6, 0))), (1, .inl a1), (2, .inl a2), (3, .inl a3)]) (st' := []) rfl (if_pos c24) ?_
            refine xq_blk 6 (pc' := 60) (ls' := [(6, .inl (0 : Int32)), (5, .inl (-6 : Int32)), (4, .inl (-6 : Int32)), (0, .inr (.inr (14, 6, 0))), (1, .inl a1), (2, .inl a2), (3, .inl a3)]) (st' := []) (M' := M) rfl ?_
            refine xq_sub (a := [(0, .inr (.inr (14, 6, 0))), (1, .inl a1), (2, .inl a2), (3, .inl a3), (4, .inl (-6 : Int32)), (5, .inl (-6 : Int32)), (6, .inl (0 : Int32))]) ⟨rfl, rfl, rfl, rfl, rfl, rfl, rfl, trivial⟩ rfl ?_
            exact xlp_ok (P := fun s60 => xq X xe 175 60 [(0, .inr (.inr (14, 6, 0))), (1, .inl a1), (2, .inl a2), (3, .inl a3), (4, .inl s60.1), (5, .inl s60.2.1), (6, .inl s60.2.2.1)] [] s60.2.2.2 r) (fun s p' hb g0 g1 => f_X7_bestShed_l60_ok hb g0 (fun q e => hr q (g1 _ e).symm)) 4000 _ h
          · refine xq_core (pc' := 46) (ls' := [(0, .inr (.inr (14, 6, 0))), (1, .inl a1), (2, .inl a2), (3, .inl a3)]) (st' := []) rfl (if_neg c24) ?_
            refine xq_blk 1 (pc' := 48) (ls' := [(0, .inr (.inr (14, 6, 0))), (1, .inl a1), (2, .inl a2), (3, .inl a3)]) (st' := [.inl (-5 : Int32)]) (M' := M) rfl ?_
            exact (hr _ (Option.some.inj h).symm) ▸ xq_ret rfl
        · refine xq_core (pc' := 46) (ls' := [(0, .inr (.inr (14, 6, 0))), (1, .inl a1), (2, .inl a2), (3, .inl a3)]) (st' := []) rfl (if_neg c25) ?_
          refine xq_blk 1 (pc' := 48) (ls' := [(0, .inr (.inr (14, 6, 0))), (1, .inl a1), (2, .inl a2), (3, .inl a3)]) (st' := [.inl (-5 : Int32)]) (M' := M) rfl ?_
          exact (hr _ (Option.some.inj h).symm) ▸ xq_ret rfl
theorem f_X7_bestShed_ok {X : List Int32} {a1 : Int32} {a2 : Int32} {a3 : Int32} {M : xM} {p : Int32 × xM} (h : f_X7_bestShed a1 a2 a3 M = some p) : xq X xe 175 0 [(0, .inr (.inr (14, 6, 0))), (1, .inl a1), (2, .inl a2), (3, .inl a3)] [] M ((some (.inl p.1), p.2) : xR) := f_X7_bestShed_run h (fun q e => by rw [e])
def f_X7_ifSwept (a1 : Int32) (a2 : Int32) (M : xM) : Option (Int32 × xM) := (f_X7_isShed a1 M).bind (fun q1 => if q1 = (0 : Int32) then (some (((-1 : Int32), M))) else ((f_X7_in a2.toInt64 (0 : Int64) (99 : Int64) M).bind (fun q3 => if q3 = (0 : Int32) then (some (((-2 : Int32), M))) else ((f_X7_copies (0 : Int32) (9 : Int32) M).bind (fun q5 => (f_X7_days (3186 : Int32) a2 q5).bind (fun q7 => (f_X7_sweeps (3186 : Int32) a1 q7.2).bind (fun q9 => some ((q9.1, q9.2)))))))))
theorem f_X7_ifSwept_run {X : List Int32} {a1 : Int32} {a2 : Int32} {M : xM} {p : Int32 × xM} {r : xR} (h : f_X7_ifSwept a1 a2 M = some p) (hr : ∀ q, p = q → ((some (.inl q.1), q.2) : xR) = r) : xq X xe 176 0 [(0, .inr (.inr (14, 6, 0))), (1, .inl a1), (2, .inl a2)] [] M r := by
  unfold f_X7_ifSwept at h
  refine xq_blk 1 (pc' := 1) (ls' := [(0, .inr (.inr (14, 6, 0))), (1, .inl a1), (2, .inl a2)]) (st' := [.inl a1]) (M' := M) rfl ?_
  refine xq_bind h (fun q1 e2 h => ?_)
  refine xq_call (j := 142) (as := [.inl a1]) (pc' := 4) (ls' := [(0, .inr (.inr (14, 6, 0))), (1, .inl a1), (2, .inl a2)]) (st' := []) rfl rfl (f_X7_isShed_ok e2) ?_
  refine xq_ite h (fun c12 h => ?_) (fun c12 h => ?_)
  · refine xq_core (pc' := 7) (ls' := [(0, .inr (.inr (14, 6, 0))), (1, .inl a1), (2, .inl a2)]) (st' := []) rfl (if_pos c12) ?_
    refine xq_blk 1 (pc' := 8) (ls' := [(0, .inr (.inr (14, 6, 0))), (1, .inl a1), (2, .inl a2)]) (st' := [.inl (-1 : Int32)]) (M' := M) rfl ?_
    exact (hr _ (Option.some.inj h).symm) ▸ xq_ret rfl
  · refine xq_core (pc' := 9) (ls' := [(0, .inr (.inr (14, 6, 0))), (1, .inl a1), (2, .inl a2)]) (st' := []) rfl (if_neg c12) ?_
    refine xq_blk 4 (pc' := 15) (ls' := [(0, .inr (.inr (14, 6, 0))), (1, .inl a1), (2, .inl a2)]) (st' := [.inr (.inl (99 : Int64)), .inr (.inl (0 : Int64)), .inr (.inl a2.toInt64)]) (M' := M) rfl ?_
    refine xq_bind h (fun q3 e4 h => ?_)
    refine xq_call (j := 119) (as := [.inr (.inl a2.toInt64), .inr (.inl (0 : Int64)), .inr (.inl (99 : Int64))]) (pc' := 18) (ls' := [(0, .inr (.inr (14, 6, 0))), (1, .inl a1), (2, .inl a2)]) (st' := []) rfl rfl (f_X7_in_ok e4) ?_
    refine xq_ite h (fun c11 h => ?_) (fun c11 h => ?_)
    · refine xq_core (pc' := 21) (ls' := [(0, .inr (.inr (14, 6, 0))), (1, .inl a1), (2, .inl a2)]) (st' := []) rfl (if_pos c11) ?_
      refine xq_blk 1 (pc' := 23) (ls' := [(0, .inr (.inr (14, 6, 0))), (1, .inl a1), (2, .inl a2)]) (st' := [.inl (-2 : Int32)]) (M' := M) rfl ?_
      exact (hr _ (Option.some.inj h).symm) ▸ xq_ret rfl
    · refine xq_core (pc' := 24) (ls' := [(0, .inr (.inr (14, 6, 0))), (1, .inl a1), (2, .inl a2)]) (st' := []) rfl (if_neg c11) ?_
      refine xq_blk 3 (pc' := 28) (ls' := [(0, .inr (.inr (14, 6, 0))), (1, .inl a1), (2, .inl a2)]) (st' := [.inl (9 : Int32), .inl (0 : Int32), .inr (.inr (14, 6, 0))]) (M' := M) rfl ?_
      refine xq_bind h (fun q5 e6 h => ?_)
      refine xq_call (j := 121) (as := [.inr (.inr (14, 6, 0)), .inl (0 : Int32), .inl (9 : Int32)]) (pc' := 31) (ls' := [(0, .inr (.inr (14, 6, 0))), (1, .inl a1), (2, .inl a2)]) (st' := []) rfl rfl (f_X7_copies_ok e6) ?_
      refine xq_blk 3 (pc' := 36) (ls' := [(0, .inr (.inr (14, 6, 0))), (1, .inl a1), (2, .inl a2)]) (st' := [.inl a2, .inl (3186 : Int32), .inr (.inr (14, 6, 0))]) (M' := q5) rfl ?_
      refine xq_bind h (fun q7 e8 h => ?_)
      refine xq_call (j := 135) (as := [.inr (.inr (14, 6, 0)), .inl (3186 : Int32), .inl a2]) (pc' := 39) (ls' := [(0, .inr (.inr (14, 6, 0))), (1, .inl a1), (2, .inl a2)]) (st' := []) rfl rfl (f_X7_days_ok e8) ?_
      refine xq_blk 4 (pc' := 45) (ls' := [(3, .inl q7.1), (0, .inr (.inr (14, 6, 0))), (1, .inl a1), (2, .inl a2)]) (st' := [.inl a1, .inl (3186 : Int32), .inr (.inr (14, 6, 0))]) (M' := q7.2) rfl ?_
      refine xq_bind h (fun q9 e10 h => ?_)
      refine xq_call (j := 139) (as := [.inr (.inr (14, 6, 0)), .inl (3186 : Int32), .inl a1]) (pc' := 48) (ls' := [(3, .inl q7.1), (0, .inr (.inr (14, 6, 0))), (1, .inl a1), (2, .inl a2)]) (st' := []) rfl rfl (f_X7_sweeps_ok e10) ?_
      exact (hr _ (Option.some.inj h).symm) ▸ xq_ret rfl
theorem f_X7_ifSwept_ok {X : List Int32} {a1 : Int32} {a2 : Int32} {M : xM} {p : Int32 × xM} (h : f_X7_ifSwept a1 a2 M = some p) : xq X xe 176 0 [(0, .inr (.inr (14, 6, 0))), (1, .inl a1), (2, .inl a2)] [] M ((some (.inl p.1), p.2) : xR) := f_X7_ifSwept_run h (fun q e => by rw [e])
def f_X7_charactersOf_j40 (v2 : Int64) (v4 : Int32) (M : xM) : Option (Int32) := if (lg_cmp v2 (0 : Int64)) = (0 : Int32) then (some (v4)) else (some ((0 : Int32)))
theorem f_X7_charactersOf_j40_ok {X : List Int32} {v2 : Int64} {v4 : Int32} {M : xM} {p : Int32} {r : xR} (h : f_X7_charactersOf_j40 v2 v4 M = some p) (hr : ∀ q, p = q → ((some (.inl q), M) : xR) = r) : xq X xe 177 40 [(2, .inr (.inl v2)), (4, .inl v4)] [] M r := by
  unfold f_X7_charactersOf_j40 at h
  refine xq_blk 3 (pc' := 43) (ls' := [(2, .inr (.inl v2)), (4, .inl v4)]) (st' := [.inl (lg_cmp v2 (0 : Int64))]) (M' := M) rfl ?_
  refine xq_ite h (fun c3 h => ?_) (fun c3 h => ?_)
  · refine xq_core (pc' := 46) (ls' := [(2, .inr (.inl v2)), (4, .inl v4)]) (st' := []) rfl (if_pos c3) ?_
    refine xq_blk 2 (pc' := 52) (ls' := [(2, .inr (.inl v2)), (4, .inl v4)]) (st' := [.inl v4]) (M' := M) rfl ?_
    exact (hr _ (Option.some.inj h).symm) ▸ xq_ret rfl
  · refine xq_core (pc' := 51) (ls' := [(2, .inr (.inl v2)), (4, .inl v4)]) (st' := []) rfl (if_neg c3) ?_
    refine xq_blk 1 (pc' := 52) (ls' := [(2, .inr (.inl v2)), (4, .inl v4)]) (st' := [.inl (0 : Int32)]) (M' := M) rfl ?_
    exact (hr _ (Option.some.inj h).symm) ▸ xq_ret rfl
def f_X7_charactersOf_l5  (M : xM) (s5 : Int64 × Int32) : Option ((Int64 × Int32) ⊕ (Int32)) := if s5.2 < (8 : Int32) then ((f_X7_in (s5.1 &&& (255 : Int64)) (33 : Int64) (126 : Int64) M).bind (fun q1 => if q1 = (0 : Int32) then (Option.map Sum.inr (f_X7_charactersOf_j40 s5.1 s5.2 M)) else (some (.inl ((s5.1.toUInt64 >>> ((8 : Int32).toInt64.toUInt64 &&& Int64.toUInt64 (63 : Int64))).toInt64, s5.2 + (1 : Int32)))))) else (Option.map Sum.inr (f_X7_charactersOf_j40 s5.1 s5.2 M))
theorem f_X7_charactersOf_l5_ok {X : List Int32}  {M : xM} {s5 : Int64 × Int32} {p : (Int64 × Int32) ⊕ (Int32)} {r : xR} (h : f_X7_charactersOf_l5  M s5 = some p) (h0 : ∀ s', p = .inl s' → xq X xe 177 5 [(2, .inr (.inl s'.1)), (4, .inl s'.2)] [] M r) (hr : ∀ q, p = .inr (q) → ((some (.inl q), M) : xR) = r) : xq X xe 177 5 [(2, .inr (.inl s5.1)), (4, .inl s5.2)] [] M r := by
  unfold f_X7_charactersOf_l5 at h
  refine xq_blk 2 (pc' := 9) (ls' := [(2, .inr (.inl s5.1)), (4, .inl s5.2)]) (st' := [.inl (8 : Int32), .inl s5.2]) (M' := M) rfl ?_
  refine xq_ite h (fun c5 h => ?_) (fun c5 h => ?_)
  · refine xq_core (pc' := 12) (ls' := [(2, .inr (.inl s5.1)), (4, .inl s5.2)]) (st' := []) rfl (if_pos c5) ?_
    refine xq_blk 5 (pc' := 23) (ls' := [(2, .inr (.inl s5.1)), (4, .inl s5.2)]) (st' := [.inr (.inl (126 : Int64)), .inr (.inl (33 : Int64)), .inr (.inl (s5.1 &&& (255 : Int64)))]) (M' := M) rfl ?_
    refine xq_bind h (fun q1 e2 h => ?_)
    refine xq_call (j := 119) (as := [.inr (.inl (s5.1 &&& (255 : Int64))), .inr (.inl (33 : Int64)), .inr (.inl (126 : Int64))]) (pc' := 26) (ls' := [(2, .inr (.inl s5.1)), (4, .inl s5.2)]) (st' := []) rfl rfl (f_X7_in_ok e2) ?_
    refine xq_ite h (fun c4 h => ?_) (fun c4 h => ?_)
    · refine xq_core (pc' := 40) (ls' := [(2, .inr (.inl s5.1)), (4, .inl s5.2)]) (st' := []) rfl (if_pos c4) ?_
      refine xq_map h (fun p h e => ?_)
      replace hr := fun q e' => hr q (e.symm.trans (congrArg Sum.inr e'))
      clear e
      exact xq_sub (a := [(2, .inr (.inl s5.1)), (4, .inl s5.2)]) ⟨rfl, rfl, trivial⟩ rfl (f_X7_charactersOf_j40_ok h hr)
    · refine xq_core (pc' := 29) (ls' := [(2, .inr (.inl s5.1)), (4, .inl s5.2)]) (st' := []) rfl (if_neg c4) ?_
      refine xq_blk 6 (pc' := 5) (ls' := [(4, .inl (s5.2 + (1 : Int32))), (2, .inr (.inl ((s5.1.toUInt64 >>> ((8 : Int32).toInt64.toUInt64 &&& Int64.toUInt64 (63 : Int64))).toInt64)))]) (st' := []) (M' := M) rfl ?_
      exact xq_sub (a := [(2, .inr (.inl (((s5.1.toUInt64 >>> ((8 : Int32).toInt64.toUInt64 &&& Int64.toUInt64 (63 : Int64))).toInt64, s5.2 + (1 : Int32)).1))), (4, .inl (((s5.1.toUInt64 >>> ((8 : Int32).toInt64.toUInt64 &&& Int64.toUInt64 (63 : Int64))).toInt64, s5.2 + (1 : Int32)).2))]) ⟨rfl, rfl, trivial⟩ rfl (h0 ((s5.1.toUInt64 >>> ((8 : Int32).toInt64.toUInt64 &&& Int64.toUInt64 (63 : Int64))).toInt64, s5.2 + (1 : Int32)) (Option.some.inj h).symm)
  · refine xq_core (pc' := 40) (ls' := [(2, .inr (.inl s5.1)), (4, .inl s5.2)]) (st' := []) rfl (if_neg c5) ?_
    refine xq_map h (fun p h e => ?_)
    replace hr := fun q e' => hr q (e.symm.trans (congrArg Sum.inr e'))
    clear e
    exact xq_sub (a := [(2, .inr (.inl s5.1)), (4, .inl s5.2)]) ⟨rfl, rfl, trivial⟩ rfl (f_X7_charactersOf_j40_ok h hr)
def f_X7_charactersOf (a0 : Int64) (M : xM) : Option (Int32) := xlp (f_X7_charactersOf_l5 M) 4000 (a0, (0 : Int32))
theorem f_X7_charactersOf_run {X : List Int32} {a0 : Int64} {M : xM} {p : Int32} {r : xR} (h : f_X7_charactersOf a0 M = some p) (hr : ∀ q, p = q → ((some (.inl q), M) : xR) = r) : xq X xe 177 0 [(0, .inr (.inl a0))] [] M r := by
  unfold f_X7_charactersOf at h
  refine xq_blk 4 (pc' := 5) (ls' := [(4, .inl (0 : Int32)), (2, .inr (.inl a0)), (0, .inr (.inl a0))]) (st' := []) (M' := M) rfl ?_
  refine xq_sub (a := [(2, .inr (.inl a0)), (4, .inl (0 : Int32))]) ⟨rfl, rfl, trivial⟩ rfl ?_
  exact xlp_ok (P := fun s5 => xq X xe 177 5 [(2, .inr (.inl s5.1)), (4, .inl s5.2)] [] M r) (fun s p' hb g0 g1 => f_X7_charactersOf_l5_ok hb g0 (fun q e => hr q (g1 _ e).symm)) 4000 _ h
theorem f_X7_charactersOf_ok {X : List Int32} {a0 : Int64} {M : xM} {p : Int32} (h : f_X7_charactersOf a0 M = some p) : xq X xe 177 0 [(0, .inr (.inl a0))] [] M ((some (.inl p), M) : xR) := f_X7_charactersOf_run h (fun q e => by rw [e])
def f_X7_put_l29 (k29v1 : Int64) (k29v3 : Int32) (s29 : Int32 × xM) : Option ((Int32 × xM) ⊕ (Int32 × xM)) := if s29.1 < k29v3 then (if xp_in ((s29.2.1 6 0 4) + s29.1) 60 = true then (some (.inl (s29.1 + (1 : Int32), xd_up s29.2 6 3 ((s29.2.1 6 0 4) + s29.1).toNatClampNeg ((((k29v1.toUInt64 >>> (((8 : Int32) * ((k29v3 - (1 : Int32)) - s29.1)).toInt64.toUInt64 &&& Int64.toUInt64 (63 : Int64))).toInt64) &&& (255 : Int64)).toInt32)))) else none) else (Option.map Sum.inr (some (((xd_up s29.2 6 0 4 ((s29.2.1 6 0 4) + k29v3)).1 6 0 4, xd_up s29.2 6 0 4 ((s29.2.1 6 0 4) + k29v3)))))
theorem f_X7_put_l29_ok {X : List Int32} {k29v1 : Int64} {k29v3 : Int32} {s29 : Int32 × xM} {p : (Int32 × xM) ⊕ (Int32 × xM)} {r : xR} (h : f_X7_put_l29 k29v1 k29v3 s29 = some p) (h0 : ∀ s', p = .inl s' → xq X xe 178 29 [(0, .inr (.inr (14, 6, 0))), (1, .inr (.inl k29v1)), (3, .inl k29v3), (4, .inl s'.1)] [] s'.2 r) (hr : ∀ q, p = .inr (q) → ((some (.inl q.1), q.2) : xR) = r) : xq X xe 178 29 [(0, .inr (.inr (14, 6, 0))), (1, .inr (.inl k29v1)), (3, .inl k29v3), (4, .inl s29.1)] [] s29.2 r := by
  unfold f_X7_put_l29 at h
  refine xq_blk 2 (pc' := 32) (ls' := [(0, .inr (.inr (14, 6, 0))), (1, .inr (.inl k29v1)), (3, .inl k29v3), (4, .inl s29.1)]) (st' := [.inl k29v3, .inl s29.1]) (M' := s29.2) rfl ?_
  refine xq_ite h (fun c4 h => ?_) (fun c4 h => ?_)
  · refine xq_core (pc' := 35) (ls' := [(0, .inr (.inr (14, 6, 0))), (1, .inr (.inl k29v1)), (3, .inl k29v3), (4, .inl s29.1)]) (st' := []) rfl (if_pos c4) ?_
    refine xq_blk 10 (pc' := 51) (ls' := [(0, .inr (.inr (14, 6, 0))), (1, .inr (.inl k29v1)), (3, .inl k29v3), (4, .inl s29.1)]) (st' := [.inl (1 : Int32), .inl k29v3, .inl (8 : Int32), .inr (.inl k29v1), .inl ((s29.2.1 6 0 4) + s29.1), .inr (.inr (17, 6, 3))]) (M' := s29.2) rfl ?_
    refine xq_blk 8 (pc' := 62) (ls' := [(0, .inr (.inr (14, 6, 0))), (1, .inr (.inl k29v1)), (3, .inl k29v3), (4, .inl s29.1)]) (st' := [.inl ((((k29v1.toUInt64 >>> (((8 : Int32) * ((k29v3 - (1 : Int32)) - s29.1)).toInt64.toUInt64 &&& Int64.toUInt64 (63 : Int64))).toInt64) &&& (255 : Int64)).toInt32), .inl ((s29.2.1 6 0 4) + s29.1), .inr (.inr (17, 6, 3))]) (M' := s29.2) rfl ?_
    refine xq_guard h (fun g3 h => ?_)
    refine xq_prim (st' := []) (M' := xd_up s29.2 6 3 ((s29.2.1 6 0 4) + s29.1).toNatClampNeg ((((k29v1.toUInt64 >>> (((8 : Int32) * ((k29v3 - (1 : Int32)) - s29.1)).toInt64.toUInt64 &&& Int64.toUInt64 (63 : Int64))).toInt64) &&& (255 : Int64)).toInt32)) rfl rfl rfl (xg_ast0 rfl g3) ?_
    refine xq_blk 2 (pc' := 29) (ls' := [(4, .inl (s29.1 + (1 : Int32))), (0, .inr (.inr (14, 6, 0))), (1, .inr (.inl k29v1)), (3, .inl k29v3)]) (st' := []) (M' := xd_up s29.2 6 3 ((s29.2.1 6 0 4) + s29.1).toNatClampNeg ((((k29v1.toUInt64 >>> (((8 : Int32) * ((k29v3 - (1 : Int32)) - s29.1)).toInt64.toUInt64 &&& Int64.toUInt64 (63 : Int64))).toInt64) &&& (255 : Int64)).toInt32)) rfl ?_
    exact xq_sub (a := [(0, .inr (.inr (14, 6, 0))), (1, .inr (.inl k29v1)), (3, .inl k29v3), (4, .inl ((s29.1 + (1 : Int32), xd_up s29.2 6 3 ((s29.2.1 6 0 4) + s29.1).toNatClampNeg ((((k29v1.toUInt64 >>> (((8 : Int32) * ((k29v3 - (1 : Int32)) - s29.1)).toInt64.toUInt64 &&& Int64.toUInt64 (63 : Int64))).toInt64) &&& (255 : Int64)).toInt32)).1))]) ⟨rfl, rfl, rfl, rfl, trivial⟩ rfl (h0 (s29.1 + (1 : Int32), xd_up s29.2 6 3 ((s29.2.1 6 0 4) + s29.1).toNatClampNeg ((((k29v1.toUInt64 >>> (((8 : Int32) * ((k29v3 - (1 : Int32)) - s29.1)).toInt64.toUInt64 &&& Int64.toUInt64 (63 : Int64))).toInt64) &&& (255 : Int64)).toInt32)) (Option.some.inj h).symm)
  · refine xq_core (pc' := 69) (ls' := [(0, .inr (.inr (14, 6, 0))), (1, .inr (.inl k29v1)), (3, .inl k29v3), (4, .inl s29.1)]) (st' := []) rfl (if_neg c4) ?_
    refine xq_map h (fun p h e => ?_)
    replace hr := fun q e' => hr q (e.symm.trans (congrArg Sum.inr e'))
    clear e
    refine xq_blk 8 (pc' := 83) (ls' := [(0, .inr (.inr (14, 6, 0))), (1, .inr (.inl k29v1)), (3, .inl k29v3), (4, .inl s29.1)]) (st' := [.inl ((xd_up s29.2 6 0 4 ((s29.2.1 6 0 4) + k29v3)).1 6 0 4)]) (M' := xd_up s29.2 6 0 4 ((s29.2.1 6 0 4) + k29v3)) rfl ?_
    exact (hr _ (Option.some.inj h).symm) ▸ xq_ret rfl
def f_X7_put (a1 : Int64) (M : xM) : Option (Int32 × xM) := (f_X7_charactersOf a1 M).bind (fun q1 => if q1 = (0 : Int32) then (some (((-2 : Int32), M))) else (if (60 : Int32) < ((M.1 6 0 4) + q1) then (some (((-4 : Int32), M))) else (xlp (f_X7_put_l29 a1 q1) 4000 ((0 : Int32), M))))
theorem f_X7_put_run {X : List Int32} {a1 : Int64} {M : xM} {p : Int32 × xM} {r : xR} (h : f_X7_put a1 M = some p) (hr : ∀ q, p = q → ((some (.inl q.1), q.2) : xR) = r) : xq X xe 178 0 [(0, .inr (.inr (14, 6, 0))), (1, .inr (.inl a1))] [] M r := by
  unfold f_X7_put at h
  refine xq_blk 1 (pc' := 1) (ls' := [(0, .inr (.inr (14, 6, 0))), (1, .inr (.inl a1))]) (st' := [.inr (.inl a1)]) (M' := M) rfl ?_
  refine xq_bind h (fun q1 e2 h => ?_)
  refine xq_call (j := 177) (as := [.inr (.inl a1)]) (pc' := 4) (ls' := [(0, .inr (.inr (14, 6, 0))), (1, .inr (.inl a1))]) (st' := []) rfl rfl (f_X7_charactersOf_ok e2) ?_
  refine xq_blk 2 (pc' := 6) (ls' := [(3, .inl q1), (0, .inr (.inr (14, 6, 0))), (1, .inr (.inl a1))]) (st' := [.inl q1]) (M' := M) rfl ?_
  refine xq_ite h (fun c6 h => ?_) (fun c6 h => ?_)
  · refine xq_core (pc' := 9) (ls' := [(3, .inl q1), (0, .inr (.inr (14, 6, 0))), (1, .inr (.inl a1))]) (st' := []) rfl (if_pos c6) ?_
    refine xq_blk 1 (pc' := 11) (ls' := [(3, .inl q1), (0, .inr (.inr (14, 6, 0))), (1, .inr (.inl a1))]) (st' := [.inl (-2 : Int32)]) (M' := M) rfl ?_
    exact (hr _ (Option.some.inj h).symm) ▸ xq_ret rfl
  · refine xq_core (pc' := 12) (ls' := [(3, .inl q1), (0, .inr (.inr (14, 6, 0))), (1, .inr (.inl a1))]) (st' := []) rfl (if_neg c6) ?_
    refine xq_blk 5 (pc' := 20) (ls' := [(3, .inl q1), (0, .inr (.inr (14, 6, 0))), (1, .inr (.inl a1))]) (st' := [.inl (60 : Int32), .inl ((M.1 6 0 4) + q1)]) (M' := M) rfl ?_
    refine xq_ite h (fun c5 h => ?_) (fun c5 h => ?_)
    · refine xq_core (pc' := 23) (ls' := [(3, .inl q1), (0, .inr (.inr (14, 6, 0))), (1, .inr (.inl a1))]) (st' := []) rfl (if_pos c5) ?_
      refine xq_blk 1 (pc' := 25) (ls' := [(3, .inl q1), (0, .inr (.inr (14, 6, 0))), (1, .inr (.inl a1))]) (st' := [.inl (-4 : Int32)]) (M' := M) rfl ?_
      exact (hr _ (Option.some.inj h).symm) ▸ xq_ret rfl
    · refine xq_core (pc' := 26) (ls' := [(3, .inl q1), (0, .inr (.inr (14, 6, 0))), (1, .inr (.inl a1))]) (st' := []) rfl (if_neg c5) ?_
      refine xq_blk 2 (pc' := 29) (ls' := [(4, .inl (0 : Int32)), (3, .inl q1), (0, .inr (.inr (14, 6, 0))), (1, .inr (.inl a1))]) (st' := []) (M' := M) rfl ?_
      refine xq_sub (a := [(0, .inr (.inr (14, 6, 0))), (1, .inr (.inl a1)), (3, .inl q1), (4, .inl (0 : Int32))]) ⟨rfl, rfl, rfl, rfl, trivial⟩ rfl ?_
      exact xlp_ok (P := fun s29 => xq X xe 178 29 [(0, .inr (.inr (14, 6, 0))), (1, .inr (.inl a1)), (3, .inl q1), (4, .inl s29.1)] [] s29.2 r) (fun s p' hb g0 g1 => f_X7_put_l29_ok hb g0 (fun q e => hr q (g1 _ e).symm)) 4000 _ h
theorem f_X7_put_ok {X : List Int32} {a1 : Int64} {M : xM} {p : Int32 × xM} (h : f_X7_put a1 M = some p) : xq X xe 178 0 [(0, .inr (.inr (14, 6, 0))), (1, .inr (.inl a1))] [] M ((some (.inl p.1), p.2) : xR) := f_X7_put_run h (fun q e => by rw [e])
