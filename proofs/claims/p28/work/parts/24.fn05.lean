def f_X6_pass (a1 : Int32) (M : xM) : Option (Int32 × xM) := (f_X5_letPass 2 a1 (xe_cp 3 2 M)).bind (fun q1 => (f_X6_recorded q1.1 q1.2).bind (fun q3 => some ((q3.1, q3.2))))
theorem f_X6_pass_run {X : List Int32} {a1 : Int32} {M : xM} {p : Int32 × xM} {r : xR} (h : f_X6_pass a1 M = some p) (hr : ∀ q, p = q → ((some (.inl q.1), q.2) : xR) = r) : xq X xe 86 0 [(0, .inr (.inr (7, 5, 0))), (1, .inl a1)] [] M r := by
  unfold f_X6_pass at h
  refine xq_blk 4 (pc' := 8) (ls' := [(0, .inr (.inr (7, 5, 0))), (1, .inl a1)]) (st' := [.inr (.inr (0, 2, 0)), .inr (.inr (0, 3, 0))]) (M' := M) rfl ?_
  refine xq_ext (j := 27) (as := [.inr (.inr (0, 3, 0)), .inr (.inr (0, 2, 0))]) (pc' := 11) (ls' := [(0, .inr (.inr (7, 5, 0))), (1, .inl a1)]) (st' := []) (q := (none, xe_cp 3 2 M)) rfl rfl rfl ?_
  refine xq_blk 4 (pc' := 17) (ls' := [(0, .inr (.inr (7, 5, 0))), (1, .inl a1)]) (st' := [.inl a1, .inr (.inr (0, 2, 0)), .inr (.inr (7, 5, 0))]) (M' := xe_cp 3 2 M) rfl ?_
  refine xq_bind h (fun q1 e2 h => ?_)
  refine xq_call (j := 68) (as := [.inr (.inr (0, 2, 0)), .inl a1]) (pc' := 20) (ls' := [(0, .inr (.inr (7, 5, 0))), (1, .inl a1)]) (st' := [.inr (.inr (7, 5, 0))]) rfl rfl (f_X5_letPass_ok e2) ?_
  refine xq_bind h (fun q3 e4 h => ?_)
  refine xq_call (j := 75) (as := [.inr (.inr (7, 5, 0)), .inl q1.1]) (pc' := 23) (ls' := [(0, .inr (.inr (7, 5, 0))), (1, .inl a1)]) (st' := []) rfl rfl (f_X6_recorded_ok e4) ?_
  exact (hr _ (Option.some.inj h).symm) ▸ xq_ret rfl
theorem f_X6_pass_ok {X : List Int32} {a1 : Int32} {M : xM} {p : Int32 × xM} (h : f_X6_pass a1 M = some p) : xq X xe 86 0 [(0, .inr (.inr (7, 5, 0))), (1, .inl a1)] [] M ((some (.inl p.1), p.2) : xR) := f_X6_pass_run h (fun q e => by rw [e])
def f_X5_aboutPerson (a0r : Nat) (a1 : Int32) (a2 : Int32) (M : xM) : Option (Int32) := if a2 = (0 : Int32) then (if xp_in a1 20 = true then (some ((M.1 a0r 4 a1.toNatClampNeg))) else none) else (if a2 = (1 : Int32) then (if xp_in a1 20 = true then (some ((M.1 a0r 5 a1.toNatClampNeg))) else none) else (if a2 = (2 : Int32) then ((f_X4_shedsWaitedFor a0r a1 M).bind (fun q5 => some (q5))) else (if a2 = (3 : Int32) then (if xp_in a1 20 = true then (some ((M.1 a0r 19 a1.toNatClampNeg))) else none) else (if a2 = (4 : Int32) then (if xp_in a1 20 = true then (some ((M.1 a0r 20 a1.toNatClampNeg))) else none) else (if a2 = (5 : Int32) then ((f_X0_isInRack a0r a1 M).bind (fun q12 => if q12 = (0 : Int32) then (some ((-6 : Int32))) else (if xp_in a1 20 = true then (some (((M.1 a0r 0 4) - (M.1 a0r 21 a1.toNatClampNeg)))) else none))) else (if a2 = (6 : Int32) then (if xp_in a1 20 = true then (some ((M.1 a0r 22 a1.toNatClampNeg))) else none) else (if a2 = (7 : Int32) then ((f_X0_isInPound a0r a1 M).bind (fun q19 => if q19 = (0 : Int32) then (some ((-6 : Int32))) else (if xp_in a1 20 = true then (some (((M.1 a0r 0 4) - (M.1 a0r 23 a1.toNatClampNeg)))) else none))) else (if a2 = (8 : Int32) then (if xp_in a1 20 = true then (some ((M.1 a0r 24 a1.toNatClampNeg))) else none) else (some ((-2 : Int32)))))))))))
theorem f_X5_aboutPerson_run {X : List Int32} {a0r : Nat} {a1 : Int32} {a2 : Int32} {M : xM} {p : Int32} {r : xR} (h : f_X5_aboutPerson a0r a1 a2 M = some p) (hr : ∀ q, p = q → ((some (.inl q), M) : xR) = r) : xq X xe 70 0 [(0, .inr (.inr (0, a0r, 0))), (1, .inl a1), (2, .inl a2)] [] M r := by
  unfold f_X5_aboutPerson at h
  refine xq_blk 1 (pc' := 1) (ls' := [(0, .inr (.inr (0, a0r, 0))), (1, .inl a1), (2, .inl a2)]) (st' := [.inl a2]) (M' := M) rfl ?_
  refine xq_ite h (fun c2 h => ?_) (fun c2 h => ?_)
  · refine xq_tsw (pc' := 52) (ls' := [(0, .inr (.inr (0, a0r, 0))), (1, .inl a1), (2, .inl a2)]) (st' := []) rfl rfl (if_pos c2) ?_
    refine xq_blk 4 (pc' := 60) (ls' := [(0, .inr (.inr (0, a0r, 0))), (1, .inl a1), (2, .inl a2)]) (st' := [.inl a1, .inr (.inr (3, a0r, 4))]) (M' := M) rfl ?_
    refine xq_guard h (fun g1 h => ?_)
    refine xq_prim (st' := [.inl (M.1 a0r 4 a1.toNatClampNeg)]) (M' := M) rfl rfl rfl (xg_ald0 rfl g1) ?_
    exact (hr _ (Option.some.inj h).symm) ▸ xq_ret rfl
  · refine xq_ite h (fun c4 h => ?_) (fun c4 h => ?_)
    · refine xq_tsw (pc' := 62) (ls' := [(0, .inr (.inr (0, a0r, 0))), (1, .inl a1), (2, .inl a2)]) (st' := []) rfl rfl (Eq.trans (if_neg c2) (if_pos c4)) ?_
      refine xq_blk 4 (pc' := 70) (ls' := [(0, .inr (.inr (0, a0r, 0))), (1, .inl a1), (2, .inl a2)]) (st' := [.inl a1, .inr (.inr (3, a0r, 5))]) (M' := M) rfl ?_
      refine xq_guard h (fun g3 h => ?_)
      refine xq_prim (st' := [.inl (M.1 a0r 5 a1.toNatClampNeg)]) (M' := M) rfl rfl rfl (xg_ald0 rfl g3) ?_
      exact (hr _ (Option.some.inj h).symm) ▸ xq_ret rfl
    · refine xq_ite h (fun c7 h => ?_) (fun c7 h => ?_)
      · refine xq_tsw (pc' := 72) (ls' := [(0, .inr (.inr (0, a0r, 0))), (1, .inl a1), (2, .inl a2)]) (st' := []) rfl rfl (Eq.trans (if_neg c2) (Eq.trans (if_neg c4) (if_pos c7))) ?_
        refine xq_blk 3 (pc' := 77) (ls' := [(0, .inr (.inr (0, a0r, 0))), (1, .inl a1), (2, .inl a2)]) (st' := [.inl a1, .inr (.inr (1, a0r, 3))]) (M' := M) rfl ?_
        refine xq_bind h (fun q5 e6 h => ?_)
        refine xq_call (j := 34) (as := [.inr (.inr (1, a0r, 3)), .inl a1]) (pc' := 80) (ls' := [(0, .inr (.inr (0, a0r, 0))), (1, .inl a1), (2, .inl a2)]) (st' := []) rfl rfl (f_X4_shedsWaitedFor_ok e6) ?_
        exact (hr _ (Option.some.inj h).symm) ▸ xq_ret rfl
      · refine xq_ite h (fun c9 h => ?_) (fun c9 h => ?_)
        · refine xq_tsw (pc' := 81) (ls' := [(0, .inr (.inr (0, a0r, 0))), (1, .inl a1), (2, .inl a2)]) (st' := []) rfl rfl (Eq.trans (if_neg c2) (Eq.trans (if_neg c4) (Eq.trans (if_neg c7) (if_pos c9)))) ?_
          refine xq_blk 4 (pc' := 89) (ls' := [(0, .inr (.inr (0, a0r, 0))), (1, .inl a1), (2, .inl a2)]) (st' := [.inl a1, .inr (.inr (3, a0r, 19))]) (M' := M) rfl ?_
          refine xq_guard h (fun g8 h => ?_)
          refine xq_prim (st' := [.inl (M.1 a0r 19 a1.toNatClampNeg)]) (M' := M) rfl rfl rfl (xg_ald0 rfl g8) ?_
          exact (hr _ (Option.some.inj h).symm) ▸ xq_ret rfl
        · refine xq_ite h (fun c11 h => ?_) (fun c11 h => ?_)
          · refine xq_tsw (pc' := 91) (ls' := [(0, .inr (.inr (0, a0r, 0))), (1, .inl a1), (2, .inl a2)]) (st' := []) rfl rfl (Eq.trans (if_neg c2) (Eq.trans (if_neg c4) (Eq.trans (if_neg c7) (Eq.trans (if_neg c9) (if_pos c11))))) ?_
            refine xq_blk 4 (pc' := 99) (ls' := [(0, .inr (.inr (0, a0r, 0))), (1, .inl a1), (2, .inl a2)]) (st' := [.inl a1, .inr (.inr (3, a0r, 20))]) (M' := M) rfl ?_
            refine xq_guard h (fun g10 h => ?_)
            refine xq_prim (st' := [.inl (M.1 a0r 20 a1.toNatClampNeg)]) (M' := M) rfl rfl rfl (xg_ald0 rfl g10) ?_
            exact (hr _ (Option.some.inj h).symm) ▸ xq_ret rfl
          · refine xq_ite h (fun c16 h => ?_) (fun c16 h => ?_)
            · refine xq_tsw (pc' := 101) (ls' := [(0, .inr (.inr (0, a0r, 0))), (1, .inl a1), (2, .inl a2)]) (st' := []) rfl rfl (Eq.trans (if_neg c2) (Eq.trans (if_neg c4) (Eq.trans (if_neg c7) (Eq.trans (if_neg c9) (Eq.trans (if_neg c11) (if_pos c16)))))) ?_
              refine xq_blk 3 (pc' := 106) (ls' := [(0, .inr (.inr (0, a0r, 0))), (1, .inl a1), (2, .inl a2)]) (st' := [.inl a1, .inr (.inr (2, a0r, 18))]) (M' := M) rfl ?_
              refine xq_bind h (fun q12 e13 h => ?_)
              refine xq_call (j := 4) (as := [.inr (.inr (2, a0r, 18)), .inl a1]) (pc' := 109) (ls' := [(0, .inr (.inr (0, a0r, 0))), (1, .inl a1), (2, .inl a2)]) (st' := []) rfl rfl (f_X0_isInRack_ok e13) ?_
              refine xq_ite h (fun c15 h => ?_) (fun c15 h => ?_)
              · refine xq_core (pc' := 129) (ls' := [(0, .inr (.inr (0, a0r, 0))), (1, .inl a1), (2, .inl a2)]) (st' := []) rfl (if_pos c15) ?_
                refine xq_blk 1 (pc' := 131) (ls' := [(0, .inr (.inr (0, a0r, 0))), (1, .inl a1), (2, .inl a2)]) (st' := [.inl (-6 : Int32)]) (M' := M) rfl ?_
                exact (hr _ (Option.some.inj h).symm) ▸ xq_ret rfl
              · refine xq_core (pc' := 112) (ls' := [(0, .inr (.inr (0, a0r, 0))), (1, .inl a1), (2, .inl a2)]) (st' := []) rfl (if_neg c15) ?_
                refine xq_blk 6 (pc' := 124) (ls' := [(0, .inr (.inr (0, a0r, 0))), (1, .inl a1), (2, .inl a2)]) (st' := [.inl a1, .inr (.inr (3, a0r, 21)), .inl (M.1 a0r 0 4)]) (M' := M) rfl ?_
                refine xq_guard h (fun g14 h => ?_)
                refine xq_prim (st' := [.inl (M.1 a0r 21 a1.toNatClampNeg), .inl (M.1 a0r 0 4)]) (M' := M) rfl rfl rfl (xg_ald0 rfl g14) ?_
                refine xq_blk 2 (pc' := 131) (ls' := [(0, .inr (.inr (0, a0r, 0))), (1, .inl a1), (2, .inl a2)]) (st' := [.inl ((M.1 a0r 0 4) - (M.1 a0r 21 a1.toNatClampNeg))]) (M' := M) rfl ?_
                exact (hr _ (Option.some.inj h).symm) ▸ xq_ret rfl
            · refine xq_ite h (fun c18 h => ?_) (fun c18 h => ?_)
              · refine xq_tsw (pc' := 132) (ls' := [(0, .inr (.inr (0, a0r, 0))), (1, .inl a1), (2, .inl a2)]) (st' := []) rfl rfl (Eq.trans (if_neg c2) (Eq.trans (if_neg c4) (Eq.trans (if_neg c7) (Eq.trans (if_neg c9) (Eq.trans (if_neg c11) (Eq.trans (if_neg c16) (if_pos c18))))))) ?_
                refine xq_blk 4 (pc' := 140) (ls' := [(0, .inr (.inr (0, a0r, 0))), (1, .inl a1), (2, .inl a2)]) (st' := [.inl a1, .inr (.inr (3, a0r, 22))]) (M' := M) rfl ?_
                refine xq_guard h (fun g17 h => ?_)
                refine xq_prim (st' := [.inl (M.1 a0r 22 a1.toNatClampNeg)]) (M' := M) rfl rfl rfl (xg_ald0 rfl g17) ?_
                exact (hr _ (Option.some.inj h).symm) ▸ xq_ret rfl
              · refine xq_ite h (fun c23 h => ?_) (fun c23 h => ?_)
                · refine xq_tsw (pc' := 142) (ls' := [(0, .inr (.inr (0, a0r, 0))), (1, .inl a1), (2, .inl a2)]) (st' := []) rfl rfl (Eq.trans (if_neg c2) (Eq.trans (if_neg c4) (Eq.trans (if_neg c7) (Eq.trans (if_neg c9) (Eq.trans (if_neg c11) (Eq.trans (if_neg c16) (Eq.trans (if_neg c18) (if_pos c23)))))))) ?_
                  refine xq_blk 3 (pc' := 147) (ls' := [(0, .inr (.inr (0, a0r, 0))), (1, .inl a1), (2, .inl a2)]) (st' := [.inl a1, .inr (.inr (2, a0r, 18))]) (M' := M) rfl ?_
                  refine xq_bind h (fun q19 e20 h => ?_)
                  refine xq_call (j := 6) (as := [.inr (.inr (2, a0r, 18)), .inl a1]) (pc' := 150) (ls' := [(0, .inr (.inr (0, a0r, 0))), (1, .inl a1), (2, .inl a2)]) (st' := []) rfl rfl (f_X0_isInPound_ok e20) ?_
                  refine xq_ite h (fun c22 h => ?_) (fun c22 h => ?_)
                  · refine xq_core (pc' := 170) (ls' := [(0, .inr (.inr (0, a0r, 0))), (1, .inl a1), (2, .inl a2)]) (st' := []) rfl (if_pos c22) ?_
                    refine xq_blk 1 (pc' := 172) (ls' := [(0, .inr (.inr (0, a0r, 0))), (1, .inl a1), (2, .inl a2)]) (st' := [.inl (-6 : Int32)]) (M' := M) rfl ?_
                    exact (hr _ (Option.some.inj h).symm) ▸ xq_ret rfl
                  · refine xq_core (pc' := 153) (ls' := [(0, .inr (.inr (0, a0r, 0))), (1, .inl a1), (2, .inl a2)]) (st' := []) rfl (if_neg c22) ?_
                    refine xq_blk 6 (pc' := 165) (ls' := [(0, .inr (.inr (0, a0r, 0))), (1, .inl a1), (2, .inl a2)]) (st' := [.inl a1, .inr (.inr (3, a0r, 23)), .inl (M.1 a0r 0 4)]) (M' := M) rfl ?_
                    refine xq_guard h (fun g21 h => ?_)
                    refine xq_prim (st' := [.inl (M.1 a0r 23 a1.toNatClampNeg), .inl (M.1 a0r 0 4)]) (M' := M) rfl rfl rfl (xg_ald0 rfl g21) ?_
                    refine xq_blk 2 (pc' := 172) (ls' := [(0, .inr (.inr (0, a0r, 0))), (1, .inl a1), (2, .inl a2)]) (st' := [.inl ((M.1 a0r 0 4) - (M.1 a0r 23 a1.toNatClampNeg))]) (M' := M) rfl ?_
                    exact (hr _ (Option.some.inj h).symm) ▸ xq_ret rfl
                · refine xq_ite h (fun c25 h => ?_) (fun c25 h => ?_)
                  · refine xq_tsw (pc' := 173) (ls' := [(0, .inr (.inr (0, a0r, 0))), (1, .inl a1), (2, .inl a2)]) (st' := []) rfl rfl (Eq.trans (if_neg c2) (Eq.trans (if_neg c4) (Eq.trans (if_neg c7) (Eq.trans (if_neg c9) (Eq.trans (if_neg c11) (Eq.trans (if_neg c16) (Eq.trans (if_neg c18) (Eq.trans (if_neg c23) (if_pos c25))))))))) ?_
                    refine xq_blk 4 (pc' := 181) (ls' := [(0, .inr (.inr (0, a0r, 0))), (1, .inl a1), (2, .inl a2)]) (st' := [.inl a1, .inr (.inr (3, a0r, 24))]) (M' := M) rfl ?_
                    refine xq_guard h (fun g24 h => ?_)
                    refine xq_prim (st' := [.inl (M.1 a0r 24 a1.toNatClampNeg)]) (M' := M) rfl rfl rfl (xg_ald0 rfl g24) ?_
                    exact (hr _ (Option.some.inj h).symm) ▸ xq_ret rfl
                  · refine xq_tsw (pc' := 183) (ls' := [(0, .inr (.inr (0, a0r, 0))), (1, .inl a1), (2, .inl a2)]) (st' := []) rfl rfl (Eq.trans (if_neg c2) (Eq.trans (if_neg c4) (Eq.trans (if_neg c7) (Eq.trans (if_neg c9) (Eq.trans (if_neg c11) (Eq.trans (if_neg c16) (Eq.trans (if_neg c18) (Eq.trans (if_neg c23) (Eq.trans (if_neg c25) (rfl)))))))))) ?_
                    refine xq_blk 1 (pc' := 185) (ls' := [(0, .inr (.inr (0, a0r, 0))), (1, .inl a1), (2, .inl a2)]) (st' := [.inl (-2 : Int32)]) (M' := M) rfl ?_
                    exact (hr _ (Option.some.inj h).symm) ▸ xq_ret rfl
theorem f_X5_aboutPerson_ok {X : List Int32} {a0r : Nat} {a1 : Int32} {a2 : Int32} {M : xM} {p : Int32} (h : f_X5_aboutPerson a0r a1 a2 M = some p) : xq X xe 70 0 [(0, .inr (.inr (0, a0r, 0))), (1, .inl a1), (2, .inl a2)] [] M ((some (.inl p), M) : xR) := f_X5_aboutPerson_run h (fun q e => by rw [e])
def f_X6_person (a1 : Int32) (a2 : Int32) (M : xM) : Option (Int32) := (f_X6_isPerson a1 M).bind (fun q1 => if q1 = (0 : Int32) then (some ((-1 : Int32))) else ((f_X5_aboutPerson 2 a1 a2 M).bind (fun q3 => some (q3))))
theorem f_X6_person_run {X : List Int32} {a1 : Int32} {a2 : Int32} {M : xM} {p : Int32} {r : xR} (h : f_X6_person a1 a2 M = some p) (hr : ∀ q, p = q → ((some (.inl q), M) : xR) = r) : xq X xe 87 0 [(0, .inr (.inr (7, 5, 0))), (1, .inl a1), (2, .inl a2)] [] M r := by
  unfold f_X6_person at h
  refine xq_blk 1 (pc' := 1) (ls' := [(0, .inr (.inr (7, 5, 0))), (1, .inl a1), (2, .inl a2)]) (st' := [.inl a1]) (M' := M) rfl ?_
  refine xq_bind h (fun q1 e2 h => ?_)
  refine xq_call (j := 46) (as := [.inl a1]) (pc' := 4) (ls' := [(0, .inr (.inr (7, 5, 0))), (1, .inl a1), (2, .inl a2)]) (st' := []) rfl rfl (f_X6_isPerson_ok e2) ?_
  refine xq_ite h (fun c5 h => ?_) (fun c5 h => ?_)
  · refine xq_core (pc' := 7) (ls' := [(0, .inr (.inr (7, 5, 0))), (1, .inl a1), (2, .inl a2)]) (st' := []) rfl (if_pos c5) ?_
    refine xq_blk 1 (pc' := 8) (ls' := [(0, .inr (.inr (7, 5, 0))), (1, .inl a1), (2, .inl a2)]) (st' := [.inl (-1 : Int32)]) (M' := M) rfl ?_
    exact (hr _ (Option.some.inj h).symm) ▸ xq_ret rfl
  · refine xq_core (pc' := 9) (ls' := [(0, .inr (.inr (7, 5, 0))), (1, .inl a1), (2, .inl a2)]) (st' := []) rfl (if_neg c5) ?_
    refine xq_blk 4 (pc' := 15) (ls' := [(0, .inr (.inr (7, 5, 0))), (1, .inl a1), (2, .inl a2)]) (st' := [.inl a2, .inl a1, .inr (.inr (0, 2, 0))]) (M' := M) rfl ?_
    refine xq_bind h (fun q3 e4 h => ?_)
    refine xq_call (j := 70) (as := [.inr (.inr (0, 2, 0)), .inl a1, .inl a2]) (pc' := 18) (ls' := [(0, .inr (.inr (7, 5, 0))), (1, .inl a1), (2, .inl a2)]) (st' := []) rfl rfl (f_X5_aboutPerson_ok e4) ?_
    exact (hr _ (Option.some.inj h).symm) ▸ xq_ret rfl
theorem f_X6_person_ok {X : List Int32} {a1 : Int32} {a2 : Int32} {M : xM} {p : Int32} (h : f_X6_person a1 a2 M = some p) : xq X xe 87 0 [(0, .inr (.inr (7, 5, 0))), (1, .inl a1), (2, .inl a2)] [] M ((some (.inl p), M) : xR) := f_X6_person_run h (fun q e => by rw [e])
def f_X0_racksTagged_l4 (k4v0r : Nat) (k4v1 : Int32) (M : xM) (s4 : Int32 × Int32) : Option ((Int32 × Int32) ⊕ (Int32)) := if s4.2 < (20 : Int32) then (if xp_in s4.2 20 = true then (if (M.1 k4v0r 19 s4.2.toNatClampNeg) = k4v1 then ((f_X0_isTagged k4v0r s4.2 M).bind (fun q2 => if q2 = (0 : Int32) then (some (.inl (s4.1, s4.2 + (1 : Int32)))) else (if xp_in s4.2 20 = true then (some (.inl (s4.1 ||| ((1 : Int32) <<< ((M.1 k4v0r 20 s4.2.toNatClampNeg) &&& (31 : Int32))), s4.2 + (1 : Int32)))) else none))) else (some (.inl (s4.1, s4.2 + (1 : Int32))))) else none) else (Option.map Sum.inr (some (s4.1)))
theorem f_X0_racksTagged_l4_ok {X : List Int32} {k4v0r : Nat} {k4v1 : Int32} {M : xM} {s4 : Int32 × Int32} {p : (Int32 × Int32) ⊕ (Int32)} {r : xR} (h : f_X0_racksTagged_l4 k4v0r k4v1 M s4 = some p) (h0 : ∀ s', p = .inl s' → xq X xe 14 4 [(0, .inr (.inr (2, k4v0r, 18))), (1, .inl k4v1), (2, .inl s'.1), (3, .inl s'.2)] [] M r) (hr : ∀ q, p = .inr (q) → ((some (.inl q), M) : xR) = r) : xq X xe 14 4 [(0, .inr (.inr (2, k4v0r, 18))), (1, .inl k4v1), (2, .inl s4.1), (3, .inl s4.2)] [] M r := by
  unfold f_X0_racksTagged_l4 at h
  refine xq_blk 2 (pc' := 7) (ls' := [(0, .inr (.inr (2, k4v0r, 18))), (1, .inl k4v1), (2, .inl s4.1), (3, .inl s4.2)]) (st' := [.inl (20 : Int32), .inl s4.2]) (M' := M) rfl ?_
  refine xq_ite h (fun c7 h => ?_) (fun c7 h => ?_)
  · refine xq_core (pc' := 10) (ls' := [(0, .inr (.inr (2, k4v0r, 18))), (1, .inl k4v1), (2, .inl s4.1), (3, .inl s4.2)]) (st' := []) rfl (if_pos c7) ?_
    refine xq_blk 3 (pc' := 15) (ls' := [(0, .inr (.inr (2, k4v0r, 18))), (1, .inl k4v1), (2, .inl s4.1), (3, .inl s4.2)]) (st' := [.inl s4.2, .inr (.inr (3, k4v0r, 19))]) (M' := M) rfl ?_
    refine xq_guard h (fun g1 h => ?_)
    refine xq_prim (st' := [.inl (M.1 k4v0r 19 s4.2.toNatClampNeg)]) (M' := M) rfl rfl rfl (xg_ald0 rfl g1) ?_
    refine xq_blk 1 (pc' := 17) (ls' := [(0, .inr (.inr (2, k4v0r, 18))), (1, .inl k4v1), (2, .inl s4.1), (3, .inl s4.2)]) (st' := [.inl k4v1, .inl (M.1 k4v0r 19 s4.2.toNatClampNeg)]) (M' := M) rfl ?_
    refine xq_ite h (fun c6 h => ?_) (fun c6 h => ?_)
    · refine xq_core (pc' := 20) (ls' := [(0, .inr (.inr (2, k4v0r, 18))), (1, .inl k4v1), (2, .inl s4.1), (3, .inl s4.2)]) (st' := []) rfl (if_pos c6) ?_
      refine xq_blk 2 (pc' := 22) (ls' := [(0, .inr (.inr (2, k4v0r, 18))), (1, .inl k4v1), (2, .inl s4.1), (3, .inl s4.2)]) (st' := [.inl s4.2, .inr (.inr (2, k4v0r, 18))]) (M' := M) rfl ?_
      refine xq_bind h (fun q2 e3 h => ?_)
      refine xq_call (j := 5) (as := [.inr (.inr (2, k4v0r, 18)), .inl s4.2]) (pc' := 25) (ls' := [(0, .inr (.inr (2, k4v0r, 18))), (1, .inl k4v1), (2, .inl s4.1), (3, .inl s4.2)]) (st' := []) rfl rfl (f_X0_isTagged_ok e3) ?_
      refine xq_ite h (fun c5 h => ?_) (fun c5 h => ?_)
      · refine xq_core (pc' := 39) (ls' := [(0, .inr (.inr (2, k4v0r, 18))), (1, .inl k4v1), (2, .inl s4.1), (3, .inl s4.2)]) (st' := []) rfl (if_pos c5) ?_
        refine xq_blk 2 (pc' := 4) (ls' := [(3, .inl (s4.2 + (1 : Int32))), (0, .inr (.inr (2, k4v0r, 18))), (1, .inl k4v1), (2, .inl s4.1)]) (st' := []) (M' := M) rfl ?_
        exact xq_sub (a := [(0, .inr (.inr (2, k4v0r, 18))), (1, .inl k4v1), (2, .inl ((s4.1, s4.2 + (1 : Int32)).1)), (3, .inl ((s4.1, s4.2 + (1 : Int32)).2))]) ⟨rfl, rfl, rfl, rfl, trivial⟩ rfl (h0 (s4.1, s4.2 + (1 : Int32)) (Option.some.inj h).symm)
      · refine xq_core (pc' := 28) (ls' := [(0, .inr (.inr (2, k4v0r, 18))), (1, .inl k4v1), (2, .inl s4.1), (3, .inl s4.2)]) (st' := []) rfl (if_neg c5) ?_
        refine xq_blk 5 (pc' := 35) (ls' := [(0, .inr (.inr (2, k4v0r, 18))), (1, .inl k4v1), (2, .inl s4.1), (3, .inl s4.2)]) (st' := [.inl s4.2, .inr (.inr (3, k4v0r, 20)), .inl (1 : Int32), .inl s4.1]) (M' := M) rfl ?_
        refine xq_guard h (fun g4 h => ?_)
        refine xq_prim (st' := [.inl (M.1 k4v0r 20 s4.2.toNatClampNeg), .inl (1 : Int32), .inl s4.1]) (M' := M) rfl rfl rfl (xg_ald0 rfl g4) ?_
        refine xq_blk 5 (pc' := 4) (ls' := [(3, .inl (s4.2 + (1 : Int32))), (2, .inl (s4.1 ||| ((1 : Int32) <<< ((M.1 k4v0r 20 s4.2.toNatClampNeg) &&& (31 : Int32))))), (0, .inr (.inr (2, k4v0r, 18))), (1, .inl k4v1)]) (st' := []) (M' := M) rfl ?_
        exact xq_sub (a := [(0, .inr (.inr (2, k4v0r, 18))), (1, .inl k4v1), (2, .inl ((s4.1 ||| ((1 : Int32) <<< ((M.1 k4v0r 20 s4.2.toNatClampNeg) &&& (31 : Int32))), s4.2 + (1 : Int32)).1)), (3, .inl ((s4.1 ||| ((1 : Int32) <<< ((M.1 k4v0r 20 s4.2.toNatClampNeg) &&& (31 : Int32))), s4.2 + (1 : Int32)).2))]) ⟨rfl, rfl, rfl, rfl, trivial⟩ rfl (h0 (s4.1 ||| ((1 : Int32) <<< ((M.1 k4v0r 20 s4.2.toNatClampNeg) &&& (31 : Int32))), s4.2 + (1 : Int32)) (Option.some.inj h).symm)
    · refine xq_core (pc' := 39) (ls' := [(0, .inr (.inr (2, k4v0r, 18))), (1, .inl k4v1), (2, .inl s4.1), (3, .inl s4.2)]) (st' := []) rfl (if_neg c6) ?_
      refine xq_blk 2 (pc' := 4) (ls' := [(3, .inl (s4.2 + (1 : Int32))), (0, .inr (.inr (2, k4v0r, 18))), (1, .inl k4v1), (2, .inl s4.1)]) (st' := []) (M' := M) rfl ?_
      exact xq_sub (a := [(0, .inr (.inr (2, k4v0r, 18))), (1, .inl k4v1), (2, .inl ((s4.1, s4.2 + (1 : Int32)).1)), (3, .inl ((s4.1, s4.2 + (1 : Int32)).2))]) ⟨rfl, rfl, rfl, rfl, trivial⟩ rfl (h0 (s4.1, s4.2 + (1 : Int32)) (Option.some.inj h).symm)
  · refine xq_core (pc' := 45) (ls' := [(0, .inr (.inr (2, k4v0r, 18))), (1, .inl k4v1), (2, .inl s4.1), (3, .inl s4.2)]) (st' := []) rfl (if_neg c7) ?_
    refine xq_map h (fun p h e => ?_)
    replace hr := fun q e' => hr q (e.symm.trans (congrArg Sum.inr e'))
    clear e
    refine xq_blk 1 (pc' := 46) (ls' := [(0, .inr (.inr (2, k4v0r, 18))), (1, .inl k4v1), (2, .inl s4.1), (3, .inl s4.2)]) (st' := [.inl s4.1]) (M' := M) rfl ?_
    exact (hr _ (Option.some.inj h).symm) ▸ xq_ret rfl
def f_X0_racksTagged (a0r : Nat) (a1 : Int32) (M : xM) : Option (Int32) := xlp (f_X0_racksTagged_l4 a0r a1 M) 4000 ((0 : Int32), (0 : Int32))
theorem f_X0_racksTagged_run {X : List Int32} {a0r : Nat} {a1 : Int32} {M : xM} {p : Int32} {r : xR} (h : f_X0_racksTagged a0r a1 M = some p) (hr : ∀ q, p = q → ((some (.inl q), M) : xR) = r) : xq X xe 14 0 [(0, .inr (.inr (2, a0r, 18))), (1, .inl a1)] [] M r := by
  unfold f_X0_racksTagged at h
  refine xq_blk 4 (pc' := 4) (ls' := [(3, .inl (0 : Int32)), (2, .inl (0 : Int32)), (0, .inr (.inr (2, a0r, 18))), (1, .inl a1)]) (st' := []) (M' := M) rfl ?_
  refine xq_sub (a := [(0, .inr (.inr (2, a0r, 18))), (1, .inl a1), (2, .inl (0 : Int32)), (3, .inl (0 : Int32))]) ⟨rfl, rfl, rfl, rfl, trivial⟩ rfl ?_
  exact xlp_ok (P := fun s4 => xq X xe 14 4 [(0, .inr (.inr (2, a0r, 18))), (1, .inl a1), (2, .inl s4.1), (3, .inl s4.2)] [] M r) (fun s p' hb g0 g1 => f_X0_racksTagged_l4_ok hb g0 (fun q e => hr q (g1 _ e).symm)) 4000 _ h
theorem f_X0_racksTagged_ok {X : List Int32} {a0r : Nat} {a1 : Int32} {M : xM} {p : Int32} (h : f_X0_racksTagged a0r a1 M = some p) : xq X xe 14 0 [(0, .inr (.inr (2, a0r, 18))), (1, .inl a1)] [] M ((some (.inl p), M) : xR) := f_X0_racksTagged_run h (fun q e => by rw [e])
def f_X5_racksWithoutPermit_l4 (k4v0r : Nat) (k4v1 : Int32) (M : xM) (s4 : Int32 × Int32) : Option ((Int32 × Int32) ⊕ (Int32)) := if s4.2 < (20 : Int32) then (if xp_in s4.2 20 = true then (if (M.1 k4v0r 19 s4.2.toNatClampNeg) = k4v1 then ((f_X5_isWithoutPermit k4v0r s4.2 M).bind (fun q2 => if q2 = (0 : Int32) then (some (.inl (s4.1, s4.2 + (1 : Int32)))) else (if xp_in s4.2 20 = true then (some (.inl (s4.1 ||| ((1 : Int32) <<< ((M.1 k4v0r 20 s4.2.toNatClampNeg) &&& (31 : Int32))), s4.2 + (1 : Int32)))) else none))) else (some (.inl (s4.1, s4.2 + (1 : Int32))))) else none) else (Option.map Sum.inr (some (s4.1)))
theorem f_X5_racksWithoutPermit_l4_ok {X : List Int32} {k4v0r : Nat} {k4v1 : Int32} {M : xM} {s4 : Int32 × Int32} {p : (Int32 × Int32) ⊕ (Int32)} {r : xR} (h : f_X5_racksWithoutPermit_l4 k4v0r k4v1 M s4 = some p) (h0 : ∀ s', p = .inl s' → xq X xe 71 4 [(0, .inr (.inr (0, k4v0r, 0))), (1, .inl k4v1), (2, .inl s'.1), (3, .inl s'.2)] [] M r) (hr : ∀ q, p = .inr (q) → ((some (.inl q), M) : xR) = r) : xq X xe 71 4 [(0, .inr (.inr (0, k4v0r, 0))), (1, .inl k4v1), (2, .inl s4.1), (3, .inl s4.2)] [] M r := by
  unfold f_X5_racksWithoutPermit_l4 at h
  refine xq_blk 2 (pc' := 7) (ls' := [(0, .inr (.inr (0, k4v0r, 0))), (1, .inl k4v1), (2, .inl s4.1), (3, .inl s4.2)]) (st' := [.inl (20 : Int32), .inl s4.2]) (M' := M) rfl ?_
  refine xq_ite h (fun c7 h => ?_) (fun c7 h => ?_)
  · refine xq_core (pc' := 10) (ls' := [(0, .inr (.inr (0, k4v0r, 0))), (1, .inl k4v1), (2, .inl s4.1), (3, .inl s4.2)]) (st' := []) rfl (if_pos c7) ?_
    refine xq_blk 4 (pc' := 18) (ls' := [(0, .inr (.inr (0, k4v0r, 0))), (1, .inl k4v1), (2, .inl s4.1), (3, .inl s4.2)]) (st' := [.inl s4.2, .inr (.inr (3, k4v0r, 19))]) (M' := M) rfl ?_
    refine xq_guard h (fun g1 h => ?_)
    refine xq_prim (st' := [.inl (M.1 k4v0r 19 s4.2.toNatClampNeg)]) (M' := M) rfl rfl rfl (xg_ald0 rfl g1) ?_
    refine xq_blk 1 (pc' := 20) (ls' := [(0, .inr (.inr (0, k4v0r, 0))), (1, .inl k4v1), (2, .inl s4.1), (3, .inl s4.2)]) (st' := [.inl k4v1, .inl (M.1 k4v0r 19 s4.2.toNatClampNeg)]) (M' := M) rfl ?_
    refine xq_ite h (fun c6 h => ?_) (fun c6 h => ?_)
    · refine xq_core (pc' := 23) (ls' := [(0, .inr (.inr (0, k4v0r, 0))), (1, .inl k4v1), (2, .inl s4.1), (3, .inl s4.2)]) (st' := []) rfl (if_pos c6) ?_
      refine xq_blk 2 (pc' := 25) (ls' := [(0, .inr (.inr (0, k4v0r, 0))), (1, .inl k4v1), (2, .inl s4.1), (3, .inl s4.2)]) (st' := [.inl s4.2, .inr (.inr (0, k4v0r, 0))]) (M' := M) rfl ?_
      refine xq_bind h (fun q2 e3 h => ?_)
      refine xq_call (j := 61) (as := [.inr (.inr (0, k4v0r, 0)), .inl s4.2]) (pc' := 28) (ls' := [(0, .inr (.inr (0, k4v0r, 0))), (1, .inl k4v1), (2, .inl s4.1), (3, .inl s4.2)]) (st' := []) rfl rfl (f_X5_isWithoutPermit_ok e3) ?_
      refine xq_ite h (fun c5 h => ?_) (fun c5 h => ?_)
      · refine xq_core (pc' := 45) (ls' := [(0, .inr (.inr (0, k4v0r, 0))), (1, .inl k4v1), (2, .inl s4.1), (3, .inl s4.2)]) (st' := []) rfl (if_pos c5) ?_
        refine xq_blk 2 (pc' := 4) (ls' := [(3, .inl (s4.2 + (1 : Int32))), (0, .inr (.inr (0, k4v0r, 0))), (1, .inl k4v1), (2, .inl s4.1)]) (st' := []) (M' := M) rfl ?_
        exact xq_sub (a := [(0, .inr (.inr (0, k4v0r, 0))), (1, .inl k4v1), (2, .inl ((s4.1, s4.2 + (1 : Int32)).1)), (3, .inl ((s4.1, s4.2 + (1 : Int32)).2))]) ⟨rfl, rfl, rfl, rfl, trivial⟩ rfl (h0 (s4.1, s4.2 + (1 : Int32)) (Option.some.inj h).symm)
      · refine xq_core (pc' := 31) (ls' := [(0, .inr (.inr (0, k4v0r, 0))), (1, .inl k4v1), (2, .inl s4.1), (3, .inl s4.2)]) (st' := []) rfl (if_neg c5) ?_
        refine xq_blk 6 (pc' := 41) (ls' := [(0, .inr (.inr (0, k4v0r, 0))), (1, .inl k4v1), (2, .inl s4.1), (3, .inl s4.2)]) (st' := [.inl s4.2, .inr (.inr (3, k4v0r, 20)), .inl (1 : Int32), .inl s4.1]) (M' := M) rfl ?_
        refine xq_guard h (fun g4 h => ?_)
        refine xq_prim (st' := [.inl (M.1 k4v0r 20 s4.2.toNatClampNeg), .inl (1 : Int32), .inl s4.1]) (M' := M) rfl rfl rfl (xg_ald0 rfl g4) ?_
        refine xq_blk 5 (pc' := 4) (ls' := [(3, .inl (s4.2 + (1 : Int32))), (2, .inl (s4.1 ||| ((1 : Int32) <<< ((M.1 k4v0r 20 s4.2.toNatClampNeg) &&& (31 : Int32))))), (0, .inr (.inr (0, k4v0r, 0))), (1, .inl k4v1)]) (st' := []) (M' := M) rfl ?_
        exact xq_sub (a := [(0, .inr (.inr (0, k4v0r, 0))), (1, .inl k4v1), (2, .inl ((s4.1 ||| ((1 : Int32) <<< ((M.1 k4v0r 20 s4.2.toNatClampNeg) &&& (31 : Int32))), s4.2 + (1 : Int32)).1)), (3, .inl ((s4.1 ||| ((1 : Int32) <<< ((M.1 k4v0r 20 s4.2.toNatClampNeg) &&& (31 : Int32))), s4.2 + (1 : Int32)).2))]) ⟨rfl, rfl, rfl, rfl, trivial⟩ rfl (h0 (s4.1 ||| ((1 : Int32) <<< ((M.1 k4v0r 20 s4.2.toNatClampNeg) &&& (31 : Int32))), s4.2 + (1 : Int32)) (Option.some.inj h).symm)
    · refine xq_core (pc' := 45) (ls' := [(0, .inr (.inr (0, k4v0r, 0))), (1, .inl k4v1), (2, .inl s4.1), (3, .inl s4.2)]) (st' := []) rfl (if_neg c6) ?_
      refine xq_blk 2 (pc' := 4) (ls' := [(3, .inl (s4.2 + (1 : Int32))), (0, .inr (.inr (0, k4v0r, 0))), (1, .inl k4v1), (2, .inl s4.1)]) (st' := []) (M' := M) rfl ?_
      exact xq_sub (a := [(0, .inr (.inr (0, k4v0r, 0))), (1, .inl k4v1), (2, .inl ((s4.1, s4.2 + (1 : Int32)).1)), (3, .inl ((s4.1, s4.2 + (1 : Int32)).2))]) ⟨rfl, rfl, rfl, rfl, trivial⟩ rfl (h0 (s4.1, s4.2 + (1 : Int32)) (Option.some.inj h).symm)
  · refine xq_core (pc' := 51) (ls' := [(0, .inr (.inr (0, k4v0r, 0))), (1, .inl k4v1), (2, .inl s4.1), (3, .inl s4.2)]) (st' := []) rfl (if_neg c7) ?_
    refine xq_map h (fun p h e => ?_)
    replace hr := fun q e' => hr q (e.symm.trans (congrArg Sum.inr e'))
    clear e
    refine xq_blk 1 (pc' := 52) (ls' := [(0, .inr (.inr (0, k4v0r, 0))), (1, .inl k4v1), (2, .inl s4.1), (3, .inl s4.2)]) (st' := [.inl s4.1]) (M' := M) rfl ?_
    exact (hr _ (Option.some.inj h).symm) ▸ xq_ret rfl
def f_X5_racksWithoutPermit (a0r : Nat) (a1 : Int32) (M : xM) : Option (Int32) := xlp (f_X5_racksWithoutPermit_l4 a0r a1 M) 4000 ((0 : Int32), (0 : Int32))
theorem f_X5_racksWithoutPermit_run {X : List Int32} {a0r : Nat} {a1 : Int32} {M : xM} {p : Int32} {r : xR} (h : f_X5_racksWithoutPermit a0r a1 M = some p) (hr : ∀ q, p = q → ((some (.inl q), M) : xR) = r) : xq X xe 71 0 [(0, .inr (.inr (0, a0r, 0))), (1, .inl a1)] [] M r := by
  unfold f_X5_racksWithoutPermit at h
  refine xq_blk 4 (pc' := 4) (ls' := [(3, .inl (0 : Int32)), (2, .inl (0 : Int32)), (0, .inr (.inr (0, a0r, 0))), (1, .inl a1)]) (st' := []) (M' := M) rfl ?_
  refine xq_sub (a := [(0, .inr (.inr (0, a0r, 0))), (1, .inl a1), (2, .inl (0 : Int32)), (3, .inl (0 : Int32))]) ⟨rfl, rfl, rfl, rfl, trivial⟩ rfl ?_
  exact xlp_ok (P := fun s4 => xq X xe 71 4 [(0, .inr (.inr (0, a0r, 0))), (1, .inl a1), (2, .inl s4.1), (3, .inl s4.2)] [] M r) (fun s p' hb g0 g1 => f_X5_racksWithoutPermit_l4_ok hb g0 (fun q e => hr q (g1 _ e).symm)) 4000 _ h
theorem f_X5_racksWithoutPermit_ok {X : List Int32} {a0r : Nat} {a1 : Int32} {M : xM} {p : Int32} (h : f_X5_racksWithoutPermit a0r a1 M = some p) : xq X xe 71 0 [(0, .inr (.inr (0, a0r, 0))), (1, .inl a1)] [] M ((some (.inl p), M) : xR) := f_X5_racksWithoutPermit_run h (fun q e => by rw [e])
def f_X5_aboutShed (a0r : Nat) (a1 : Int32) (a2 : Int32) (M : xM) : Option (Int32) := if a2 = (0 : Int32) then (if xp_in a1 3 = true then (some ((M.1 a0r 2 a1.toNatClampNeg))) else none) else (if a2 = (1 : Int32) then ((f_X5_permitsToGive a0r a1 M).bind (fun q3 => some (q3))) else (if a2 = (2 : Int32) then ((f_X4_countOf a0r a1 M).bind (fun q6 => some (q6))) else (if a2 = (3 : Int32) then ((f_X4_countWaiting a0r a1 M).bind (fun q9 => some (q9))) else (if a2 = (4 : Int32) then ((f_X0_racksTaken a0r a1 M).bind (fun q12 => some (q12))) else (if a2 = (5 : Int32) then ((f_X0_racksTagged a0r a1 M).bind (fun q15 => some (q15))) else (if a2 = (6 : Int32) then ((f_X5_racksWithoutPermit a0r a1 M).bind (fun q18 => some (q18))) else (some ((-2 : Int32)))))))))
theorem f_X5_aboutShed_run {X : List Int32} {a0r : Nat} {a1 : Int32} {a2 : Int32} {M : xM} {p : Int32} {r : xR} (h : f_X5_aboutShed a0r a1 a2 M = some p) (hr : ∀ q, p = q → ((some (.inl q), M) : xR) = r) : xq X xe 72 0 [(0, .inr (.inr (0, a0r, 0))), (1, .inl a1), (2, .inl a2)] [] M r := by
  unfold f_X5_aboutShed at h
  refine xq_blk 1 (pc' := 1) (ls' := [(0, .inr (.inr (0, a0r, 0))), (1, .inl a1), (2, .inl a2)]) (st' := [.inl a2]) (M' := M) rfl ?_
  refine xq_ite h (fun c2 h => ?_) (fun c2 h => ?_)
  · refine xq_tsw (pc' := 44) (ls' := [(0, .inr (.inr (0, a0r, 0))), (1, .inl a1), (2, .inl a2)]) (st' := []) rfl rfl (if_pos c2) ?_
    refine xq_blk 3 (pc' := 49) (ls' := [(0, .inr (.inr (0, a0r, 0))), (1, .inl a1), (2, .inl a2)]) (st' := [.inl a1, .inr (.inr (5, a0r, 2))]) (M' := M) rfl ?_
    refine xq_guard h (fun g1 h => ?_)
    refine xq_prim (st' := [.inl (M.1 a0r 2 a1.toNatClampNeg)]) (M' := M) rfl rfl rfl (xg_ald0 rfl g1) ?_
    exact (hr _ (Option.some.inj h).symm) ▸ xq_ret rfl
  · refine xq_ite h (fun c5 h => ?_) (fun c5 h => ?_)
    · refine xq_tsw (pc' := 51) (ls' := [(0, .inr (.inr (0, a0r, 0))), (1, .inl a1), (2, .inl a2)]) (st' := []) rfl rfl (Eq.trans (if_neg c2) (if_pos c5)) ?_
      refine xq_blk 2 (pc' := 53) (ls' := [(0, .inr (.inr (0, a0r, 0))), (1, .inl a1), (2, .inl a2)]) (st' := [.inl a1, .inr (.inr (0, a0r, 0))]) (M' := M) rfl ?_
      refine xq_bind h (fun q3 e4 h => ?_)
      refine xq_call (j := 50) (as := [.inr (.inr (0, a0r, 0)), .inl a1]) (pc' := 56) (ls' := [(0, .inr (.inr (0, a0r, 0))), (1, .inl a1), (2, .inl a2)]) (st' := []) rfl rfl (f_X5_permitsToGive_ok e4) ?_
      exact (hr _ (Option.some.inj h).symm) ▸ xq_ret rfl
    · refine xq_ite h (fun c8 h => ?_) (fun c8 h => ?_)
      · refine xq_tsw (pc' := 57) (ls' := [(0, .inr (.inr (0, a0r, 0))), (1, .inl a1), (2, .inl a2)]) (st' := []) rfl rfl (Eq.trans (if_neg c2) (Eq.trans (if_neg c5) (if_pos c8))) ?_
        refine xq_blk 3 (pc' := 62) (ls' := [(0, .inr (.inr (0, a0r, 0))), (1, .inl a1), (2, .inl a2)]) (st' := [.inl a1, .inr (.inr (1, a0r, 3))]) (M' := M) rfl ?_
        refine xq_bind h (fun q6 e7 h => ?_)
        refine xq_call (j := 36) (as := [.inr (.inr (1, a0r, 3)), .inl a1]) (pc' := 65) (ls' := [(0, .inr (.inr (0, a0r, 0))), (1, .inl a1), (2, .inl a2)]) (st' := []) rfl rfl (f_X4_countOf_ok e7) ?_
        exact (hr _ (Option.some.inj h).symm) ▸ xq_ret rfl
      · refine xq_ite h (fun c11 h => ?_) (fun c11 h => ?_)
        · refine xq_tsw (pc' := 66) (ls' := [(0, .inr (.inr (0, a0r, 0))), (1, .inl a1), (2, .inl a2)]) (st' := []) rfl rfl (Eq.trans (if_neg c2) (Eq.trans (if_neg c5) (Eq.trans (if_neg c8) (if_pos c11)))) ?_
          refine xq_blk 3 (pc' := 71) (ls' := [(0, .inr (.inr (0, a0r, 0))), (1, .inl a1), (2, .inl a2)]) (st' := [.inl a1, .inr (.inr (1, a0r, 3))]) (M' := M) rfl ?_
          refine xq_bind h (fun q9 e10 h => ?_)
          refine xq_call (j := 38) (as := [.inr (.inr (1, a0r, 3)), .inl a1]) (pc' := 74) (ls' := [(0, .inr (.inr (0, a0r, 0))), (1, .inl a1), (2, .inl a2)]) (st' := []) rfl rfl (f_X4_countWaiting_ok e10) ?_
          exact (hr _ (Option.some.inj h).symm) ▸ xq_ret rfl
        · refine xq_ite h (fun c14 h => ?_) (fun c14 h => ?_)
          · refine xq_tsw (pc' := 75) (ls' := [(0, .inr (.inr (0, a0r, 0))), (1, .inl a1), (2, .inl a2)]) (st' := []) rfl rfl (Eq.trans (if_neg c2) (Eq.trans (if_neg c5) (Eq.trans (if_neg c8) (Eq.trans (if_neg c11) (if_pos c14))))) ?_
            refine xq_blk 3 (pc' := 80) (ls' := [(0, .inr (.inr (0, a0r, 0))), (1, .inl a1), (2, .inl a2)]) (st' := [.inl a1, .inr (.inr (2, a0r, 18))]) (M' := M) rfl ?_
            refine xq_bind h (fun q12 e13 h => ?_)
            refine xq_call (j := 13) (as := [.inr (.inr (2, a0r, 18)), .inl a1]) (pc' := 83) (ls' := [(0, .inr (.inr (0, a0r, 0))), (1, .inl a1), (2, .inl a2)]) (st' := []) rfl rfl (f_X0_racksTaken_ok e13) ?_
            exact (hr _ (Option.some.inj h).symm) ▸ xq_ret rfl
          · refine xq_ite h (fun c17 h => ?_) (fun c17 h => ?_)
            · refine xq_tsw (pc' := 84) (ls' := [(0, .inr (.inr (0, a0r, 0))), (1, .inl a1), (2, .inl a2)]) (st' := []) rfl rfl (Eq.trans (if_neg c2) (Eq.trans (if_neg c5) (Eq.trans (if_neg c8) (Eq.trans (if_neg c11) (Eq.trans (if_neg c14) (if_pos c17)))))) ?_
              refine xq_blk 3 (pc' := 89) (ls' := [(0, .inr (.inr (0, a0r, 0))), (1, .inl a1), (2, .inl a2)]) (st' := [.inl a1, .inr (.inr (2, a0r, 18))]) (M' := M) rfl ?_
              refine xq_bind h (fun q15 e16 h => ?_)
              refine xq_call (j := 14) (as := [.inr (.inr (2, a0r, 18)), .inl a1]) (pc' := 92) (ls' := [(0, .inr (.inr (0, a0r, 0))), (1, .inl a1), (2, .inl a2)]) (st' := []) rfl rfl (f_X0_racksTagged_ok e16) ?_
              exact (hr _ (Option.some.inj h).symm) ▸ xq_ret rfl
            · refine xq_ite h (fun c20 h => ?_) (fun c20 h => ?_)
              · refine xq_tsw (pc' := 93) (ls' := [(0, .inr (.inr (0, a0r, 0))), (1, .inl a1), (2, .inl a2)]) (st' := []) rfl rfl (Eq.trans (if_neg c2) (Eq.trans (if_neg c5) (Eq.trans (if_neg c8) (Eq.trans (if_neg c11) (Eq.trans (if_neg c14) (Eq.trans (if_neg c17) (if_pos c20))))))) ?_
                refine xq_blk 2 (pc' := 95) (ls' := [(0, .inr (.inr (0, a0r, 0))), (1, .inl a1), (2, .inl a2)]) (st' := [.inl a1, .inr (.inr (0, a0r, 0))]) (M' := M) rfl ?_
                refine xq_bind h (fun q18 e19 h => ?_)
                refine xq_call (j := 71) (as := [.inr (.inr (0, a0r, 0)), .inl a1]) (pc' := 98) (ls' := [(0, .inr (.inr (0, a0r, 0))), (1, .inl a1), (2, .inl a2)]) (st' := []) rfl rfl (f_X5_racksWithoutPermit_ok e19) ?_
                exact (hr _ (Option.some.inj h).symm) ▸ xq_ret rfl
              · refine xq_tsw (pc' := 99) (ls' := [(0, .inr (.inr (0, a0r, 0))), (1, .inl a1), (2, .inl a2)]) (st' := []) rfl rfl (Eq.trans (if_neg c2) (Eq.trans (if_neg c5) (Eq.trans (if_neg c8) (Eq.trans (if_neg c11) (Eq.trans (if_neg c14) (Eq.trans (if_neg c17) (Eq.trans (if_neg c20) (rfl)))))))) ?_
                refine xq_blk 1 (pc' := 101) (ls' := [(0, .inr (.inr (0, a0r, 0))), (1, .inl a1), (2, .inl a2)]) (st' := [.inl (-2 : Int32)]) (M' := M) rfl ?_
                exact (hr _ (Option.some.inj h).symm) ▸ xq_ret rfl
theorem f_X5_aboutShed_ok {X : List Int32} {a0r : Nat} {a1 : Int32} {a2 : Int32} {M : xM} {p : Int32} (h : f_X5_aboutShed a0r a1 a2 M = some p) : xq X xe 72 0 [(0, .inr (.inr (0, a0r, 0))), (1, .inl a1), (2, .inl a2)] [] M ((some (.inl p), M) : xR) := f_X5_aboutShed_run h (fun q e => by rw [e])
def f_X6_shed (a1 : Int32) (a2 : Int32) (M : xM) : Option (Int32) := (f_X6_isShed a1 M).bind (fun q1 => if q1 = (0 : Int32) then (some ((-1 : Int32))) else ((f_X5_aboutShed 2 a1 a2 M).bind (fun q3 => some (q3))))
theorem f_X6_shed_run {X : List Int32} {a1 : Int32} {a2 : Int32} {M : xM} {p : Int32} {r : xR} (h : f_X6_shed a1 a2 M = some p) (hr : ∀ q, p = q → ((some (.inl q), M) : xR) = r) : xq X xe 88 0 [(0, .inr (.inr (7, 5, 0))), (1, .inl a1), (2, .inl a2)] [] M r := by
  unfold f_X6_shed at h
  refine xq_blk 1 (pc' := 1) (ls' := [(0, .inr (.inr (7, 5, 0))), (1, .inl a1), (2, .inl a2)]) (st' := [.inl a1]) (M' := M) rfl ?_
  refine xq_bind h (fun q1 e2 h => ?_)
  refine xq_call (j := 31) (as := [.inl a1]) (pc' := 4) (ls' := [(0, .inr (.inr (7, 5, 0))), (1, .inl a1), (2, .inl a2)]) (st' := []) rfl rfl (f_X6_isShed_ok e2) ?_
  refine xq_ite h (fun c5 h => ?_) (fun c5 h => ?_)
  · refine xq_core (pc' := 7) (ls' := [(0, .inr (.inr (7, 5, 0))), (1, .inl a1), (2, .inl a2)]) (st' := []) rfl (if_pos c5) ?_
    refine xq_blk 1 (pc' := 8) (ls' := [(0, .inr (.inr (7, 5, 0))), (1, .inl a1), (2, .inl a2)]) (st' := [.inl (-1 : Int32)]) (M' := M) rfl ?_
    exact (hr _ (Option.some.inj h).symm) ▸ xq_ret rfl
  · refine xq_core (pc' := 9) (ls' := [(0, .inr (.inr (7, 5, 0))), (1, .inl a1), (2, .inl a2)]) (st' := []) rfl (if_neg c5) ?_
    refine xq_blk 4 (pc' := 15) (ls' := [(0, .inr (.inr (7, 5, 0))), (1, .inl a1), (2, .inl a2)]) (st' := [.inl a2, .inl a1, .inr (.inr (0, 2, 0))]) (M' := M) rfl ?_
    refine xq_bind h (fun q3 e4 h => ?_)
    refine xq_call (j := 72) (as := [.inr (.inr (0, 2, 0)), .inl a1, .inl a2]) (pc' := 18) (ls' := [(0, .inr (.inr (7, 5, 0))), (1, .inl a1), (2, .inl a2)]) (st' := []) rfl rfl (f_X5_aboutShed_ok e4) ?_
    exact (hr _ (Option.some.inj h).symm) ▸ xq_ret rfl
theorem f_X6_shed_ok {X : List Int32} {a1 : Int32} {a2 : Int32} {M : xM} {p : Int32} (h : f_X6_shed a1 a2 M = some p) : xq X xe 88 0 [(0, .inr (.inr (7, 5, 0))), (1, .inl a1), (2, .inl a2)] [] M ((some (.inl p), M) : xR) := f_X6_shed_run h (fun q e => by rw [e])
def f_X4_aboutPlace (a0r : Nat) (a1 : Int32) (a2 : Int32) (a3 : Int32) (M : xM) : Option (Int32) := (f_X4_whoIsAt a0r a1 a2 M).bind (fun q1 => (f_X6_isPerson q1 M).bind (fun q3 => if q3 = (0 : Int32) then (some ((-1 : Int32))) else (if a3 = (0 : Int32) then (some (q1)) else (if a3 = (1 : Int32) then (if xp_in a1 3 = true then (if xp_in q1 20 = true then (some ((M.1 a0r (10 + 1 + a1.toNatClampNeg) q1.toNatClampNeg))) else none) else none) else (if a3 = (2 : Int32) then (if xp_in a1 3 = true then (if xp_in q1 20 = true then (some ((M.1 a0r (14 + 1 + a1.toNatClampNeg) q1.toNatClampNeg))) else none) else none) else (some ((-2 : Int32))))))))
theorem f_X4_aboutPlace_run {X : List Int32} {a0r : Nat} {a1 : Int32} {a2 : Int32} {a3 : Int32} {M : xM} {p : Int32} {r : xR} (h : f_X4_aboutPlace a0r a1 a2 a3 M = some p) (hr : ∀ q, p = q → ((some (.inl q), M) : xR) = r) : xq X xe 47 0 [(0, .inr (.inr (1, a0r, 3))), (1, .inl a1), (2, .inl a2), (3, .inl a3)] [] M r := by
  unfold f_X4_aboutPlace at h
  refine xq_blk 3 (pc' := 3) (ls' := [(0, .inr (.inr (1, a0r, 3))), (1, .inl a1), (2, .inl a2), (3, .inl a3)]) (st' := [.inl a2, .inl a1, .inr (.inr (1, a0r, 3))]) (M' := M) rfl ?_
  refine xq_bind h (fun q1 e2 h => ?_)
  refine xq_call (j := 45) (as := [.inr (.inr (1, a0r, 3)), .inl a1, .inl a2]) (pc' := 6) (ls' := [(0, .inr (.inr (1, a0r, 3))), (1, .inl a1), (2, .inl a2), (3, .inl a3)]) (st' := []) rfl rfl (f_X4_whoIsAt_ok e2) ?_
  refine xq_blk 2 (pc' := 10) (ls' := [(4, .inl q1), (0, .inr (.inr (1, a0r, 3))), (1, .inl a1), (2, .inl a2), (3, .inl a3)]) (st' := [.inl q1]) (M' := M) rfl ?_
  refine xq_bind h (fun q3 e4 h => ?_)
  refine xq_call (j := 46) (as := [.inl q1]) (pc' := 13) (ls' := [(4, .inl q1), (0, .inr (.inr (1, a0r, 3))), (1, .inl a1), (2, .inl a2), (3, .inl a3)]) (st' := []) rfl rfl (f_X6_isPerson_ok e4) ?_
  refine xq_ite h (fun c12 h => ?_) (fun c12 h => ?_)
  · refine xq_core (pc' := 16) (ls' := [(4, .inl q1), (0, .inr (.inr (1, a0r, 3))), (1, .inl a1), (2, .inl a2), (3, .inl a3)]) (st' := []) rfl (if_pos c12) ?_
    refine xq_blk 1 (pc' := 17) (ls' := [(4, .inl q1), (0, .inr (.inr (1, a0r, 3))), (1, .inl a1), (2, .inl a2), (3, .inl a3)]) (st' := [.inl (-1 : Int32)]) (M' := M) rfl ?_
    exact (hr _ (Option.some.inj h).symm) ▸ xq_ret rfl
  · refine xq_core (pc' := 18) (ls' := [(4, .inl q1), (0, .inr (.inr (1, a0r, 3))), (1, .inl a1), (2, .inl a2), (3, .inl a3)]) (st' := []) rfl (if_neg c12) ?_
    refine xq_blk 1 (pc' := 19) (ls' := [(4, .inl q1), (0, .inr (.inr (1, a0r, 3))), (1, .inl a1), (2, .inl a2), (3, .inl a3)]) (st' := [.inl a3]) (M' := M) rfl ?_
    refine xq_ite h (fun c5 h => ?_) (fun c5 h => ?_)
    · refine xq_tsw (pc' := 44) (ls' := [(4, .inl q1), (0, .inr (.inr (1, a0r, 3))), (1, .inl a1), (2, .inl a2), (3, .inl a3)]) (st' := []) rfl rfl (if_pos c5) ?_
      refine xq_blk 1 (pc' := 46) (ls' := [(4, .inl q1), (0, .inr (.inr (1, a0r, 3))), (1, .inl a1), (2, .inl a2), (3, .inl a3)]) (st' := [.inl q1]) (M' := M) rfl ?_
      exact (hr _ (Option.some.inj h).symm) ▸ xq_ret rfl
    · refine xq_ite h (fun c8 h => ?_) (fun c8 h => ?_)
      · refine xq_tsw (pc' := 47) (ls' := [(4, .inl q1), (0, .inr (.inr (1, a0r, 3))), (1, .inl a1), (2, .inl a2), (3, .inl a3)]) (st' := []) rfl rfl (Eq.trans (if_neg c5) (if_pos c8)) ?_
        refine xq_blk 3 (pc' := 52) (ls' := [(4, .inl q1), (0, .inr (.inr (1, a0r, 3))), (1, .inl a1), (2, .inl a2), (3, .inl a3)]) (st' := [.inl a1, .inr (.inr (6, a0r, 10))]) (M' := M) rfl ?_
        refine xq_guard h (fun g6 h => ?_)
        refine xq_prim (st' := [.inr (.inr (3, a0r, (10 + 1 + a1.toNatClampNeg)))]) (M' := M) rfl rfl rfl (xg_aald6 g6) ?_
        refine xq_blk 1 (pc' := 55) (ls' := [(4, .inl q1), (0, .inr (.inr (1, a0r, 3))), (1, .inl a1), (2, .inl a2), (3, .inl a3)]) (st' := [.inl q1, .inr (.inr (3, a0r, (10 + 1 + a1.toNatClampNeg)))]) (M' := M) rfl ?_
        refine xq_guard h (fun g7 h => ?_)
        refine xq_prim (st' := [.inl (M.1 a0r (10 + 1 + a1.toNatClampNeg) q1.toNatClampNeg)]) (M' := M) rfl rfl rfl (xg_ald0 rfl g7) ?_
        exact (hr _ (Option.some.inj h).symm) ▸ xq_ret rfl
      · refine xq_ite h (fun c11 h => ?_) (fun c11 h => ?_)
        · refine xq_tsw (pc' := 57) (ls' := [(4, .inl q1), (0, .inr (.inr (1, a0r, 3))), (1, .inl a1), (2, .inl a2), (3, .inl a3)]) (st' := []) rfl rfl (Eq.trans (if_neg c5) (Eq.trans (if_neg c8) (if_pos c11))) ?_
          refine xq_blk 3 (pc' := 62) (ls' := [(4, .inl q1), (0, .inr (.inr (1, a0r, 3))), (1, .inl a1), (2, .inl a2), (3, .inl a3)]) (st' := [.inl a1, .inr (.inr (6, a0r, 14))]) (M' := M) rfl ?_
          refine xq_guard h (fun g9 h => ?_)
          refine xq_prim (st' := [.inr (.inr (3, a0r, (14 + 1 + a1.toNatClampNeg)))]) (M' := M) rfl rfl rfl (xg_aald6 g9) ?_
          refine xq_blk 1 (pc' := 65) (ls' := [(4, .inl q1), (0, .inr (.inr (1, a0r, 3))), (1, .inl a1), (2, .inl a2), (3, .inl a3)]) (st' := [.inl q1, .inr (.inr (3, a0r, (14 + 1 + a1.toNatClampNeg)))]) (M' := M) rfl ?_
          refine xq_guard h (fun g10 h => ?_)
          refine xq_prim (st' := [.inl (M.1 a0r (14 + 1 + a1.toNatClampNeg) q1.toNatClampNeg)]) (M' := M) rfl rfl rfl (xg_ald0 rfl g10) ?_
          exact (hr _ (Option.some.inj h).symm) ▸ xq_ret rfl
        · refine xq_tsw (pc' := 67) (ls' := [(4, .inl q1), (0, .inr (.inr (1, a0r, 3))), (1, .inl a1), (2, .inl a2), (3, .inl a3)]) (st' := []) rfl rfl (Eq.trans (if_neg c5) (Eq.trans (if_neg c8) (Eq.trans (if_neg c11) (rfl)))) ?_
          refine xq_blk 1 (pc' := 69) (ls' := [(4, .inl q1), (0, .inr (.inr (1, a0r, 3))), (1, .inl a1), (2, .inl a2), (3, .inl a3)]) (st' := [.inl (-2 : Int32)]) (M' := M) rfl ?_
          exact (hr _ (Option.some.inj h).symm) ▸ xq_ret rfl
theorem f_X4_aboutPlace_ok {X : List Int32} {a0r : Nat} {a1 : Int32} {a2 : Int32} {a3 : Int32} {M : xM} {p : Int32} (h : f_X4_aboutPlace a0r a1 a2 a3 M = some p) : xq X xe 47 0 [(0, .inr (.inr (1, a0r, 3))), (1, .inl a1), (2, .inl a2), (3, .inl a3)] [] M ((some (.inl p), M) : xR) := f_X4_aboutPlace_run h (fun q e => by rw [e])
def f_X6_waiting (a1 : Int32) (a2 : Int32) (a3 : Int32) (M : xM) : Option (Int32) := (f_X6_isShed a1 M).bind (fun q1 => if q1 = (0 : Int32) then (some ((-1 : Int32))) else ((f_X4_aboutPlace 2 a1 a2 a3 M).bind (fun q3 => some (q3))))
theorem f_X6_waiting_run {X : List Int32} {a1 : Int32} {a2 : Int32} {a3 : Int32} {M : xM} {p : Int32} {r : xR} (h : f_X6_waiting a1 a2 a3 M = some p) (hr : ∀ q, p = q → ((some (.inl q), M) : xR) = r) : xq X xe 89 0 [(0, .inr (.inr (7, 5, 0))), (1, .inl a1), (2, .inl a2), (3, .inl a3)] [] M r := by
  unfold f_X6_waiting at h
  refine xq_blk 1 (pc' := 1) (ls' := [(0, .inr (.inr (7, 5, 0))), (1, .inl a1), (2, .inl a2), (3, .inl a3)]) (st' := [.inl a1]) (M' := M) rfl ?_
  refine xq_bind h (fun q1 e2 h => ?_)
  refine xq_call (j := 31) (as := [.inl a1]) (pc' := 4) (ls' := [(0, .inr (.inr (7, 5, 0))), (1, .inl a1), (2, .inl a2), (3, .inl a3)]) (st' := []) rfl rfl (f_X6_isShed_ok e2) ?_
  refine xq_ite h (fun c5 h => ?_) (fun c5 h => ?_)
  · refine xq_core (pc' := 7) (ls' := [(0, .inr (.inr (7, 5, 0))), (1, .inl a1), (2, .inl a2), (3, .inl a3)]) (st' := []) rfl (if_pos c5) ?_
    refine xq_blk 1 (pc' := 8) (ls' := [(0, .inr (.inr (7, 5, 0))), (1, .inl a1), (2, .inl a2), (3, .inl a3)]) (st' := [.inl (-1 : Int32)]) (M' := M) rfl ?_
    exact (hr _ (Option.some.inj h).symm) ▸ xq_ret rfl
  · refine xq_core (pc' := 9) (ls' := [(0, .inr (.inr (7, 5, 0))), (1, .inl a1), (2, .inl a2), (3, .inl a3)]) (st' := []) rfl (if_neg c5) ?_
    refine xq_blk 6 (pc' := 19) (ls' := [(0, .inr (.inr (7, 5, 0))), (1, .inl a1), (2, .inl a2), (3, .inl a3)]) (st' := [.inl a3, .inl a2, .inl a1, .inr (.inr (1, 2, 3))]) (M' := M) rfl ?_
    refine xq_bind h (fun q3 e4 h => ?_)
    refine xq_call (j := 47) (as := [.inr (.inr (1, 2, 3)), .inl a1, .inl a2, .inl a3]) (pc' := 22) (ls' := [(0, .inr (.inr (7, 5, 0))), (1, .inl a1), (2, .inl a2), (3, .inl a3)]) (st' := []) rfl rfl (f_X4_aboutPlace_ok e4) ?_
    exact (hr _ (Option.some.inj h).symm) ▸ xq_ret rfl
theorem f_X6_waiting_ok {X : List Int32} {a1 : Int32} {a2 : Int32} {a3 : Int32} {M : xM} {p : Int32} (h : f_X6_waiting a1 a2 a3 M = some p) : xq X xe 89 0 [(0, .inr (.inr (7, 5, 0))), (1, .inl a1), (2, .inl a2), (3, .inl a3)] [] M ((some (.inl p), M) : xR) := f_X6_waiting_run h (fun q e => by rw [e])
def f_X4_countAll (a0r : Nat) (M : xM) : Option (Int32) := (f_X6_countPeople a0r 4 M).bind (fun q1 => some (q1))
theorem f_X4_countAll_run {X : List Int32} {a0r : Nat} {M : xM} {p : Int32} {r : xR} (h : f_X4_countAll a0r M = some p) (hr : ∀ q, p = q → ((some (.inl q), M) : xR) = r) : xq X xe 37 0 [(0, .inr (.inr (1, a0r, 3)))] [] M r := by
  unfold f_X4_countAll at h
  refine xq_blk 2 (pc' := 4) (ls' := [(0, .inr (.inr (1, a0r, 3)))]) (st' := [.inr (.inr (3, a0r, 4))]) (M' := M) rfl ?_
  refine xq_bind h (fun q1 e2 h => ?_)
  refine xq_call (j := 15) (as := [.inr (.inr (3, a0r, 4))]) (pc' := 7) (ls' := [(0, .inr (.inr (1, a0r, 3)))]) (st' := []) rfl rfl (f_X6_countPeople_ok e2) ?_
  exact (hr _ (Option.some.inj h).symm) ▸ xq_ret rfl
theorem f_X4_countAll_ok {X : List Int32} {a0r : Nat} {M : xM} {p : Int32} (h : f_X4_countAll a0r M = some p) : xq X xe 37 0 [(0, .inr (.inr (1, a0r, 3)))] [] M ((some (.inl p), M) : xR) := f_X4_countAll_run h (fun q e => by rw [e])
def f_X4_countAllWaiting_l4 (k4v0r : Nat) (M : xM) (s4 : Int32 × Int32) : Option ((Int32 × Int32) ⊕ (Int32)) := if s4.2 < (20 : Int32) then ((f_X4_waitsForSome k4v0r s4.2 M).bind (fun q1 => if q1 = (0 : Int32) then (some (.inl (s4.1, s4.2 + (1 : Int32)))) else (some (.inl (s4.1 + (1 : Int32), s4.2 + (1 : Int32)))))) else (Option.map Sum.inr (some (s4.1)))
theorem f_X4_countAllWaiting_l4_ok {X : List Int32} {k4v0r : Nat} {M : xM} {s4 : Int32 × Int32} {p : (Int32 × Int32) ⊕ (Int32)} {r : xR} (h : f_X4_countAllWaiting_l4 k4v0r M s4 = some p) (h0 : ∀ s', p = .inl s' → xq X xe 39 4 [(0, .inr (.inr (1, k4v0r, 3))), (1, .inl s'.1), (2, .inl s'.2)] [] M r) (hr : ∀ q, p = .inr (q) → ((some (.inl q), M) : xR) = r) : xq X xe 39 4 [(0, .inr (.inr (1, k4v0r, 3))), (1, .inl s4.1), (2, .inl s4.2)] [] M r := by
  unfold f_X4_countAllWaiting_l4 at h
  refine xq_blk 2 (pc' := 7) (ls' := [(0, .inr (.inr (1, k4v0r, 3))), (1, .inl s4.1), (2, .inl s4.2)]) (st' := [.inl (20 : Int32), .inl s4.2]) (M' := M) rfl ?_
  refine xq_ite h (fun c4 h => ?_) (fun c4 h => ?_)
  · refine xq_core (pc' := 10) (ls' := [(0, .inr (.inr (1, k4v0r, 3))), (1, .inl s4.1), (2, .inl s4.2)]) (st' := []) rfl (if_pos c4) ?_
    refine xq_blk 2 (pc' := 12) (ls' := [(0, .inr (.inr (1, k4v0r, 3))), (1, .inl s4.1), (2, .inl s4.2)]) (st' := [.inl s4.2, .inr (.inr (1, k4v0r, 3))]) (M' := M) rfl ?_
    refine xq_bind h (fun q1 e2 h => ?_)
    refine xq_call (j := 35) (as := [.inr (.inr (1, k4v0r, 3)), .inl s4.2]) (pc' := 15) (ls' := [(0, .inr (.inr (1, k4v0r, 3))), (1, .inl s4.1), (2, .inl s4.2)]) (st' := []) rfl rfl (f_X4_waitsForSome_ok e2) ?_
    refine xq_ite h (fun c3 h => ?_) (fun c3 h => ?_)
    · refine xq_core (pc' := 21) (ls' := [(0, .inr (.inr (1, k4v0r, 3))), (1, .inl s4.1), (2, .inl s4.2)]) (st' := []) rfl (if_pos c3) ?_
      refine xq_blk 2 (pc' := 4) (ls' := [(2, .inl (s4.2 + (1 : Int32))), (0, .inr (.inr (1, k4v0r, 3))), (1, .inl s4.1)]) (st' := []) (M' := M) rfl ?_
      exact xq_sub (a := [(0, .inr (.inr (1, k4v0r, 3))), (1, .inl ((s4.1, s4.2 + (1 : Int32)).1)), (2, .inl ((s4.1, s4.2 + (1 : Int32)).2))]) ⟨rfl, rfl, rfl, trivial⟩ rfl (h0 (s4.1, s4.2 + (1 : Int32)) (Option.some.inj h).symm)
    · refine xq_core (pc' := 18) (ls' := [(0, .inr (.inr (1, k4v0r, 3))), (1, .inl s4.1), (2, .inl s4.2)]) (st' := []) rfl (if_neg c3) ?_
      refine xq_blk 3 (pc' := 4) (ls' := [(2, .inl (s4.2 + (1 : Int32))), (1, .inl (s4.1 + (1 : Int32))), (0, .inr (.inr (1, k4v0r, 3)))]) (st' := []) (M' := M) rfl ?_
      exact xq_sub (a := [(0, .inr (.inr (1, k4v0r, 3))), (1, .inl ((s4.1 + (1 : Int32), s4.2 + (1 : Int32)).1)), (2, .inl ((s4.1 + (1 : Int32), s4.2 + (1 : Int32)).2))]) ⟨rfl, rfl, rfl, trivial⟩ rfl (h0 (s4.1 + (1 : Int32), s4.2 + (1 : Int32)) (Option.some.inj h).symm)
  · refine xq_core (pc' := 27) (ls' := [(0, .inr (.inr (1, k4v0r, 3))), (1, .inl s4.1), (2, .inl s4.2)]) (st' := []) rfl (if_neg c4) ?_
    refine xq_map h (fun p h e => ?_)
    replace hr := fun q e' => hr q (e.symm.trans (congrArg Sum.inr e'))
    clear e
    refine xq_blk 1 (pc' := 28) (ls' := [(0, .inr (.inr (1, k4v0r, 3))), (1, .inl s4.1), (2, .inl s4.2)]) (st' := [.inl s4.1]) (M' := M) rfl ?_
    exact (hr _ (Option.some.inj h).symm) ▸ xq_ret rfl
def f_X4_countAllWaiting (a0r : Nat) (M : xM) : Option (Int32) := xlp (f_X4_countAllWaiting_l4 a0r M) 4000 ((0 : Int32), (0 : Int32))
theorem f_X4_countAllWaiting_run {X : List Int32} {a0r : Nat} {M : xM} {p : Int32} {r : xR} (h : f_X4_countAllWaiting a0r M = some p) (hr : ∀ q, p = q → ((some (.inl q), M) : xR) = r) : xq X xe 39 0 [(0, .inr (.inr (1, a0r, 3)))] [] M r := by
  unfold f_X4_countAllWaiting at h
  refine xq_blk 4 (pc' := 4) (ls' := [(2, .inl (0 : Int32)), (1, .inl (0 : Int32)), (0, .inr (.inr (1, a0r, 3)))]) (st' := []) (M' := M) rfl ?_
  refine xq_sub (a := [(0, .inr (.inr (1, a0r, 3))), (1, .inl (0 : Int32)), (2, .inl (0 : Int32))]) ⟨rfl, rfl, rfl, trivial⟩ rfl ?_
  exact xlp_ok (P := fun s4 => xq X xe 39 4 [(0, .inr (.inr (1, a0r, 3))), (1, .inl s4.1), (2, .inl s4.2)] [] M r) (fun s p' hb g0 g1 => f_X4_countAllWaiting_l4_ok hb g0 (fun q e => hr q (g1 _ e).symm)) 4000 _ h
theorem f_X4_countAllWaiting_ok {X : List Int32} {a0r : Nat} {M : xM} {p : Int32} (h : f_X4_countAllWaiting a0r M = some p) : xq X xe 39 0 [(0, .inr (.inr (1, a0r, 3)))] [] M ((some (.inl p), M) : xR) := f_X4_countAllWaiting_run h (fun q e => by rw [e])
def f_X0_countInRacks (a0r : Nat) (M : xM) : Option (Int32) := (f_X6_countPeople a0r 19 M).bind (fun q1 => some (q1))
theorem f_X0_countInRacks_run {X : List Int32} {a0r : Nat} {M : xM} {p : Int32} {r : xR} (h : f_X0_countInRacks a0r M = some p) (hr : ∀ q, p = q → ((some (.inl q), M) : xR) = r) : xq X xe 16 0 [(0, .inr (.inr (2, a0r, 18)))] [] M r := by
  unfold f_X0_countInRacks at h
  refine xq_blk 2 (pc' := 4) (ls' := [(0, .inr (.inr (2, a0r, 18)))]) (st' := [.inr (.inr (3, a0r, 19))]) (M' := M) rfl ?_
  refine xq_bind h (fun q1 e2 h => ?_)
  refine xq_call (j := 15) (as := [.inr (.inr (3, a0r, 19))]) (pc' := 7) (ls' := [(0, .inr (.inr (2, a0r, 18)))]) (st' := []) rfl rfl (f_X6_countPeople_ok e2) ?_
  exact (hr _ (Option.some.inj h).symm) ▸ xq_ret rfl
theorem f_X0_countInRacks_ok {X : List Int32} {a0r : Nat} {M : xM} {p : Int32} (h : f_X0_countInRacks a0r M = some p) : xq X xe 16 0 [(0, .inr (.inr (2, a0r, 18)))] [] M ((some (.inl p), M) : xR) := f_X0_countInRacks_run h (fun q e => by rw [e])
def f_X0_countAllTagged (a0r : Nat) (M : xM) : Option (Int32) := (f_X6_countPeople a0r 22 M).bind (fun q1 => some (q1))
theorem f_X0_countAllTagged_run {X : List Int32} {a0r : Nat} {M : xM} {p : Int32} {r : xR} (h : f_X0_countAllTagged a0r M = some p) (hr : ∀ q, p = q → ((some (.inl q), M) : xR) = r) : xq X xe 17 0 [(0, .inr (.inr (2, a0r, 18)))] [] M r := by
  unfold f_X0_countAllTagged at h
  refine xq_blk 2 (pc' := 4) (ls' := [(0, .inr (.inr (2, a0r, 18)))]) (st' := [.inr (.inr (3, a0r, 22))]) (M' := M) rfl ?_
  refine xq_bind h (fun q1 e2 h => ?_)
  refine xq_call (j := 15) (as := [.inr (.inr (3, a0r, 22))]) (pc' := 7) (ls' := [(0, .inr (.inr (2, a0r, 18)))]) (st' := []) rfl rfl (f_X6_countPeople_ok e2) ?_
  exact (hr _ (Option.some.inj h).symm) ▸ xq_ret rfl
theorem f_X0_countAllTagged_ok {X : List Int32} {a0r : Nat} {M : xM} {p : Int32} (h : f_X0_countAllTagged a0r M = some p) : xq X xe 17 0 [(0, .inr (.inr (2, a0r, 18)))] [] M ((some (.inl p), M) : xR) := f_X0_countAllTagged_run h (fun q e => by rw [e])
def f_X0_countInPound (a0r : Nat) (M : xM) : Option (Int32) := (f_X6_countPeople a0r 23 M).bind (fun q1 => some (q1))
theorem f_X0_countInPound_run {X : List Int32} {a0r : Nat} {M : xM} {p : Int32} {r : xR} (h : f_X0_countInPound a0r M = some p) (hr : ∀ q, p = q → ((some (.inl q), M) : xR) = r) : xq X xe 18 0 [(0, .inr (.inr (2, a0r, 18)))] [] M r := by
  unfold f_X0_countInPound at h
  refine xq_blk 2 (pc' := 4) (ls' := [(0, .inr (.inr (2, a0r, 18)))]) (st' := [.inr (.inr (3, a0r, 23))]) (M' := M) rfl ?_
  refine xq_bind h (fun q1 e2 h => ?_)
  refine xq_call (j := 15) (as := [.inr (.inr (3, a0r, 23))]) (pc' := 7) (ls' := [(0, .inr (.inr (2, a0r, 18)))]) (st' := []) rfl rfl (f_X6_countPeople_ok e2) ?_
  exact (hr _ (Option.some.inj h).symm) ▸ xq_ret rfl
theorem f_X0_countInPound_ok {X : List Int32} {a0r : Nat} {M : xM} {p : Int32} (h : f_X0_countInPound a0r M = some p) : xq X xe 18 0 [(0, .inr (.inr (2, a0r, 18)))] [] M ((some (.inl p), M) : xR) := f_X0_countInPound_run h (fun q e => by rw [e])
def f_X0_countSold_l4 (k4v0r : Nat) (M : xM) (s4 : Int32 × Int32) : Option ((Int32 × Int32) ⊕ (Int32)) := if s4.2 < (20 : Int32) then (if xp_in s4.2 20 = true then (some (.inl (s4.1 + (M.1 k4v0r 24 s4.2.toNatClampNeg), s4.2 + (1 : Int32)))) else none) else (Option.map Sum.inr (some (s4.1)))
theorem f_X0_countSold_l4_ok {X : List Int32} {k4v0r : Nat} {M : xM} {s4 : Int32 × Int32} {p : (Int32 × Int32) ⊕ (Int32)} {r : xR} (h : f_X0_countSold_l4 k4v0r M s4 = some p) (h0 : ∀ s', p = .inl s' → xq X xe 19 4 [(0, .inr (.inr (2, k4v0r, 18))), (1, .inl s'.1), (2, .inl s'.2)] [] M r) (hr : ∀ q, p = .inr (q) → ((some (.inl q), M) : xR) = r) : xq X xe 19 4 [(0, .inr (.inr (2, k4v0r, 18))), (1, .inl s4.1), (2, .inl s4.2)] [] M r := by
  unfold f_X0_countSold_l4 at h
  refine xq_blk 2 (pc' := 7) (ls' := [(0, .inr (.inr (2, k4v0r, 18))), (1, .inl s4.1), (2, .inl s4.2)]) (st' := [.inl (20 : Int32), .inl s4.2]) (M' := M) rfl ?_
  refine xq_ite h (fun c2 h => ?_) (fun c2 h => ?_)
  · refine xq_core (pc' := 10) (ls' := [(0, .inr (.inr (2, k4v0r, 18))), (1, .inl s4.1), (2, .inl s4.2)]) (st' := []) rfl (if_pos c2) ?_
    refine xq_blk 4 (pc' := 16) (ls' := [(0, .inr (.inr (2, k4v0r, 18))), (1, .inl s4.1), (2, .inl s4.2)]) (st' := [.inl s4.2, .inr (.inr (3, k4v0r, 24)), .inl s4.1]) (M' := M) rfl ?_
    refine xq_guard h (fun g1 h => ?_)
    refine xq_prim (st' := [.inl (M.1 k4v0r 24 s4.2.toNatClampNeg), .inl s4.1]) (M' := M) rfl rfl rfl (xg_ald0 rfl g1) ?_
    refine xq_blk 4 (pc' := 4) (ls' := [(2, .inl (s4.2 + (1 : Int32))), (1, .inl (s4.1 + (M.1 k4v0r 24 s4.2.toNatClampNeg))), (0, .inr (.inr (2, k4v0r, 18)))]) (st' := []) (M' := M) rfl ?_
    exact xq_sub (a := [(0, .inr (.inr (2, k4v0r, 18))), (1, .inl ((s4.1 + (M.1 k4v0r 24 s4.2.toNatClampNeg), s4.2 + (1 : Int32)).1)), (2, .inl ((s4.1 + (M.1 k4v0r 24 s4.2.toNatClampNeg), s4.2 + (1 : Int32)).2))]) ⟨rfl, rfl, rfl, trivial⟩ rfl (h0 (s4.1 + (M.1 k4v0r 24 s4.2.toNatClampNeg), s4.2 + (1 : Int32)) (Option.some.inj h).symm)
  · refine xq_core (pc' := 25) (ls' := [(0, .inr (.inr (2, k4v0r, 18))), (1, .inl s4.1), (2, .inl s4.2)]) (st' := []) rfl (if_neg c2) ?_
    refine xq_map h (fun p h e => ?_)
    replace hr := fun q e' => hr q (e.symm.trans (congrArg Sum.inr e'))
    clear e
    refine xq_blk 1 (pc' := 26) (ls' := [(0, .inr (.inr (2, k4v0r, 18))), (1, .inl s4.1), (2, .inl s4.2)]) (st' := [.inl s4.1]) (M' := M) rfl ?_
    exact (hr _ (Option.some.inj h).symm) ▸ xq_ret rfl
def f_X0_countSold (a0r : Nat) (M : xM) : Option (Int32) := xlp (f_X0_countSold_l4 a0r M) 4000 ((0 : Int32), (0 : Int32))
theorem f_X0_countSold_run {X : List Int32} {a0r : Nat} {M : xM} {p : Int32} {r : xR} (h : f_X0_countSold a0r M = some p) (hr : ∀ q, p = q → ((some (.inl q), M) : xR) = r) : xq X xe 19 0 [(0, .inr (.inr (2, a0r, 18)))] [] M r := by
  unfold f_X0_countSold at h
  refine xq_blk 4 (pc' := 4) (ls' := [(2, .inl (0 : Int32)), (1, .inl (0 : Int32)), (0, .inr (.inr (2, a0r, 18)))]) (st' := []) (M' := M) rfl ?_
  refine xq_sub (a := [(0, .inr (.inr (2, a0r, 18))), (1, .inl (0 : Int32)), (2, .inl (0 : Int32))]) ⟨rfl, rfl, rfl, trivial⟩ rfl ?_
  exact xlp_ok (P := fun s4 => xq X xe 19 4 [(0, .inr (.inr (2, a0r, 18))), (1, .inl s4.1), (2, .inl s4.2)] [] M r) (fun s p' hb g0 g1 => f_X0_countSold_l4_ok hb g0 (fun q e => hr q (g1 _ e).symm)) 4000 _ h
theorem f_X0_countSold_ok {X : List Int32} {a0r : Nat} {M : xM} {p : Int32} (h : f_X0_countSold a0r M = some p) : xq X xe 19 0 [(0, .inr (.inr (2, a0r, 18)))] [] M ((some (.inl p), M) : xR) := f_X0_countSold_run h (fun q e => by rw [e])
def f_X5_aboutAll (a0r : Nat) (a1 : Int32) (M : xM) : Option (Int32) := if a1 = (0 : Int32) then (if xp_in a1 4 = true then (some ((M.1 a0r 1 a1.toNatClampNeg))) else none) else (if a1 = (1 : Int32) then (if xp_in a1 4 = true then (some ((M.1 a0r 1 a1.toNatClampNeg))) else none) else (if a1 = (2 : Int32) then (if xp_in a1 4 = true then (some ((M.1 a0r 1 a1.toNatClampNeg))) else none) else (if a1 = (3 : Int32) then (if xp_in a1 4 = true then (some ((M.1 a0r 1 a1.toNatClampNeg))) else none) else (if a1 = (4 : Int32) then (some ((M.1 a0r 0 4))) else (if a1 = (5 : Int32) then ((f_X4_countAll a0r M).bind (fun q10 => some (q10))) else (if a1 = (6 : Int32) then ((f_X4_countAllWaiting a0r M).bind (fun q13 => some (q13))) else (if a1 = (7 : Int32) then ((f_X0_countInRacks a0r M).bind (fun q16 => some (q16))) else (if a1 = (8 : Int32) then ((f_X0_countAllTagged a0r M).bind (fun q19 => some (q19))) else (if a1 = (9 : Int32) then ((f_X0_countInPound a0r M).bind (fun q22 => some (q22))) else (if a1 = (10 : Int32) then ((f_X0_countSold a0r M).bind (fun q25 => some (q25))) else (if a1 = (11 : Int32) then (some ((M.1 a0r 18 6))) else (if a1 = (12 : Int32) then (some ((M.1 a0r 3 5))) else (some ((-2 : Int32)))))))))))))))
theorem f_X5_aboutAll_run {X : List Int32} {a0r : Nat} {a1 : Int32} {M : xM} {p : Int32} {r : xR} (h : f_X5_aboutAll a0r a1 M = some p) (hr : ∀ q, p = q → ((some (.inl q), M) : xR) = r) : xq X xe 73 0 [(0, .inr (.inr (0, a0r, 0))), (1, .inl a1)] [] M r := by
  unfold f_X5_aboutAll at h
  refine xq_blk 1 (pc' := 1) (ls' := [(0, .inr (.inr (0, a0r, 0))), (1, .inl a1)]) (st' := [.inl a1]) (M' := M) rfl ?_
  refine xq_ite h (fun c2 h => ?_) (fun c2 h => ?_)
  · refine xq_tsw (pc' := 68) (ls' := [(0, .inr (.inr (0, a0r, 0))), (1, .inl a1)]) (st' := []) rfl rfl (if_pos c2) ?_
    refine xq_blk 3 (pc' := 73) (ls' := [(0, .inr (.inr (0, a0r, 0))), (1, .inl a1)]) (st' := [.inl a1, .inr (.inr (4, a0r, 1))]) (M' := M) rfl ?_
    refine xq_guard h (fun g1 h => ?_)
    refine xq_prim (st' := [.inl (M.1 a0r 1 a1.toNatClampNeg)]) (M' := M) rfl rfl rfl (xg_ald0 rfl g1) ?_
    exact (hr _ (Option.some.inj h).symm) ▸ xq_ret rfl
  · refine xq_ite h (fun c4 h => ?_) (fun c4 h => ?_)
    · refine xq_tsw (pc' := 68) (ls' := [(0, .inr (.inr (0, a0r, 0))), (1, .inl a1)]) (st' := []) rfl rfl (Eq.trans (if_neg c2) (if_pos c4)) ?_
      refine xq_blk 3 (pc' := 73) (ls' := [(0, .inr (.inr (0, a0r, 0))), (1, .inl a1)]) (st' := [.inl a1, .inr (.inr (4, a0r, 1))]) (M' := M) rfl ?_
      refine xq_guard h (fun g3 h => ?_)
      refine xq_prim (st' := [.inl (M.1 a0r 1 a1.toNatClampNeg)]) (M' := M) rfl rfl rfl (xg_ald0 rfl g3) ?_
      exact (hr _ (Option.some.inj h).symm) ▸ xq_ret rfl
    · refine xq_ite h (fun c6 h => ?_) (fun c6 h => ?_)
      · refine xq_tsw (pc' := 68) (ls' := [(0, .inr (.inr (0, a0r, 0))), (1, .inl a1)]) (st' := []) rfl rfl (Eq.trans (if_neg c2) (Eq.trans (if_neg c4) (if_pos c6))) ?_
        refine xq_blk 3 (pc' := 73) (ls' := [(0, .inr (.inr (0, a0r, 0))), (1, .inl a1)]) (st' := [.inl a1, .inr (.inr (4, a0r, 1))]) (M' := M) rfl ?_
        refine xq_guard h (fun g5 h => ?_)
        refine xq_prim (st' := [.inl (M.1 a0r 1 a1.toNatClampNeg)]) (M' := M) rfl rfl rfl (xg_ald0 rfl g5) ?_
        exact (hr _ (Option.some.inj h).symm) ▸ xq_ret rfl
      · refine xq_ite h (fun c8 h => ?_) (fun c8 h => ?_)
        · refine xq_tsw (pc' := 68) (ls' := [(0, .inr (.inr (0, a0r, 0))), (1, .inl a1)]) (st' := []) rfl rfl (Eq.trans (if_neg c2) (Eq.trans (if_neg c4) (Eq.trans (if_neg c6) (if_pos c8)))) ?_
          refine xq_blk 3 (pc' := 73) (ls' := [(0, .inr (.inr (0, a0r, 0))), (1, .inl a1)]) (st' := [.inl a1, .inr (.inr (4, a0r, 1))]) (M' := M) rfl ?_
          refine xq_guard h (fun g7 h => ?_)
          refine xq_prim (st' := [.inl (M.1 a0r 1 a1.toNatClampNeg)]) (M' := M) rfl rfl rfl (xg_ald0 rfl g7) ?_
          exact (hr _ (Option.some.inj h).symm) ▸ xq_ret rfl
        · refine xq_ite h (fun c9 h => ?_) (fun c9 h => ?_)
          · refine xq_tsw (pc' := 75) (ls' := [(0, .inr (.inr (0, a0r, 0))), (1, .inl a1)]) (st' := []) rfl rfl (Eq.trans (if_neg c2) (Eq.trans (if_neg c4) (Eq.trans (if_neg c6) (Eq.trans (if_neg c8) (if_pos c9))))) ?_
            refine xq_blk 2 (pc' := 79) (ls' := [(0, .inr (.inr (0, a0r, 0))), (1, .inl a1)]) (st' := [.inl (M.1 a0r 0 4)]) (M' := M) rfl ?_
            exact (hr _ (Option.some.inj h).symm) ▸ xq_ret rfl
          · refine xq_ite h (fun c12 h => ?_) (fun c12 h => ?_)
            · refine xq_tsw (pc' := 80) (ls' := [(0, .inr (.inr (0, a0r, 0))), (1, .inl a1)]) (st' := []) rfl rfl (Eq.trans (if_neg c2) (Eq.trans (if_neg c4) (Eq.trans (if_neg c6) (Eq.trans (if_neg c8) (Eq.trans (if_neg c9) (if_pos c12)))))) ?_
              refine xq_blk 2 (pc' := 84) (ls' := [(0, .inr (.inr (0, a0r, 0))), (1, .inl a1)]) (st' := [.inr (.inr (1, a0r, 3))]) (M' := M) rfl ?_
              refine xq_bind h (fun q10 e11 h => ?_)
              refine xq_call (j := 37) (as := [.inr (.inr (1, a0r, 3))]) (pc' := 87) (ls' := [(0, .inr (.inr (0, a0r, 0))), (1, .inl a1)]) (st' := []) rfl rfl (f_X4_countAll_ok e11) ?_
              exact (hr _ (Option.some.inj h).symm) ▸ xq_ret rfl
            · refine xq_ite h (fun c15 h => ?_) (fun c15 h => ?_)
              · refine xq_tsw (pc' := 88) (ls' := [(0, .inr (.inr (0, a0r, 0))), (1, .inl a1)]) (st' := []) rfl rfl (Eq.trans (if_neg c2) (Eq.trans (if_neg c4) (Eq.trans (if_neg c6) (Eq.trans (if_neg c8) (Eq.trans (if_neg c9) (Eq.trans (if_neg c12) (if_pos c15))))))) ?_
                refine xq_blk 2 (pc' := 92) (ls' := [(0, .inr (.inr (0, a0r, 0))), (1, .inl a1)]) (st' := [.inr (.inr (1, a0r, 3))]) (M' := M) rfl ?_
                refine xq_bind h (fun q13 e14 h => ?_)
                refine xq_call (j := 39) (as := [.inr (.inr (1, a0r, 3))]) (pc' := 95) (ls' := [(0, .inr (.inr (0, a0r, 0))), (1, .inl a1)]) (st' := []) rfl rfl (f_X4_countAllWaiting_ok e14) ?_
                exact (hr _ (Option.some.inj h).symm) ▸ xq_ret rfl
              · refine xq_ite h (fun c18 h => ?_) (fun c18 h => ?_)
                · refine xq_tsw (pc' := 96) (ls' := [(0, .inr (.inr (0, a0r, 0))), (1, .inl a1)]) (st' := []) rfl rfl (Eq.trans (if_neg c2) (Eq.trans (if_neg c4) (Eq.trans (if_neg c6) (Eq.trans (if_neg c8) (Eq.trans (if_neg c9) (Eq.trans (if_neg c12) (Eq.trans (if_neg c15) (if_pos c18)))))))) ?_
                  refine xq_blk 2 (pc' := 100) (ls' := [(0, .inr (.inr (0, a0r, 0))), (1, .inl a1)]) (st' := [.inr (.inr (2, a0r, 18))]) (M' := M) rfl ?_
                  refine xq_bind h (fun q16 e17 h => ?_)
                  refine xq_call (j := 16) (as := [.inr (.inr (2, a0r, 18))]) (pc' := 103) (ls' := [(0, .inr (.inr (0, a0r, 0))), (1, .inl a1)]) (st' := []) rfl rfl (f_X0_countInRacks_ok e17) ?_
                  exact (hr _ (Option.some.inj h).symm) ▸ xq_ret rfl
                · refine xq_ite h (fun c21 h => ?_) (fun c21 h => ?_)
                  · refine xq_tsw (pc' := 104) (ls' := [(0, .inr (.inr (0, a0r, 0))), (1, .inl a1)]) (st' := []) rfl rfl (Eq.trans (if_neg c2) (Eq.trans (if_neg c4) (Eq.trans (if_neg c6) (Eq.trans (if_neg c8) (Eq.trans (if_neg c9) (Eq.trans (if_neg c12) (Eq.trans (if_neg c15) (Eq.trans (if_neg c18) (if_pos c21))))))))) ?_
                    refine xq_blk 2 (pc' := 108) (ls' := [(0, .inr (.inr (0, a0r, 0))), (1, .inl a1)]) (st' := [.inr (.inr (2, a0r, 18))]) (M' := M) rfl ?_
                    refine xq_bind h (fun q19 e20 h => ?_)
                    refine xq_call (j := 17) (as := [.inr (.inr (2, a0r, 18))]) (pc' := 111) (ls' := [(0, .inr (.inr (0, a0r, 0))), (1, .inl a1)]) (st' := []) rfl rfl (f_X0_countAllTagged_ok e20) ?_
                    exact (hr _ (Option.some.inj h).symm) ▸ xq_ret rfl
                  · refine xq_ite h (fun c24 h => ?_) (fun c24 h => ?_)
                    · refine xq_tsw (pc' := 112) (ls' := [(0, .inr (.inr (0, a0r, 0))), (1, .inl a1)]) (st' := []) rfl rfl (Eq.trans (if_neg c2) (Eq.trans (if_neg c4) (Eq.trans (if_neg c6) (Eq.trans (if_neg c8) (Eq.trans (if_neg c9) (Eq.trans (if_neg c12) (Eq.trans (if_neg c15) (Eq.trans (if_neg c18) (Eq.trans (if_neg c21) (if_pos c24)))))))))) ?_
                      refine xq_blk 2 (pc' := 116) (ls' := [(0, .inr (.inr (0, a0r, 0))), (1, .inl a1)]) (st' := [.inr (.inr (2, a0r, 18))]) (M' := M) rfl ?_
                      refine xq_bind h (fun q22 e23 h => ?_)
                      refine xq_call (j := 18) (as := [.inr (.inr (2, a0r, 18))]) (pc' := 119) (ls' := [(0, .inr (.inr (0, a0r, 0))), (1, .inl a1)]) (st' := []) rfl rfl (f_X0_countInPound_ok e23) ?_
                      exact (hr _ (Option.some.inj h).symm) ▸ xq_ret rfl
                    · refine xq_ite h (fun c27 h => ?_) (fun c27 h => ?_)
                      · refine xq_tsw (pc' := 120) (ls' := [(0, .inr (.inr (0, a0r, 0))), (1, .inl a1)]) (st' := []) rfl rfl (Eq.trans (if_neg c2) (Eq.trans (if_neg c4) (Eq.trans (if_neg c6) (Eq.trans (if_neg c8) (Eq.trans (if_neg c9) (Eq.trans (if_neg c12) (Eq.trans (if_neg c15) (Eq.trans (if_neg c18) (Eq.trans (if_neg c21) (Eq.trans (if_neg c24) (if_pos c27))))))))))) ?_
                        refine xq_blk 2 (pc' := 124) (ls' := [(0, .inr (.inr (0, a0r, 0))), (1, .inl a1)]) (st' := [.inr (.inr (2, a0r, 18))]) (M' := M) rfl ?_
                        refine xq_bind h (fun q25 e26 h => ?_)
                        refine xq_call (j := 19) (as := [.inr (.inr (2, a0r, 18))]) (pc' := 127) (ls' := [(0, .inr (.inr (0, a0r, 0))), (1, .inl a1)]) (st' := []) rfl rfl (f_X0_countSold_ok e26) ?_
                        exact (hr _ (Option.some.inj h).symm) ▸ xq_ret rfl
                      · refine xq_ite h (fun c28 h => ?_) (fun c28 h => ?_)
                        · refine xq_tsw (pc' := 128) (ls' := [(0, .inr (.inr (0, a0r, 0))), (1, .inl a1)]) (st' := []) rfl rfl (Eq.trans (if_neg c2) (Eq.trans (if_neg c4) (Eq.trans (if_neg c6) (Eq.trans (if_neg c8) (Eq.trans (if_neg c9) (Eq.trans (if_neg c12) (Eq.trans (if_neg c15) (Eq.trans (if_neg c18) (Eq.trans (if_neg c21) (Eq.trans (if_neg c24) (Eq.trans (if_neg c27) (if_pos c28)))))))))))) ?_
                          refine xq_blk 3 (pc' := 135) (ls' := [(0, .inr (.inr (0, a0r, 0))), (1, .inl a1)]) (st' := [.inl (M.1 a0r 18 6)]) (M' := M) rfl ?_
                          exact (hr _ (Option.some.inj h).symm) ▸ xq_ret rfl
                        · refine xq_ite h (fun c29 h => ?_) (fun c29 h => ?_)
                          · refine xq_tsw (pc' := 136) (ls' := [(0, .inr (.inr (0, a0r, 0))), (1, .inl a1)]) (st' := []) rfl rfl (Eq.trans (if_neg c2) (Eq.trans (if_neg c4) (Eq.trans (if_neg c6) (Eq.trans (if_neg c8) (Eq.trans (if_neg c9) (Eq.trans (if_neg c12) (Eq.trans (if_neg c15) (Eq.trans (if_neg c18) (Eq.trans (if_neg c21) (Eq.trans (if_neg c24) (Eq.trans (if_neg c27) (Eq.trans (if_neg c28) (if_pos c29))))))))))))) ?_
                            refine xq_blk 3 (pc' := 143) (ls' := [(0, .inr (.inr (0, a0r, 0))), (1, .inl a1)]) (st' := [.inl (M.1 a0r 3 5)]) (M' := M) rfl ?_
                            exact (hr _ (Option.some.inj h).symm) ▸ xq_ret rfl
                          · refine xq_tsw (pc' := 144) (ls' := [(0, .inr (.inr (0, a0r, 0))), (1, .inl a1)]) (st' := []) rfl rfl (Eq.trans (if_neg c2) (Eq.trans (if_neg c4) (Eq.trans (if_neg c6) (Eq.trans (if_neg c8) (Eq.trans (if_neg c9) (Eq.trans (if_neg c12) (Eq.trans (if_neg c15) (Eq.trans (if_neg c18) (Eq.trans (if_neg c21) (Eq.trans (if_neg c24) (Eq.trans (if_neg c27) (Eq.trans (if_neg c28) (Eq.trans (if_neg c29) (rfl)))))))))))))) ?_
                            refine xq_blk 1 (pc' := 146) (ls' := [(0, .inr (.inr (0, a0r, 0))), (1, .inl a1)]) (st' := [.inl (-2 : Int32)]) (M' := M) rfl ?_
                            exact (hr _ (Option.some.inj h).symm) ▸ xq_ret rfl
theorem f_X5_aboutAll_ok {X : List Int32} {a0r : Nat} {a1 : Int32} {M : xM} {p : Int32} (h : f_X5_aboutAll a0r a1 M = some p) : xq X xe 73 0 [(0, .inr (.inr (0, a0r, 0))), (1, .inl a1)] [] M ((some (.inl p), M) : xR) := f_X5_aboutAll_run h (fun q e => by rw [e])
