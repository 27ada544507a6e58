/-! all that must hold of a state, as the law looks at it -/
theorem b01 {α : Type} {x : Int32} (F : Int32 → α) : (if x = -6 then F 0 else F 1) = F (bI (!decide (x = -6))) := by
  by_cases h : x = -6
  · rw [if_pos h, decide_eq_true h]
    rfl
  · rw [if_neg h, decide_eq_false h]
    rfl
theorem b01z {α : Type} {x : Int32} (F : Int32 → α) : (if x = 0 then F 0 else F 1) = F (bI (!decide (x = 0))) := by
  by_cases h : x = 0
  · rw [if_pos h, decide_eq_true h]
    rfl
  · rw [if_neg h, decide_eq_false h]
    rfl
theorem b10 {α : Type} {x y : Int32} (F : Int32 → α) : (if x = y then F 1 else F 0) = F (bI (decide (x = y))) := by
  by_cases h : x = y
  · rw [if_pos h, decide_eq_true h]
    rfl
  · rw [if_neg h, decide_eq_false h]
    rfl
theorem bI_01 {α : Type} (b : Bool) (F : Int32 → α) : (if bI b = 0 then F 0 else F 1) = F (bI b) := by
  cases b
  · rw [if_pos (show bI false = 0 from rfl)]
    rfl
  · rw [if_neg (show ¬ bI true = 0 by decide)]
    rfl
/-- one person -/
theorem hg_step {T Bg Bt k sq d kp nt : Nat} {P Q R G H S : Int32} {W : Nat → List Nat} {U : Nat → Nat} {N : xM} (hk : k < 20) (hA : gA d T (N.1 2) W U sq d kp nt) (hY : cY Bg Bt (N.1 2) W d) (hF : cF (N.1 2) W U sq) (hT2 : T < 2 ^ 30) (h1 : d + 300 ≤ 20000) (h2 : d + 300 + 99 ≤ T) : ∃ τ, f_L_hangs_l22 (-6) (P, Q, R, G, H, S, nI k, N) = some (.inl (P + bI (!decide (N.1 2 4 k = -6)), Q + bI (!decide (zWait (N.1 2) k 3 = 0)), R + bI (!decide (N.1 2 19 k = -6)), G + bI (!decide (N.1 2 22 k = -6)), H + bI (!decide (N.1 2 23 k = -6)), S + N.1 2 24 k, nI (k + 1), put N 4 τ)) := by
  have v1 := hA.2.2.2.1.1
  have v2 := hA.2.2.2.1.2.1
  have hperm := hA.2.2.2.1.2.2.2.2.1 k hk
  have hpound := hA.2.2.2.1.2.2.2.2.2 k hk
  have hbike := hA.2.2.2.2.2.1.1 k hk
  -- the last day
  have e5 : decide (N.1 2 5 k = -6) = decide (N.1 2 4 k = -6) := by
    by_cases h4 : N.1 2 4 k = -6
    · rw [decide_eq_true h4, decide_eq_true (hY.2.2.1 k hk h4)]
    · obtain ⟨l, l1, l2, l3⟩ := hA.2.2.2.2.2.2.1.1 k hk (hperm.resolve_left h4)
      rw [decide_eq_false h4, l3, decide_eq_false (nI_ne6 (by omega))]
  -- the days in the pound
  have e7 : decide ((if N.1 2 23 k = -6 then -6 else N.1 2 0 4 - N.1 2 23 k) = -6) = decide (N.1 2 23 k = -6) := by
    rcases hpound with z | ⟨q, q1, q2⟩
    · rw [if_pos z, decide_eq_true z]
      rfl
    · have n6 : ¬ nI q = -6 := nI_ne6 (by omega)
      rw [q2, if_neg n6, v1, sub_nI q1, decide_eq_false n6, decide_eq_false (nI_ne6 (by omega))]
  have e20 : decide (N.1 2 20 k = -6) = decide (N.1 2 19 k = -6) := by
    rcases hbike with z | ⟨sh, q, pk, c1, c2, c3, c4, c5, c6, c7⟩
    · rw [z.1, z.2.1]
    · rw [c4, c5, decide_eq_false (nI_ne6 (by omega)), decide_eq_false (nI_ne6 (by omega))]
  have e21 : (N.1 2 19 k = -6 → (if N.1 2 19 k = -6 then -6 else N.1 2 0 4 - N.1 2 21 k) = -6) ∧ (N.1 2 19 k ≠ -6 → ∃ q, q ≤ d ∧ (if N.1 2 19 k = -6 then -6 else N.1 2 0 4 - N.1 2 21 k) = nI q) := by
    refine ⟨fun z => if_pos z, fun z => ?_⟩
    rcases hbike with y | ⟨sh, q, pk, c1, c2, c3, c4, c5, c6, c7⟩
    · exact absurd y.1 z
    · exact ⟨d - pk, by omega, by rw [if_neg z, c6, v1, sub_nI c3]⟩
  have e21d : decide ((if N.1 2 19 k = -6 then -6 else N.1 2 0 4 - N.1 2 21 k) = -6) = decide (N.1 2 19 k = -6) := by
    by_cases z : N.1 2 19 k = -6
    · rw [e21.1 z, decide_eq_true z]
      rfl
    · obtain ⟨q, q1, q2⟩ := e21.2 z
      rw [q2, decide_eq_false z, decide_eq_false (nI_ne6 (by omega))]
  have e22 : ¬ N.1 2 0 4 < N.1 2 22 k := by
    rw [v1]
    rcases hbike with z | ⟨sh, q, pk, c1, c2, c3, c4, c5, c6, c7⟩
    · rw [z.2.2.2]
      exact fun y => nI_pos (n := d) (by omega) (Int32.lt_trans y (by decide))
    · rcases c7 with z | ⟨t, t1, t2⟩
      · rw [z]
        exact fun y => nI_pos (n := d) (by omega) (Int32.lt_trans y (by decide))
      · rw [t2]
        exact nI_nlt t1 (by omega)
  generalize eP : P + bI (!decide (N.1 2 4 k = -6)) = P'
  generalize eQ : Q + bI (!decide (zWait (N.1 2) k 3 = 0)) = Q'
  generalize eR : R + bI (!decide (N.1 2 19 k = -6)) = R'
  generalize eG : G + bI (!decide (N.1 2 22 k = -6)) = G'
  generalize eH : H + bI (!decide (N.1 2 23 k = -6)) = H'
  -- what would be
  have hu : ∃ u τ, f_X6_untilPermit (nI k) N = some (u, put N 4 τ) ∧ decide (u = -5) = decide (zWait (N.1 2) k 3 = 0) := by
    by_cases hw : zWait (N.1 2) k 3 = 0
    · refine ⟨-5, N.1 4, ?_, ?_⟩
      · rw [put_self]
        exact c_untilNo hk hw
      · rw [decide_eq_true hw]
        rfl
    · obtain ⟨sh, hs, hm⟩ := wait_in hA.1 hk hw
      obtain ⟨u, u1, u2⟩ := u_val hA hk hT2 h1 h2 (hA.2.1 sh hs k hm)
      obtain ⟨τ, e⟩ := c_untilYes hk hw u2
      refine ⟨u, τ, e, ?_⟩
      rw [decide_eq_false hw]
      refine decide_eq_false (fun z => ?_)
      rcases u1 with y | ⟨K, y1, y2⟩
      · rw [y] at z
        exact absurd z (by decide)
      · rw [y2] at z
        have : ¬ nI K < 0 := nI_pos (by have := y1.2.1; omega)
        rw [z] at this
        exact this (by decide)
  have hb : ∀ M : xM, M.1 2 = N.1 2 → ∃ b τ, f_X6_bestShed (nI k) 3 0 M = some (b, put M 4 τ) ∧ decide (b = -5) = ((!decide (N.1 2 4 k = -6)) || !decide (zWait (N.1 2) k 3 = 0)) := by
    intro M hM
    by_cases hbad : rg 3 (N.1 2 4 k) = true ∨ zWait (N.1 2) k 3 ≠ 0
    · refine ⟨-5, M.1 4, ?_, ?_⟩
      · rw [put_self]
        exact c_bestNo (a := 3) (f := 0) hk (by omega) (by omega) (by omega) (by rw [hM]; exact hbad)
      · rcases hbad with z | z
        · rw [decide_eq_false (rg_not6 z)]
          rfl
        · rw [decide_eq_false z, Bool.not_false, Bool.or_true]
          rfl
    · have h4 : N.1 2 4 k = -6 := by
        rcases hperm with z | z
        · exact z
        · exact absurd (Or.inl z) hbad
      have hw : zWait (N.1 2) k 3 = 0 := by
        by_cases z : zWait (N.1 2) k 3 = 0
        · exact z
        · exact absurd (Or.inr z) hbad
      obtain ⟨w, w1, w2⟩ := dw3 (p := k) (a := 3) hA hY hF hT2 h1 h2 hk (by omega) (by omega) h4 hw
      obtain ⟨τ, e⟩ := c_best (p := k) (a := 3) (f := 0) (w := w) hk (by omega) (by omega) (by omega) h4 hw (dw_days (fun i hi => by
        obtain ⟨ans, τ, W', x1, x2, x3, x4, x5, x6, x7⟩ := w2 i hi
        exact ⟨ans, τ, x2, x7.imp (fun y => ⟨y.1, y.2.1⟩) (fun y => ⟨y.1, y.2.2⟩)⟩)) M hM
      refine ⟨(bsN w 3).1, τ, e, ?_⟩
      rw [decide_eq_true h4, decide_eq_true hw]
      refine decide_eq_false (fun z => ?_)
      rcases bs_ok w1 with ⟨y, -⟩ | ⟨s, K, y1, y2, y3, -⟩
      · rw [y] at z
        exact absurd z (by decide)
      · rw [y3] at z
        have : ¬ nI s < 0 := nI_pos (by omega)
        have z : nI s = -5 := z
        rw [z] at this
        exact this (by decide)
  obtain ⟨u, τ1, u1, u2⟩ := hu
  have r1 : (put N 4 τ1).1 2 = N.1 2 := put_ne _ _ (by omega)
  obtain ⟨b, τ2, b1, b2⟩ := hb (put N 4 τ1) r1
  rw [put_put] at b1
  have r2 : (put N 4 τ2).1 2 = N.1 2 := put_ne _ _ (by omega)
  -- backwards, from the last test
  have t410 : ∀ x : Int32, f_L_hangs_j410_22 (-6) P' Q' R' G' H' (S + N.1 2 24 k) (nI k) x x (put N 4 τ2) = some (.inl (P', Q', R', G', H', S + N.1 2 24 k, nI (k + 1), put N 4 τ2)) := by
    intro x
    unfold f_L_hangs_j410_22
    rw [if_pos rfl, up_1]
  have t390 : f_L_hangs_j390_22 (-6) P' Q' R' G' H' (S + N.1 2 24 k) (nI k) (bI (!decide (N.1 2 4 k = -6))) (bI ((!decide (N.1 2 4 k = -6)) || !decide (zWait (N.1 2) k 3 = 0))) (put N 4 τ2) = some (.inl (P', Q', R', G', H', S + N.1 2 24 k, nI (k + 1), put N 4 τ2)) := by
    unfold f_L_hangs_j390_22 f_L_hangs_j405_22
    rw [c_p2 hk, r2, Option.bind_some]
    by_cases h4 : N.1 2 4 k = -6
    · rw [decide_eq_true h4, if_pos (show bI (!true) = 0 from rfl)]
      by_cases hw : zWait (N.1 2) k 3 = 0
      · rw [if_pos hw, decide_eq_true hw]
        exact t410 0
      · rw [if_neg hw, decide_eq_false hw]
        exact t410 1
    · rw [decide_eq_false h4, if_neg (show ¬ bI (!false) = 0 by decide), Bool.not_false, Bool.true_or]
      exact t410 1
  have t369 : ∀ x : Int32, f_L_hangs_j369_22 (-6) P' Q' R' G' H' (S + N.1 2 24 k) (nI k) (bI (!decide (N.1 2 4 k = -6))) x x (put N 4 τ1) = some (.inl (P', Q', R', G', H', S + N.1 2 24 k, nI (k + 1), put N 4 τ2)) := by
    intro x
    unfold f_L_hangs_j369_22
    rw [if_pos rfl, b1, Option.bind_some]
    dsimp only
    rw [b10 (fun v => f_L_hangs_j390_22 (-6) P' Q' R' G' H' (S + N.1 2 24 k) (nI k) (bI (!decide (N.1 2 4 k = -6))) v (put N 4 τ2)), b2]
    exact t390
  have t354 : f_L_hangs_j354_22 (-6) P' Q' R' G' H' (S + N.1 2 24 k) (nI k) (bI (!decide (N.1 2 4 k = -6))) (bI (decide (zWait (N.1 2) k 3 = 0))) (put N 4 τ1) = some (.inl (P', Q', R', G', H', S + N.1 2 24 k, nI (k + 1), put N 4 τ2)) := by
    unfold f_L_hangs_j354_22
    rw [c_p2 hk, r1, Option.bind_some, b10 (fun v => f_L_hangs_j369_22 (-6) P' Q' R' G' H' (S + N.1 2 24 k) (nI k) (bI (!decide (N.1 2 4 k = -6))) v (bI (decide (zWait (N.1 2) k 3 = 0))) (put N 4 τ1))]
    exact t369 _
  have t320 : f_L_hangs_j320_22 (-6) P' Q' R' G' H' (S + N.1 2 24 k) (nI k) (bI (!decide (N.1 2 4 k = -6))) N = some (.inl (P', Q', R', G', H', S + N.1 2 24 k, nI (k + 1), put N 4 τ2)) := by
    unfold f_L_hangs_j320_22
    rw [c_p6 hk, Option.bind_some, c_n4, Option.bind_some, if_neg e22, u1, Option.bind_some]
    dsimp only
    rw [b10 (fun v => f_L_hangs_j354_22 (-6) P' Q' R' G' H' (S + N.1 2 24 k) (nI k) (bI (!decide (N.1 2 4 k = -6))) v (put N 4 τ1)), u2]
    exact t354
  have t278 : f_L_hangs_j278_22 (-6) P' Q' R' G' H' (S + N.1 2 24 k) (nI k) (bI (!decide (N.1 2 4 k = -6))) (bI (!decide (N.1 2 19 k = -6))) N = some (.inl (P', Q', R', G', H', S + N.1 2 24 k, nI (k + 1), put N 4 τ2)) := by
    unfold f_L_hangs_j278_22
    by_cases h19 : N.1 2 19 k = -6
    · rw [decide_eq_true h19, if_pos (show bI (!true) = 0 from rfl)]
      exact t320
    · obtain ⟨q, q1, q2⟩ := e21.2 h19
      rw [decide_eq_false h19, if_neg (show ¬ bI (!false) = 0 by decide), c_p7 hk, Option.bind_some, if_pos (hY.2.1 k hk h19), if_pos rfl, c_p5 hk, Option.bind_some, q2, if_neg (nI_pos (by omega)), Option.bind_some, c_n4, Option.bind_some, v1, if_neg (nI_nlt q1 (by omega))]
      exact t320
  have t258 : ∀ x : Int32, f_L_hangs_j258_22 (-6) P' Q' R' G' H' (S + N.1 2 24 k) (nI k) (bI (!decide (N.1 2 4 k = -6))) (bI (!decide (N.1 2 19 k = -6))) x x N = some (.inl (P', Q', R', G', H', S + N.1 2 24 k, nI (k + 1), put N 4 τ2)) := by
    intro x
    unfold f_L_hangs_j258_22
    rw [if_pos rfl, t278]
    by_cases h19 : N.1 2 19 k = -6
    · have h22 : N.1 2 22 k = -6 := by
        rcases hbike with z | ⟨sh, q, pk, c1, c2, c3, c4, c5, c6, c7⟩
        · exact z.2.2.2
        · exact absurd (c4.symm.trans h19) (nI_ne6 (by omega))
      rw [decide_eq_true h19, if_pos (show bI (!true) = 0 from rfl), c_p6 hk, Option.bind_some, if_pos h22]
    · rw [decide_eq_false h19, if_neg (show ¬ bI (!false) = 0 by decide)]
  have t237 : ∀ x : Int32, f_L_hangs_j237_22 (-6) P' Q' R' G' H' (S + N.1 2 24 k) (nI k) (bI (!decide (N.1 2 4 k = -6))) (bI (!decide (N.1 2 19 k = -6))) x x N = some (.inl (P', Q', R', G', H', S + N.1 2 24 k, nI (k + 1), put N 4 τ2)) := by
    intro x
    unfold f_L_hangs_j237_22
    rw [if_pos rfl, c_p5 hk, Option.bind_some, b01 (fun v => f_L_hangs_j258_22 (-6) P' Q' R' G' H' (S + N.1 2 24 k) (nI k) (bI (!decide (N.1 2 4 k = -6))) (bI (!decide (N.1 2 19 k = -6))) v (bI (!decide (N.1 2 19 k = -6))) N), e21d]
    exact t258 _
  have t219 : f_L_hangs_j219_22 (-6) P' Q' R' G' H' (S + N.1 2 24 k) (nI k) (bI (!decide (N.1 2 4 k = -6))) (bI (!decide (N.1 2 19 k = -6))) N = some (.inl (P', Q', R', G', H', S + N.1 2 24 k, nI (k + 1), put N 4 τ2)) := by
    unfold f_L_hangs_j219_22
    rw [c_p4 hk, Option.bind_some, b01 (fun v => f_L_hangs_j237_22 (-6) P' Q' R' G' H' (S + N.1 2 24 k) (nI k) (bI (!decide (N.1 2 4 k = -6))) (bI (!decide (N.1 2 19 k = -6))) v (bI (!decide (N.1 2 19 k = -6))) N), e20]
    exact t237 _
  have t186 : ∀ x : Int32, f_L_hangs_j186_22 (-6) P' Q' R' G' H' (S + N.1 2 24 k) (nI k) (bI (!decide (N.1 2 4 k = -6))) (bI (!decide (N.1 2 19 k = -6))) x x N = some (.inl (P', Q', R', G', H', S + N.1 2 24 k, nI (k + 1), put N 4 τ2)) := by
    intro x
    unfold f_L_hangs_j186_22
    rw [if_pos rfl, t219]
    by_cases h4 : N.1 2 4 k = -6
    · rw [decide_eq_true h4, if_pos (show bI (!true) = 0 from rfl)]
    · obtain ⟨l, l1, l2, l3⟩ := hA.2.2.2.2.2.2.1.1 k hk (hperm.resolve_left h4)
      rw [decide_eq_false h4, if_neg (show ¬ bI (!false) = 0 by decide), c_p1 hk, Option.bind_some, c_n4, Option.bind_some, l3, v1, if_neg (nI_nlt l1 (by omega)), c_p2 hk, Option.bind_some, if_pos (perm_no hA.1 hA.2.1 hk h4)]
  have t152 : f_L_hangs_j152_22 (-6) P' Q' R' G' S (nI k) (bI (!decide (N.1 2 4 k = -6))) (bI (!decide (N.1 2 19 k = -6))) (bI (!decide (N.1 2 23 k = -6))) H N = some (.inl (P', Q', R', G', H', S + N.1 2 24 k, nI (k + 1), put N 4 τ2)) := by
    unfold f_L_hangs_j152_22
    rw [c_p8 hk, Option.bind_some, c_p1 hk, Option.bind_some, b01 (fun v => f_L_hangs_j186_22 (-6) P' Q' R' G' (H + bI (!decide (N.1 2 23 k = -6))) (S + N.1 2 24 k) (nI k) (bI (!decide (N.1 2 4 k = -6))) (bI (!decide (N.1 2 19 k = -6))) v (bI (!decide (N.1 2 4 k = -6))) N), e5, eH]
    exact t186 _
  have t130 : f_L_hangs_j130_22 (-6) P' Q' R' H S (nI k) (bI (!decide (N.1 2 4 k = -6))) (bI (!decide (N.1 2 19 k = -6))) (bI (!decide (N.1 2 22 k = -6))) G N = some (.inl (P', Q', R', G', H', S + N.1 2 24 k, nI (k + 1), put N 4 τ2)) := by
    unfold f_L_hangs_j130_22
    rw [c_p7 hk, Option.bind_some, b01 (fun v => f_L_hangs_j152_22 (-6) P' Q' R' (G + bI (!decide (N.1 2 22 k = -6))) S (nI k) (bI (!decide (N.1 2 4 k = -6))) (bI (!decide (N.1 2 19 k = -6))) v H N), e7, eG]
    exact t152
  have t108 : f_L_hangs_j108_22 (-6) P' Q' G H S (nI k) (bI (!decide (N.1 2 4 k = -6))) (bI (!decide (N.1 2 19 k = -6))) (bI (!decide (N.1 2 19 k = -6))) R N = some (.inl (P', Q', R', G', H', S + N.1 2 24 k, nI (k + 1), put N 4 τ2)) := by
    unfold f_L_hangs_j108_22
    rw [c_p6 hk, Option.bind_some, b01 (fun v => f_L_hangs_j130_22 (-6) P' Q' (R + bI (!decide (N.1 2 19 k = -6))) H S (nI k) (bI (!decide (N.1 2 4 k = -6))) (bI (!decide (N.1 2 19 k = -6))) v G N), eR]
    exact t130
  have t94 : f_L_hangs_j94_22 (-6) P' R G H S (nI k) (bI (!decide (N.1 2 4 k = -6))) (bI (!decide (N.1 2 19 k = -6))) (bI (!decide (zWait (N.1 2) k 3 = 0))) Q N = some (.inl (P', Q', R', G', H', S + N.1 2 24 k, nI (k + 1), put N 4 τ2)) := by
    unfold f_L_hangs_j94_22
    rw [bI_01 _ (fun v => f_L_hangs_j108_22 (-6) P' (Q + bI (!decide (zWait (N.1 2) k 3 = 0))) G H S (nI k) (bI (!decide (N.1 2 4 k = -6))) (bI (!decide (N.1 2 19 k = -6))) v R N), eQ]
    exact t108
  have t76 : f_L_hangs_j76_22 (-6) Q R G H S (nI k) (bI (!decide (N.1 2 4 k = -6))) (bI (!decide (N.1 2 19 k = -6))) (bI (!decide (N.1 2 4 k = -6))) P N = some (.inl (P', Q', R', G', H', S + N.1 2 24 k, nI (k + 1), put N 4 τ2)) := by
    unfold f_L_hangs_j76_22
    rw [c_p2 hk, Option.bind_some, b01z (fun v => f_L_hangs_j94_22 (-6) (P + bI (!decide (N.1 2 4 k = -6))) R G H S (nI k) (bI (!decide (N.1 2 4 k = -6))) (bI (!decide (N.1 2 19 k = -6))) v Q N), eP]
    exact t94
  refine ⟨τ2, ?_⟩
  unfold f_L_hangs_l22
  dsimp only
  rw [if_pos (show nI k < 20 from nI_lt (b := 20) hk (by omega)), c_p0 hk, Option.bind_some, b01 (fun v => f_L_hangs_j45_22 (-6) P Q R G H S (nI k) v N)]
  unfold f_L_hangs_j45_22
  rw [c_p3 hk, Option.bind_some, b01 (fun v => f_L_hangs_j63_22 (-6) P Q R G H S (nI k) (bI (!decide (N.1 2 4 k = -6))) v N)]
  unfold f_L_hangs_j63_22
  rw [bI_01 _ (fun v => f_L_hangs_j76_22 (-6) Q R G H S (nI k) (bI (!decide (N.1 2 4 k = -6))) (bI (!decide (N.1 2 19 k = -6))) v P N)]
  exact t76
theorem nI_bI (a : Nat) (b : Bool) : nI a + bI b = nI (if b = true then a + 1 else a) := by
  cases b
  · rw [if_neg (by decide)]
    exact Int32.add_zero _
  · rw [if_pos rfl]
    exact up_1 a
theorem cnt_bI (P : Nat → Bool) (k : Nat) : nI (cnt P k) + bI (P k) = nI (cnt P (k + 1)) := by
  rw [nI_bI, cnt_succ]
theorem sumI_nI {g : Nat → Int32} {s : Nat → Nat} : ∀ n, (∀ p, p < n → g p = nI (s p)) → sumI g n = nI (sumN s n)
  | 0, _ => rfl
  | n + 1, h => by
    show sumI g n + g n = nI (sumN s n + s n)
    rw [sumI_nI n (fun p hp => h p (by omega)), h n (by omega), nI_add]
theorem c_hangs {T Bg Bt sq d kp nt : Nat} {W : Nat → List Nat} {U : Nat → Nat} {M : xM} (hA : gA d T (M.1 2) W U sq d kp nt) (hY : cY Bg Bt (M.1 2) W d) (hF : cF (M.1 2) W U sq) (hT2 : T < 2 ^ 30) (h1 : d + 300 ≤ 20000) (h2 : d + 300 + 99 ≤ T) (hBg : Bg < 2 ^ 30) (hBt : Bt < 2 ^ 30) : ∃ τ, f_L_hangs M = some (1, put M 4 τ) := by
  have hl := xlp_rule (body := f_L_hangs_l22 (-6)) (Q := fun q => ∃ τ, q = ((1 : Int32), put M 4 τ)) (fun k s => ∃ τ, s = (nI (cnt (fun p => !decide (M.1 2 4 p = -6)) k), nI (cnt (fun p => !decide (zWait (M.1 2) p 3 = 0)) k), nI (cnt (fun p => !decide (M.1 2 19 p = -6)) k), nI (cnt (fun p => !decide (M.1 2 22 p = -6)) k), nI (cnt (fun p => !decide (M.1 2 23 p = -6)) k), sumI (M.1 2 24) k, nI k, put M 4 τ)) 20 4000 (by omega) (fun k s hk hP => ?_) (fun s hP => ?_) ((0 : Int32), (0 : Int32), (0 : Int32), (0 : Int32), (0 : Int32), (0 : Int32), (0 : Int32), M) ⟨M.1 4, by rw [put_self]; rfl⟩
  · obtain ⟨q, q1, τ, rfl⟩ := hl
    exact ⟨τ, q1⟩
  · obtain ⟨τ, rfl⟩ := hP
    left
    have r : (put M 4 τ).1 2 = M.1 2 := put_ne _ _ (by omega)
    obtain ⟨τ', e⟩ := hg_step (N := put M 4 τ) (P := nI (cnt (fun p => !decide (M.1 2 4 p = -6)) k)) (Q := nI (cnt (fun p => !decide (zWait (M.1 2) p 3 = 0)) k)) (R := nI (cnt (fun p => !decide (M.1 2 19 p = -6)) k)) (G := nI (cnt (fun p => !decide (M.1 2 22 p = -6)) k)) (H := nI (cnt (fun p => !decide (M.1 2 23 p = -6)) k)) (S := sumI (M.1 2 24) k) hk (by rw [r]; exact hA) (by rw [r]; exact hY) (by rw [r]; exact hF) hT2 h1 h2
    rw [r, put_put, cnt_bI (fun p => !decide (M.1 2 4 p = -6)), cnt_bI (fun p => !decide (zWait (M.1 2) p 3 = 0)), cnt_bI (fun p => !decide (M.1 2 19 p = -6)), cnt_bI (fun p => !decide (M.1 2 22 p = -6)), cnt_bI (fun p => !decide (M.1 2 23 p = -6))] at e
    exact ⟨_, e, τ', rfl⟩
  · obtain ⟨τ, rfl⟩ := hP
    have r : (put M 4 τ).1 2 = M.1 2 := put_ne _ _ (by omega)
    refine ⟨((1 : Int32), put M 4 τ), ?_, τ, rfl⟩
    have hsh : ∀ sh, sh < 3 → f_L_shed (nI sh) (put M 4 τ) = some 1 := fun sh hs => c_lshed (D := d) (T := T) (Bg := Bg) (Bt := Bt) hs (by rw [r]; exact hA) (by rw [r]; exact hY) (by rw [r]; exact hF)
    have s0 : f_L_shed 0 (put M 4 τ) = some 1 := hsh 0 (by omega)
    have s1 : f_L_shed 1 (put M 4 τ) = some 1 := hsh 1 (by omega)
    have s2 : f_L_shed 2 (put M 4 τ) = some 1 := hsh 2 (by omega)
    obtain ⟨g, g1, g2, g3⟩ := hY.2.2.2.1
    obtain ⟨t, s, t1, t2, t3, t4⟩ := hY.2.2.2.2
    have hsum : sumI (M.1 2 24) 20 = nI (sumN s 20) := sumI_nI 20 t2
    have n513 : f_L_hangs_j513 1 (put M 4 τ) = some (1, put M 4 τ) := by
      unfold f_L_hangs_j513
      rw [if_neg (by decide), s0, Option.bind_some, if_neg (by decide), s1, Option.bind_some, if_neg (by decide), s2, Option.bind_some, if_neg (by decide), nar_1]
    unfold f_L_hangs_l22
    dsimp only
    rw [if_neg (show ¬ nI 20 < 20 by decide), c_n5, Option.bind_some, r, if_pos rfl, c_n6, Option.bind_some, r, if_pos rfl, c_n7, Option.bind_some, r, if_pos rfl, c_n8, Option.bind_some, r, if_pos rfl, c_n9, Option.bind_some, r, if_pos rfl, c_n10, Option.bind_some, r, if_pos rfl, c_n11, Option.bind_some, r, t1, hsum, nI_add, if_neg (nI_nlt t3 (by omega)), c_n12, Option.bind_some, r, g1, if_neg (nI_nlt g2 (by omega)), n513]
    rfl
