/-! the law's loop -/
theorem aI_4' (a : Nat) : nI a + (4 : Int32) = nI (a + 4) := nI_add a 4
theorem fin_call {T T' : Nat} {A B : xM → Option (Int32 × xM)} {M : xM} {v : Int32} (h : callOK T T' A B) (hR : Rel T M) : ∃ M2, (A M).bind (fun q => (B q.2).bind (fun r => if q.1 = r.1 then (some (Sum.inl (v, r.2)) : Option ((Int32 × xM) ⊕ (Int32 × xM))) else (Option.map Sum.inr (some ((vp_nar .boolean (0 : Int32), r.2)))))) = some (Sum.inl (v, M2)) ∧ Rel T' M2 := by
  obtain ⟨ans, M1, M2, e1, e2, e3⟩ := h M hR
  refine ⟨M2, ?_, e3⟩
  rw [e1, Option.bind_some]
  dsimp only
  rw [e2, Option.bind_some]
  dsimp only
  rw [if_pos rfl]
theorem fin_pure {T : Nat} {A B : xM → Option Int32} {M : xM} {v : Int32} (h : pureOK T A B) (hR : Rel T M) : ∃ M2, (A M).bind (fun q => (B M).bind (fun r => if q = r then (some (Sum.inl (v, M)) : Option ((Int32 × xM) ⊕ (Int32 × xM))) else (Option.map Sum.inr (some ((vp_nar .boolean (0 : Int32), M)))))) = some (Sum.inl (v, M2)) ∧ Rel (T + 99) M2 := by
  obtain ⟨ans, e1, e2⟩ := h M hR
  refine ⟨M, ?_, hR.mono (by omega)⟩
  rw [e1, Option.bind_some, e2, Option.bind_some, if_pos rfl]
theorem callOK.up {T : Nat} {A B : xM → Option (Int32 × xM)} (h : callOK T T A B) : callOK T (T + 99) A B := by
  intro M hR
  obtain ⟨ans, M1, M2, e1, e2, e3⟩ := h M hR
  exact ⟨ans, M1, M2, e1, e2, e3.mono (by omega)⟩
theorem fin_use {T : Nat} {X : List Int32} {M : xM} {k : Nat} {x1 x2 : Int32} {is : Bool} (hT : 10398 ≤ T) (hR : Rel T M) (g1 : xp_in (nI (4 * k + 1)) (xp_stat X 0).length = true) (g2 : xp_in (nI (4 * k + 2)) (xp_stat X 0).length = true) (g3 : xp_in (nI (4 * k + 3)) (xp_stat X 0).length = true) (y1 : (xp_stat X 0).getD (nI (4 * k + 1)).toNatClampNeg 0 = x1) (y2 : (xp_stat X 0).getD (nI (4 * k + 2)).toNatClampNeg 0 = x2) (y3 : decide ((xp_stat X 0).getD (nI (4 * k + 3)).toNatClampNeg 0 = 0) = !is) : ∃ M2, f_L_law_j419_18 X (nI (4 * k)) (bI is) x2 x1 M = some (Sum.inl (nI (4 * k + 4), M2)) ∧ Rel (T + 99) M2 := by
  have hc : callOK T T (f_X6_use x1 x2 (bI is)) (f_X7_use x1 x2 (bI is)) := ch_call (ch_use (by omega) x1 x2 is) (Nat.le_refl T) (fun _ => rfl)
  obtain ⟨ans, M1, M2, e1, e2, e3⟩ := hc M hR
  refine ⟨M2, ?_, e3.mono (by omega)⟩
  unfold f_L_law_j419_18 f_L_law_j446_18
  rw [e1, Option.bind_some, aI_1, aI_2, aI_3, if_pos g1, if_pos g2, if_pos g3, y1, y2, aI_4']
  dsimp only
  cases is
  · have y3 := of_decide_eq_true y3
    have e2 : f_X7_use x1 x2 0 M1 = _ := e2
    rw [if_pos y3, e2, Option.bind_some]
    dsimp only
    rw [if_pos rfl]
  · have y3 := of_decide_eq_false y3
    have e2 : f_X7_use x1 x2 1 M1 = _ := e2
    rw [if_neg y3, e2, Option.bind_some]
    dsimp only
    rw [if_pos rfl]
theorem law_step {T : Nat} (hT : 10398 ≤ T) (hT2 : T < 2 ^ 30) {X : List Int32} {M : xM} {k : Nat} (hR : Rel T M) (hk : 4 * k + 4 ≤ (xp_stat X 0).length) (hlen : (xp_stat X 0).length ≤ 2048) : ∃ M2, f_L_law_l18 X (nI (4 * k), M) = some (Sum.inl (nI (4 * (k + 1)), M2)) ∧ Rel (T + 99) M2 := by
  have g0 : xp_in (nI (4 * k)) (xp_stat X 0).length = true := in_nI (by omega) (by omega)
  have g1 : xp_in (nI (4 * k + 1)) (xp_stat X 0).length = true := in_nI (by omega) (by omega)
  have g2 : xp_in (nI (4 * k + 2)) (xp_stat X 0).length = true := in_nI (by omega) (by omega)
  have g3 : xp_in (nI (4 * k + 3)) (xp_stat X 0).length = true := in_nI (by omega) (by omega)
  have gl : ¬ (Int32.ofNat (xp_stat X 0).length) - (4 : Int32) < nI (4 * k) := by
    have : Int32.ofNat (xp_stat X 0).length - (4 : Int32) = nI ((xp_stat X 0).length - 4) := sub_nI (a := (xp_stat X 0).length) (b := 4) (by omega)
    rw [this]
    exact nI_nlt (by omega) (by omega)
  have e4 : 4 * (k + 1) = 4 * k + 4 := by omega
  rw [e4]
  unfold f_L_law_l18
  dsimp only
  rw [if_neg gl, if_pos g0]
  simp only [aI_1, aI_2, aI_3, aI_4', g1, g2, g3, if_true]
  generalize (xp_stat X 0).getD (nI (4 * k)).toNatClampNeg 0 &&& 31 = o
  generalize y1 : (xp_stat X 0).getD (nI (4 * k + 1)).toNatClampNeg 0 = x1
  generalize y2 : (xp_stat X 0).getD (nI (4 * k + 2)).toNatClampNeg 0 = x2
  generalize y3 : (xp_stat X 0).getD (nI (4 * k + 3)).toNatClampNeg 0 = x3
  by_cases o0 : o = 0
  · rw [if_pos o0]
    exact fin_call (T := T) (A := f_X6_set x1 x2) (B := f_X7_set x1 x2) (callOK.up (ch_call (ch_set (by omega) x1 x2) (Nat.le_refl T) (fun _ => rfl))) hR
  rw [if_neg o0]
  by_cases o1 : o = 1
  · rw [if_pos o1]
    exact fin_call (T := T) (A := f_X6_ask x1 x2 x3) (B := f_X7_ask x1 x2 x3) (callOK.up (ch_call (ch_ask (by omega) x1 x2 x3) (Nat.le_refl T) (fun _ => rfl))) hR
  rw [if_neg o1]
  by_cases o2 : o = 2
  · rw [if_pos o2]
    exact fin_call (T := T) (A := f_X6_giveUp x1) (B := f_X7_giveUp x1) (callOK.up (ch_call (ch_giveUp (by omega) hT2 x1) (Nat.le_refl T) (fun _ => rfl))) hR
  rw [if_neg o2]
  by_cases o3 : o = 3
  · rw [if_pos o3]
    exact fin_call (T := T) (A := f_X6_prolong x1 x2) (B := f_X7_prolong x1 x2) (ch_call (ch_prolong hT2 x1 x2) (by omega) (fun _ => rfl)) hR
  rw [if_neg o3]
  by_cases o4 : o = 4
  · rw [if_pos o4]
    exact fin_call (T := T) (A := f_X6_park x1) (B := f_X7_park x1) (callOK.up (ch_call (ch_park x1) (Nat.le_refl T) (fun _ => rfl))) hR
  rw [if_neg o4]
  by_cases o5 : o = 5
  · rw [if_pos o5]
    exact fin_call (T := T) (A := f_X6_ride x1) (B := f_X7_ride x1) (callOK.up (ch_call (ch_ride x1) (Nat.le_refl T) (fun _ => rfl))) hR
  rw [if_neg o5]
  by_cases o6 : o = 6
  · rw [if_pos o6]
    exact fin_call (T := T) (A := f_X6_answer x1) (B := f_X7_answer x1) (callOK.up (ch_call (ch_answer x1) (Nat.le_refl T) (fun _ => rfl))) hR
  rw [if_neg o6]
  by_cases o7 : o = 7
  · rw [if_pos o7]
    exact fin_call (T := T) (A := f_X6_fetch x1) (B := f_X7_fetch x1) (callOK.up (ch_call (ch_fetch x1) (Nat.le_refl T) (fun _ => rfl))) hR
  rw [if_neg o7]
  by_cases o8 : o = 8
  · rw [if_pos o8]
    exact fin_call (T := T) (A := f_X6_sweep x1) (B := f_X7_sweep x1) (callOK.up (ch_call (ch_sweep x1) (Nat.le_refl T) (fun _ => rfl))) hR
  rw [if_neg o8]
  by_cases o9 : o = 9
  · rw [if_pos o9]
    by_cases z : x3 = 0
    · rw [if_pos z]
      exact fin_use (is := false) hT hR g1 g2 g3 y1 y2 (by rw [y3]; exact decide_eq_true z)
    · rw [if_neg z]
      exact fin_use (is := true) hT hR g1 g2 g3 y1 y2 (by rw [y3]; exact decide_eq_false z)
  rw [if_neg o9]
  by_cases o10 : o = 10
  · rw [if_pos o10]
    exact fin_call (T := T) (A := f_X6_pass x1) (B := f_X7_pass x1) (callOK.up (ch_call (ch_pass (by omega) hT2 x1) (Nat.le_refl T) (fun _ => rfl))) hR
  rw [if_neg o10]
  by_cases o11 : o = 11
  · rw [if_pos o11]
    exact fin_call (T := T) (A := f_X6_run) (B := f_X7_run) (callOK.up (q_run hT hT2)) hR
  rw [if_neg o11]
  by_cases o12 : o = 12
  · rw [if_pos o12]
    exact fin_pure (T := T) (A := f_X6_person x1 x2) (B := f_X7_person x1 x2) (q_person x1 x2) hR
  rw [if_neg o12]
  by_cases o13 : o = 13
  · rw [if_pos o13]
    exact fin_pure (T := T) (A := f_X6_shed x1 x2) (B := f_X7_shed x1 x2) (q_shed x1 x2) hR
  rw [if_neg o13]
  by_cases o14 : o = 14
  · rw [if_pos o14]
    exact fin_pure (T := T) (A := f_X6_waiting x1 x2 x3) (B := f_X7_waiting x1 x2 x3) (q_waiting x1 x2 x3) hR
  rw [if_neg o14]
  by_cases o15 : o = 15
  · rw [if_pos o15]
    exact fin_pure (T := T) (A := f_X6_count x1) (B := f_X7_count x1) (q_count x1) hR
  rw [if_neg o15]
  by_cases o16 : o = 16
  · rw [if_pos o16]
    exact fin_call (T := T) (A := f_X6_untilPermit x1) (B := f_X7_untilPermit x1) (callOK.up (q_until hT hT2 x1)) hR
  rw [if_neg o16]
  by_cases o17 : o = 17
  · rw [if_pos o17]
    exact fin_call (T := T) (A := f_X6_bestShed x1 x2 x3) (B := f_X7_bestShed x1 x2 x3) (callOK.up (q_best hT hT2 x1 x2 x3)) hR
  rw [if_neg o17]
  by_cases o18 : o = 18
  · rw [if_pos o18]
    obtain ⟨ans, M2, e1, e2, e3⟩ := q_swept hT hT2 x1 x2 M hR
    refine ⟨M2, ?_, e3.mono (by omega)⟩
    rw [e1, Option.bind_some, e2, Option.bind_some]
    dsimp only
    rw [if_pos rfl]
  rw [if_neg o18]
  by_cases o19 : o = 19
  · rw [if_pos o19]
    exact fin_call (T := T) (A := f_X6_put _) (B := f_X7_put _) (callOK.up (q_put _)) hR
  rw [if_neg o19]
  by_cases o20 : o = 20
  · rw [if_pos o20]
    exact fin_call (T := T) (A := f_X6_wipe) (B := f_X7_wipe) (callOK.up q_wipe) hR
  rw [if_neg o20]
  by_cases o21 : o = 21
  · rw [if_pos o21]
    exact fin_call (T := T) (A := f_X6_fault) (B := f_X7_fault) (callOK.up q_fault) hR
  rw [if_neg o21]
  by_cases o22 : o = 22
  · rw [if_pos o22]
    exact fin_call (T := T) (A := f_X6_undo) (B := f_X7_undo) (callOK.up q_undo) hR
  rw [if_neg o22]
  by_cases o23 : o = 23
  · rw [if_pos o23]
    exact fin_call (T := T) (A := f_X6_save x1) (B := f_X7_save x1) (callOK.up (q_save x1)) hR
  rw [if_neg o23]
  by_cases o24 : o = 24
  · rw [if_pos o24]
    exact fin_call (T := T) (A := f_X6_restore x1) (B := f_X7_restore x1) (callOK.up (q_restore x1)) hR
  rw [if_neg o24]
  exact ⟨M, rfl, hR.mono (by omega)⟩
theorem law_loop {X : List Int32} {M : xM} (hR : Rel 20000 M) (hlen : (xp_stat X 0).length ≤ 2048) : ∃ M2, xlp (f_L_law_l18 X) 4000 ((0 : Int32), M) = some (1, M2) ∧ Rel 80000 M2 := by
  have := xlp_rule (body := f_L_law_l18 X) (Q := fun r => ∃ M2, r = (1, M2) ∧ Rel 80000 M2) (fun k s => ∃ N, s = (nI (4 * k), N) ∧ Rel (20000 + 99 * k) N) ((xp_stat X 0).length / 4) 4000 (by omega) (fun k s hk hP => ?_) (fun s hP => ?_) (0, M) ⟨M, rfl, hR⟩
  · obtain ⟨q, h1, M2, rfl, h2⟩ := this
    exact ⟨M2, h1, h2⟩
  · obtain ⟨N, rfl, hN⟩ := hP
    left
    obtain ⟨M2, s1, s2⟩ := law_step (T := 20000 + 99 * k) (k := k) (by omega) (by omega) hN (by omega) hlen
    exact ⟨_, s1, M2, rfl, s2⟩
  · obtain ⟨N, rfl, hN⟩ := hP
    refine ⟨_, ?_, N, rfl, hN.mono (by omega)⟩
    unfold f_L_law_l18
    dsimp only
    have gl : (Int32.ofNat (xp_stat X 0).length) - (4 : Int32) < nI (4 * ((xp_stat X 0).length / 4)) := by
      have := sub_lt (a := (xp_stat X 0).length) (b := 4) (c := 4 * ((xp_stat X 0).length / 4)) (by omega) (by omega) (by omega)
      refine this.mpr ?_
      omega
    rw [if_pos gl, nar_1]
    rfl
