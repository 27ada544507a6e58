/-! the law's own calls -/
theorem pair_id (a : Option (Int32 × xM)) : a.bind (fun q => some ((q.1, q.2))) = a := by cases a <;> rfl
theorem ClS.congr {D T Bg Bt : Nat} {σ : Nat → Nat → Int32} {F G : xM → Option (Int32 × xM)} (h : ClS D T Bg Bt σ G) (e : ∀ M, F M = G M) : ClS D T Bg Bt σ F := by
  rw [show F = G from funext e]
  exact h
theorem l_lit {n : Nat} (v : Int32) (h0 : n ≠ 0) (hn : n < 2 ^ 31) : ∃ k, k < n ∧ ∀ M, f_L_low v (nI n) M = some (nI k) := c_low v h0 hn
theorem c_act {D T Bg Bt : Nat} {σ : Nat → Nat → Int32} (h : sZ D T Bg Bt σ) (hT : D + 105 ≤ T) (hT2 : T < 2 ^ 30) (hD : D + 6 ≤ 9999) (x y : Int32) : ClS D T Bg Bt σ (f_L_act x y) := by
  obtain ⟨p, -, ep⟩ := l_lit (n := 14) (x >>> ((5 : Int32) &&& (31 : Int32))) (by omega) (by omega)
  obtain ⟨a, -, ea⟩ := l_lit (n := 4) (x >>> ((9 : Int32) &&& (31 : Int32))) (by omega) (by omega)
  obtain ⟨b, -, eb⟩ := l_lit (n := 3) (x >>> ((11 : Int32) &&& (31 : Int32))) (by omega) (by omega)
  have ep : ∀ M, f_L_low (x >>> ((5 : Int32) &&& (31 : Int32))) 14 M = some (nI p) := ep
  have ea : ∀ M, f_L_low (x >>> ((9 : Int32) &&& (31 : Int32))) 4 M = some (nI a) := ea
  have eb : ∀ M, f_L_low (x >>> ((11 : Int32) &&& (31 : Int32))) 3 M = some (nI b) := eb
  have main : ∀ t : Int32, ClS D T Bg Bt σ (fun M => f_L_act_j32 x y (nI p) t M) := by
    intro t
    obtain ⟨c, hc, ec⟩ := l_lit (n := 17) x (by omega) (by omega)
    have ec : ∀ M, f_L_low x 17 M = some (nI c) := ec
    obtain ⟨k99, -, e99⟩ := l_lit (n := 99) y (by omega) (by omega)
    obtain ⟨k12, -, e12⟩ := l_lit (n := 12) y (by omega) (by omega)
    obtain ⟨k9, -, e9⟩ := l_lit (n := 9) y (by omega) (by omega)
    obtain ⟨k8, -, e8⟩ := l_lit (n := 8) y (by omega) (by omega)
    obtain ⟨k4, -, e4⟩ := l_lit (n := 4) y (by omega) (by omega)
    obtain ⟨k6, h6, e6⟩ := l_lit (n := 6) y (by omega) (by omega)
    obtain ⟨r7, -, er7⟩ := l_lit (n := 4) (y >>> ((7 : Int32) &&& (31 : Int32))) (by omega) (by omega)
    obtain ⟨r3, -, er3⟩ := l_lit (n := 3) (y >>> ((3 : Int32) &&& (31 : Int32))) (by omega) (by omega)
    obtain ⟨r2, -, er2⟩ := l_lit (n := 12) (y >>> ((2 : Int32) &&& (31 : Int32))) (by omega) (by omega)
    have e99 : ∀ M, f_L_low y 99 M = some (nI k99) := e99
    have e12 : ∀ M, f_L_low y 12 M = some (nI k12) := e12
    have e9 : ∀ M, f_L_low y 9 M = some (nI k9) := e9
    have e8 : ∀ M, f_L_low y 8 M = some (nI k8) := e8
    have e4 : ∀ M, f_L_low y 4 M = some (nI k4) := e4
    have e6 : ∀ M, f_L_low y 6 M = some (nI k6) := e6
    have er7 : ∀ M, f_L_low (y >>> ((7 : Int32) &&& (31 : Int32))) 4 M = some (nI r7) := er7
    have er3 : ∀ M, f_L_low (y >>> ((3 : Int32) &&& (31 : Int32))) 3 M = some (nI r3) := er3
    have er2 : ∀ M, f_L_low (y >>> ((2 : Int32) &&& (31 : Int32))) 12 M = some (nI r2) := er2
    have hask : ∀ z : Int32, ClS D T Bg Bt σ (f_X6_ask (nI p) t z) := fun z => ClS.of h (p_ask h (by omega) (nI p) t z) (fun _ => rfl)
    have huse : ∀ is : Bool, ClS D T Bg Bt σ (f_X6_use t (nI k8) (bI is)) := fun is => ClS.of h (p_use h (by omega) t (nI k8) is) (fun _ => rfl)
    rcases (by omega : c = 0 ∨ c = 1 ∨ c = 2 ∨ c = 3 ∨ c = 4 ∨ c = 5 ∨ c = 6 ∨ c = 7 ∨ c = 8 ∨ c = 9 ∨ c = 10 ∨ c = 11 ∨ c = 12 ∨ c = 13 ∨ c = 14 ∨ c = 15 ∨ c = 16) with rfl | rfl | rfl | rfl | rfl | rfl | rfl | rfl | rfl | rfl | rfl | rfl | rfl | rfl | rfl | rfl | rfl
    · refine ClS.congr (hask (if nI r7 = 0 then 1 + nI k99 else 1 + nI k12)) (fun M => ?_)
      · unfold f_L_act_j32
        rw [ec, Option.bind_some, if_pos (show nI 0 = 0 from rfl), er7, Option.bind_some]
        unfold f_L_act_j140
        by_cases z : nI r7 = 0
        · rw [if_pos z, if_pos z, e99, Option.bind_some, pair_id]
        · rw [if_neg z, if_neg z, e12, Option.bind_some, pair_id]
    · refine ClS.congr (hask (if nI r7 = 0 then 1 + nI k99 else 1 + nI k12)) (fun M => ?_)
      · unfold f_L_act_j32
        rw [ec, Option.bind_some, if_neg (show ¬ nI 1 = 0 by decide), if_pos (show nI 1 = 1 from rfl), er7, Option.bind_some]
        unfold f_L_act_j140
        by_cases z : nI r7 = 0
        · rw [if_pos z, if_pos z, e99, Option.bind_some, pair_id]
        · rw [if_neg z, if_neg z, e12, Option.bind_some, pair_id]
    · refine ClS.congr (hask (if nI r7 = 0 then 1 + nI k99 else 1 + nI k12)) (fun M => ?_)
      · unfold f_L_act_j32
        rw [ec, Option.bind_some, if_neg (show ¬ nI 2 = 0 by decide), if_neg (show ¬ nI 2 = 1 by decide), if_pos (show nI 2 = 2 from rfl), er7, Option.bind_some]
        unfold f_L_act_j140
        by_cases z : nI r7 = 0
        · rw [if_pos z, if_pos z, e99, Option.bind_some, pair_id]
        · rw [if_neg z, if_neg z, e12, Option.bind_some, pair_id]
    · refine ClS.congr (hask (if nI r7 = 0 then 1 + nI k99 else 1 + nI k12)) (fun M => ?_)
      · unfold f_L_act_j32
        rw [ec, Option.bind_some, if_neg (show ¬ nI 3 = 0 by decide), if_neg (show ¬ nI 3 = 1 by decide), if_neg (show ¬ nI 3 = 2 by decide), if_pos (show nI 3 = 3 from rfl), er7, Option.bind_some]
        unfold f_L_act_j140
        by_cases z : nI r7 = 0
        · rw [if_pos z, if_pos z, e99, Option.bind_some, pair_id]
        · rw [if_neg z, if_neg z, e12, Option.bind_some, pair_id]
    · refine ClS.congr (ClS.of (F6 := f_X6_giveUp (nI p)) h (p_giveUp h (by omega) hT2 (nI p)) (fun _ => rfl)) (fun M => ?_)
      · unfold f_L_act_j32
        rw [ec, Option.bind_some, if_neg (show ¬ nI 4 = 0 by decide), if_neg (show ¬ nI 4 = 1 by decide), if_neg (show ¬ nI 4 = 2 by decide), if_neg (show ¬ nI 4 = 3 by decide), if_pos (show nI 4 = 4 from rfl), pair_id]
    · refine ClS.congr (ClS.of (F6 := f_X6_prolong (nI p) (1 + nI k9)) h (p_prolong h hT2 (nI p) (1 + nI k9)) (fun _ => rfl)) (fun M => ?_)
      · unfold f_L_act_j32
        rw [ec, Option.bind_some, if_neg (show ¬ nI 5 = 0 by decide), if_neg (show ¬ nI 5 = 1 by decide), if_neg (show ¬ nI 5 = 2 by decide), if_neg (show ¬ nI 5 = 3 by decide), if_neg (show ¬ nI 5 = 4 by decide), if_pos (show nI 5 = 5 from rfl), e9, Option.bind_some, pair_id]
    · refine ClS.congr (ClS.of (F6 := f_X6_park (nI p)) h (p_park h (nI p)) (fun _ => rfl)) (fun M => ?_)
      · unfold f_L_act_j32
        rw [ec, Option.bind_some, if_neg (show ¬ nI 6 = 0 by decide), if_neg (show ¬ nI 6 = 1 by decide), if_neg (show ¬ nI 6 = 2 by decide), if_neg (show ¬ nI 6 = 3 by decide), if_neg (show ¬ nI 6 = 4 by decide), if_neg (show ¬ nI 6 = 5 by decide), if_pos (show nI 6 = 6 from rfl), pair_id]
    · refine ClS.congr (ClS.of (F6 := f_X6_park (nI p)) h (p_park h (nI p)) (fun _ => rfl)) (fun M => ?_)
      · unfold f_L_act_j32
        rw [ec, Option.bind_some, if_neg (show ¬ nI 7 = 0 by decide), if_neg (show ¬ nI 7 = 1 by decide), if_neg (show ¬ nI 7 = 2 by decide), if_neg (show ¬ nI 7 = 3 by decide), if_neg (show ¬ nI 7 = 4 by decide), if_neg (show ¬ nI 7 = 5 by decide), if_neg (show ¬ nI 7 = 6 by decide), if_pos (show nI 7 = 7 from rfl), pair_id]
    · refine ClS.congr (ClS.of (F6 := f_X6_park (nI p)) h (p_park h (nI p)) (fun _ => rfl)) (fun M => ?_)
      · unfold f_L_act_j32
        rw [ec, Option.bind_some, if_neg (show ¬ nI 8 = 0 by decide), if_neg (show ¬ nI 8 = 1 by decide), if_neg (show ¬ nI 8 = 2 by decide), if_neg (show ¬ nI 8 = 3 by decide), if_neg (show ¬ nI 8 = 4 by decide), if_neg (show ¬ nI 8 = 5 by decide), if_neg (show ¬ nI 8 = 6 by decide), if_neg (show ¬ nI 8 = 7 by decide), if_pos (show nI 8 = 8 from rfl), pair_id]
    · refine ClS.congr (ClS.of (F6 := f_X6_ride (nI p)) h (p_ride h (nI p)) (fun _ => rfl)) (fun M => ?_)
      · unfold f_L_act_j32
        rw [ec, Option.bind_some, if_neg (show ¬ nI 9 = 0 by decide), if_neg (show ¬ nI 9 = 1 by decide), if_neg (show ¬ nI 9 = 2 by decide), if_neg (show ¬ nI 9 = 3 by decide), if_neg (show ¬ nI 9 = 4 by decide), if_neg (show ¬ nI 9 = 5 by decide), if_neg (show ¬ nI 9 = 6 by decide), if_neg (show ¬ nI 9 = 7 by decide), if_neg (show ¬ nI 9 = 8 by decide), if_pos (show nI 9 = 9 from rfl), pair_id]
    · refine ClS.congr (ClS.of (F6 := f_X6_answer (nI p)) h (p_answer h (nI p)) (fun _ => rfl)) (fun M => ?_)
      · unfold f_L_act_j32
        rw [ec, Option.bind_some, if_neg (show ¬ nI 10 = 0 by decide), if_neg (show ¬ nI 10 = 1 by decide), if_neg (show ¬ nI 10 = 2 by decide), if_neg (show ¬ nI 10 = 3 by decide), if_neg (show ¬ nI 10 = 4 by decide), if_neg (show ¬ nI 10 = 5 by decide), if_neg (show ¬ nI 10 = 6 by decide), if_neg (show ¬ nI 10 = 7 by decide), if_neg (show ¬ nI 10 = 8 by decide), if_neg (show ¬ nI 10 = 9 by decide), if_pos (show nI 10 = 10 from rfl), pair_id]
    · refine ClS.congr (ClS.of (F6 := f_X6_fetch (nI p)) h (p_fetch h (nI p)) (fun _ => rfl)) (fun M => ?_)
      · unfold f_L_act_j32
        rw [ec, Option.bind_some, if_neg (show ¬ nI 11 = 0 by decide), if_neg (show ¬ nI 11 = 1 by decide), if_neg (show ¬ nI 11 = 2 by decide), if_neg (show ¬ nI 11 = 3 by decide), if_neg (show ¬ nI 11 = 4 by decide), if_neg (show ¬ nI 11 = 5 by decide), if_neg (show ¬ nI 11 = 6 by decide), if_neg (show ¬ nI 11 = 7 by decide), if_neg (show ¬ nI 11 = 8 by decide), if_neg (show ¬ nI 11 = 9 by decide), if_neg (show ¬ nI 11 = 10 by decide), if_pos (show nI 11 = 11 from rfl), pair_id]
    · refine ClS.congr (ClS.of (F6 := f_X6_sweep t) h (p_sweep h t) (fun _ => rfl)) (fun M => ?_)
      · unfold f_L_act_j32
        rw [ec, Option.bind_some, if_neg (show ¬ nI 12 = 0 by decide), if_neg (show ¬ nI 12 = 1 by decide), if_neg (show ¬ nI 12 = 2 by decide), if_neg (show ¬ nI 12 = 3 by decide), if_neg (show ¬ nI 12 = 4 by decide), if_neg (show ¬ nI 12 = 5 by decide), if_neg (show ¬ nI 12 = 6 by decide), if_neg (show ¬ nI 12 = 7 by decide), if_neg (show ¬ nI 12 = 8 by decide), if_neg (show ¬ nI 12 = 9 by decide), if_neg (show ¬ nI 12 = 10 by decide), if_neg (show ¬ nI 12 = 11 by decide), if_pos (show nI 12 = 12 from rfl), pair_id]
    · refine ClS.congr (huse (decide (nI r3 = 0))) (fun M => ?_)
      · unfold f_L_act_j32
        rw [ec, Option.bind_some, if_neg (show ¬ nI 13 = 0 by decide), if_neg (show ¬ nI 13 = 1 by decide), if_neg (show ¬ nI 13 = 2 by decide), if_neg (show ¬ nI 13 = 3 by decide), if_neg (show ¬ nI 13 = 4 by decide), if_neg (show ¬ nI 13 = 5 by decide), if_neg (show ¬ nI 13 = 6 by decide), if_neg (show ¬ nI 13 = 7 by decide), if_neg (show ¬ nI 13 = 8 by decide), if_neg (show ¬ nI 13 = 9 by decide), if_neg (show ¬ nI 13 = 10 by decide), if_neg (show ¬ nI 13 = 11 by decide), if_neg (show ¬ nI 13 = 12 by decide), if_pos (show nI 13 = 13 from rfl), e8, Option.bind_some, er3, Option.bind_some]
        unfold f_L_act_j223
        by_cases z : nI r3 = 0
        · rw [if_pos z, decide_eq_true z, pair_id]
          rfl
        · rw [if_neg z, decide_eq_false z, pair_id]
          rfl
    · refine ClS.congr (ClS.of (F6 := f_X6_set (nI k4) (nI r2)) h (p_set h (by omega) (nI k4) (nI r2)) (fun _ => rfl)) (fun M => ?_)
      · unfold f_L_act_j32
        rw [ec, Option.bind_some, if_neg (show ¬ nI 14 = 0 by decide), if_neg (show ¬ nI 14 = 1 by decide), if_neg (show ¬ nI 14 = 2 by decide), if_neg (show ¬ nI 14 = 3 by decide), if_neg (show ¬ nI 14 = 4 by decide), if_neg (show ¬ nI 14 = 5 by decide), if_neg (show ¬ nI 14 = 6 by decide), if_neg (show ¬ nI 14 = 7 by decide), if_neg (show ¬ nI 14 = 8 by decide), if_neg (show ¬ nI 14 = 9 by decide), if_neg (show ¬ nI 14 = 10 by decide), if_neg (show ¬ nI 14 = 11 by decide), if_neg (show ¬ nI 14 = 12 by decide), if_neg (show ¬ nI 14 = 13 by decide), if_pos (show nI 14 = 14 from rfl), e4, Option.bind_some, er2, Option.bind_some, pair_id]
    · refine ClS.congr (ClS.of (F6 := f_X6_pass (nI (1 + k6))) h (p_pass h hT2 (by omega) (by omega) (by omega) (by omega)) (fun _ => rfl)) (fun M => ?_)
      · unfold f_L_act_j32
        rw [ec, Option.bind_some, if_neg (show ¬ nI 15 = 0 by decide), if_neg (show ¬ nI 15 = 1 by decide), if_neg (show ¬ nI 15 = 2 by decide), if_neg (show ¬ nI 15 = 3 by decide), if_neg (show ¬ nI 15 = 4 by decide), if_neg (show ¬ nI 15 = 5 by decide), if_neg (show ¬ nI 15 = 6 by decide), if_neg (show ¬ nI 15 = 7 by decide), if_neg (show ¬ nI 15 = 8 by decide), if_neg (show ¬ nI 15 = 9 by decide), if_neg (show ¬ nI 15 = 10 by decide), if_neg (show ¬ nI 15 = 11 by decide), if_neg (show ¬ nI 15 = 12 by decide), if_neg (show ¬ nI 15 = 13 by decide), if_neg (show ¬ nI 15 = 14 by decide), e6, Option.bind_some, show (1 : Int32) + nI k6 = nI (1 + k6) from nI_add 1 k6, pair_id]
    · refine ClS.congr (ClS.of (F6 := f_X6_pass (nI (1 + k6))) h (p_pass h hT2 (by omega) (by omega) (by omega) (by omega)) (fun _ => rfl)) (fun M => ?_)
      · unfold f_L_act_j32
        rw [ec, Option.bind_some, if_neg (show ¬ nI 16 = 0 by decide), if_neg (show ¬ nI 16 = 1 by decide), if_neg (show ¬ nI 16 = 2 by decide), if_neg (show ¬ nI 16 = 3 by decide), if_neg (show ¬ nI 16 = 4 by decide), if_neg (show ¬ nI 16 = 5 by decide), if_neg (show ¬ nI 16 = 6 by decide), if_neg (show ¬ nI 16 = 7 by decide), if_neg (show ¬ nI 16 = 8 by decide), if_neg (show ¬ nI 16 = 9 by decide), if_neg (show ¬ nI 16 = 10 by decide), if_neg (show ¬ nI 16 = 11 by decide), if_neg (show ¬ nI 16 = 12 by decide), if_neg (show ¬ nI 16 = 13 by decide), if_neg (show ¬ nI 16 = 14 by decide), e6, Option.bind_some, show (1 : Int32) + nI k6 = nI (1 + k6) from nI_add 1 k6, pair_id]
  refine ClS.congr (main (if nI a = 0 then nI b else 0)) (fun M => ?_)
  unfold f_L_act
  rw [ep, Option.bind_some, ea, Option.bind_some]
  by_cases z : nI a = 0
  · rw [if_pos z, if_pos z, eb, Option.bind_some]
  · rw [if_neg z, if_neg z]
