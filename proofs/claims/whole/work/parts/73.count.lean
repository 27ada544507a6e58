/-! questions: count, shed -/
theorem m_people {k : Nat} {P : Nat → Bool} {M : xM} (h : ∀ p, p < 20 → ∀ n, f_X7_people_l4 (nI k) M (n, nI p) = some (.inl (if P p = true then n + 1 else n, nI p + 1))) : f_X7_people (nI k) M = some (nI (cnt P 20)) := by
  unfold f_X7_people
  exact xlp_cnt P h rfl
theorem m_j106 {k p : Nat} {n : Int32} {b : Bool} {M : xM} : f_X7_people_j106_4 (nI k) (nI p) (bI b) n M = some (.inl (if b = true then n + 1 else n, nI p + 1)) := by
  unfold f_X7_people_j106_4
  rw [m_flag, Option.bind_some]
  cases b
  · rw [if_neg (by decide)]
    show some (Sum.inl (n + 0, nI p + 1)) = _
    rw [Int32.add_zero]
  · rfl
theorem ite_j106 {k p : Nat} {n : Int32} {Q : Prop} [Decidable Q] {M : xM} : (if Q then f_X7_people_j106_4 (nI k) (nI p) 0 n M else f_X7_people_j106_4 (nI k) (nI p) 1 n M) = some (.inl (if (!decide Q) = true then n + 1 else n, nI p + 1)) := by
  by_cases h : Q
  · rw [if_pos h, decide_eq_true h]
    exact m_j106 (b := false)
  · rw [if_neg h, decide_eq_false h]
    exact m_j106 (b := true)
theorem c_countAllWaiting {r : Nat} {M : xM} : f_X4_countAllWaiting r M = some (nI (cnt (fun p => !decide (zWait (M.1 r) p 3 = 0)) 20)) := by
  unfold f_X4_countAllWaiting
  refine xlp_cnt (fun p => !decide (zWait (M.1 r) p 3 = 0)) (fun p hp n => ?_) rfl
  unfold f_X4_countAllWaiting_l4
  simp (disch := omega) only [lt_20, if_true, c_waitsForSome hp, Option.bind_some, ite_bI]
  cases decide (zWait (M.1 r) p 3 = 0) <;> rfl
theorem cnt_eq {P Q : Nat → Bool} (h : ∀ p, p < 20 → P p = Q p) : nI (cnt P 20) = nI (cnt Q 20) := by rw [cnt_congr 20 h]
theorem q_count {T : Nat} (x : Int32) : pureOK T (f_X6_count x) (f_X7_count x) := by
  rintro M ⟨n, R, hC, hn, -, -, -, ⟨W, U, sq, d, kp, nt, hR, hA⟩, ⟨L, -, pl, pm, -⟩⟩
  have fin : ∀ {a b : Option Int32} (v : Int32), a = some v → b = some v → ∃ ans, a = some ans ∧ b = some ans := fun v h1 h2 => ⟨v, h1, h2⟩
  have rs : ∀ k, k < 4 → M.1 6 1 k = M.1 2 1 k := fun k hk => by
    have := hR.1.1 k hk
    rw [Nat.zero_add] at this
    exact this
  have rp' : ∀ p f, p < 20 → f < 8 → M.1 6 1 (14 + 8 * p + f) = M.1 2 (mF f) p := fun p f hp hf => row0 hR.2.2.2 hp hf
  have r4 : M.1 6 1 4 = M.1 2 0 4 := hR.1.2.1
  have r5 : M.1 6 1 5 = sumI (M.1 2 24) 20 := hR.1.2.2.1
  have r6 : M.1 6 1 6 = M.1 2 18 6 := hR.1.2.2.2.1
  have r7 : M.1 6 1 7 = M.1 2 3 5 := hR.1.2.2.2.2
  unfold f_X6_count f_X7_count
  by_cases y13 : x = 13
  · subst y13
    refine fin (nI L) ?_ ?_
    · rw [if_pos rfl, pl]
    · rw [if_neg (by decide), if_neg (by decide), if_neg (by decide), if_neg (by decide), if_neg (by decide), if_neg (by decide), if_neg (by decide), if_neg (by decide), if_neg (by decide), if_neg (by decide), if_neg (by decide), if_neg (by decide), if_neg (by decide), if_pos rfl, pm]
  rw [if_neg y13]
  by_cases y14 : x = 14
  · subst y14
    refine fin (nI n) ?_ ?_
    · rw [if_pos rfl, hC.2.1]
    · rw [if_neg (by decide), if_neg (by decide), if_neg (by decide), if_neg (by decide), if_neg (by decide), if_neg (by decide), if_neg (by decide), if_neg (by decide), if_neg (by decide), if_neg (by decide), if_neg (by decide), if_neg (by decide), if_neg (by decide), if_neg (by decide), if_pos rfl, hn]
  rw [if_neg y14]
  have hb : ∀ a : Option Int32, a.bind (fun q3 => some q3) = a := fun a => by cases a <;> rfl
  rw [hb]
  unfold f_X5_aboutAll
  by_cases y0 : x = 0
  · subst y0
    refine fin (M.1 2 1 0) ?_ ?_
    · rw [if_pos rfl, if_pos (show xp_in 0 4 = true from in_nI (k := 0) (by omega) (by omega))]
      rfl
    · rw [if_pos rfl, if_pos (show xp_in 0 3540 = true from in_nI (k := 0) (by omega) (by omega)), ← rs 0 (by omega)]
      rfl
  rw [if_neg y0, if_neg y0]
  by_cases y1 : x = 1
  · subst y1
    refine fin (M.1 2 1 1) ?_ ?_
    · rw [if_pos rfl, if_pos (show xp_in 1 4 = true from in_nI (k := 1) (by omega) (by omega))]
      rfl
    · rw [if_pos rfl, if_pos (show xp_in 1 3540 = true from in_nI (k := 1) (by omega) (by omega)), ← rs 1 (by omega)]
      rfl
  rw [if_neg y1, if_neg y1]
  by_cases y2 : x = 2
  · subst y2
    refine fin (M.1 2 1 2) ?_ ?_
    · rw [if_pos rfl, if_pos (show xp_in 2 4 = true from in_nI (k := 2) (by omega) (by omega))]
      rfl
    · rw [if_pos rfl, if_pos (show xp_in 2 3540 = true from in_nI (k := 2) (by omega) (by omega)), ← rs 2 (by omega)]
      rfl
  rw [if_neg y2, if_neg y2]
  by_cases y3 : x = 3
  · subst y3
    refine fin (M.1 2 1 3) ?_ ?_
    · rw [if_pos rfl, if_pos (show xp_in 3 4 = true from in_nI (k := 3) (by omega) (by omega))]
      rfl
    · rw [if_pos rfl, if_pos (show xp_in 3 3540 = true from in_nI (k := 3) (by omega) (by omega)), ← rs 3 (by omega)]
      rfl
  rw [if_neg y3, if_neg y3]
  by_cases y4 : x = 4
  · subst y4
    refine fin (M.1 2 0 4) ?_ ?_
    · rw [if_pos rfl]
    · rw [if_pos rfl, if_pos (show xp_in 4 3540 = true from in_nI (k := 4) (by omega) (by omega)), ← r4]
      rfl
  rw [if_neg y4, if_neg y4]
  by_cases y5 : x = 5
  · subst y5
    refine fin (nI (cnt (fun p => !decide (M.1 2 4 p = -6)) 20)) ?_ ?_
    · rw [if_pos rfl, hb]
      unfold f_X4_countAll
      rw [hb, c_countPeople]
    · rw [if_pos rfl, hb]
      refine m_people (k := 5) (fun p hp m => ?_)
      unfold f_X7_people_l4
      have h0 := rp' p 0 hp (by omega)
      rw [Nat.add_zero] at h0
      have h0 : M.1 6 1 (14 + 8 * p) = M.1 2 4 p := h0
      dsimp only
      rw [if_pos (lt_nI (n := 20) hp (by omega) ▸ trivial), m_personAt0, Option.bind_some, if_pos (show nI 5 = 5 from rfl), if_pos (in_nI (by omega) (by omega)), cl_nI (by omega), h0]
      exact ite_j106
  rw [if_neg y5, if_neg y5]
  by_cases y6 : x = 6
  · subst y6
    refine fin (nI (cnt (fun p => !decide (zWait (M.1 2) p 3 = 0)) 20)) ?_ ?_
    · rw [if_pos rfl, hb, c_countAllWaiting]
    · rw [if_pos rfl, hb]
      refine m_people (k := 6) (fun p hp m => ?_)
      unfold f_X7_people_l4
      have ew : f_X7_waitsFor 0 (nI p) M = some (zWait (M.1 2) p 3) := m_waits (b := 0) (by omega) hp hR hA.1
      dsimp only
      rw [if_pos (lt_nI (n := 20) hp (by omega) ▸ trivial), m_personAt0, Option.bind_some, if_neg (show ¬ nI 6 = 5 by decide), if_pos (show nI 6 = 6 from rfl), ew, Option.bind_some]
      exact ite_j106
  rw [if_neg y6, if_neg y6]
  by_cases y7 : x = 7
  · subst y7
    refine fin (nI (cnt (fun p => !decide (M.1 2 19 p = -6)) 20)) ?_ ?_
    · rw [if_pos rfl, hb]
      unfold f_X0_countInRacks
      rw [hb, c_countPeople]
    · rw [if_pos rfl, hb]
      refine m_people (k := 7) (fun p hp m => ?_)
      unfold f_X7_people_l4 f_X7_people_j94_4
      have h0 : M.1 6 1 (14 + 8 * p + 2) = M.1 2 19 p := rp' p 2 hp (by omega)
      dsimp only
      rw [if_pos (lt_nI (n := 20) hp (by omega) ▸ trivial), m_personAt0, Option.bind_some, if_neg (show ¬ nI 7 = 5 by decide), if_neg (show ¬ nI 7 = 6 by decide), if_pos (show nI 7 = 7 from rfl), aI_2, if_pos (in_nI (by omega) (by omega)), cl_nI (by omega), h0]
      exact ite_j106
  rw [if_neg y7, if_neg y7]
  by_cases y8 : x = 8
  · subst y8
    refine fin (nI (cnt (fun p => !decide (M.1 2 22 p = -6)) 20)) ?_ ?_
    · rw [if_pos rfl, hb]
      unfold f_X0_countAllTagged
      rw [hb, c_countPeople]
    · rw [if_pos rfl, hb]
      refine m_people (k := 8) (fun p hp m => ?_)
      unfold f_X7_people_l4 f_X7_people_j94_4
      have h0 : M.1 6 1 (14 + 8 * p + 5) = M.1 2 22 p := rp' p 5 hp (by omega)
      dsimp only
      rw [if_pos (lt_nI (n := 20) hp (by omega) ▸ trivial), m_personAt0, Option.bind_some, if_neg (show ¬ nI 8 = 5 by decide), if_neg (show ¬ nI 8 = 6 by decide), if_neg (show ¬ nI 8 = 7 by decide), if_pos (show nI 8 = 8 from rfl), aI_5, if_pos (in_nI (by omega) (by omega)), cl_nI (by omega), h0]
      exact ite_j106
  rw [if_neg y8, if_neg y8]
  by_cases y9 : x = 9
  · subst y9
    refine fin (nI (cnt (fun p => !decide (M.1 2 23 p = -6)) 20)) ?_ ?_
    · rw [if_pos rfl, hb]
      unfold f_X0_countInPound
      rw [hb, c_countPeople]
    · rw [if_pos rfl, hb]
      refine m_people (k := 9) (fun p hp m => ?_)
      unfold f_X7_people_l4 f_X7_people_j94_4
      have h0 : M.1 6 1 (14 + 8 * p + 6) = M.1 2 23 p := rp' p 6 hp (by omega)
      dsimp only
      rw [if_pos (lt_nI (n := 20) hp (by omega) ▸ trivial), m_personAt0, Option.bind_some, if_neg (show ¬ nI 9 = 5 by decide), if_neg (show ¬ nI 9 = 6 by decide), if_neg (show ¬ nI 9 = 7 by decide), if_neg (show ¬ nI 9 = 8 by decide), aI_6, if_pos (in_nI (by omega) (by omega)), cl_nI (by omega), h0]
      exact ite_j106
  rw [if_neg y9, if_neg y9]
  by_cases y10 : x = 10
  · subst y10
    refine fin (sumI (M.1 2 24) 20) ?_ ?_
    · rw [if_pos rfl, hb, c_countSold]
    · rw [if_pos rfl, r5]
  rw [if_neg y10, if_neg y10]
  by_cases y11 : x = 11
  · subst y11
    refine fin (M.1 2 18 6) ?_ ?_
    · rw [if_pos rfl]
    · rw [if_pos rfl, r6]
  rw [if_neg y11, if_neg y11]
  by_cases y12 : x = 12
  · subst y12
    refine fin (M.1 2 3 5) ?_ ?_
    · rw [if_pos rfl]
    · rw [if_pos rfl, r7]
  rw [if_neg y12, if_neg y12, if_neg y13, if_neg y14]
  exact fin (-2) rfl rfl
