/-! questions: person, waiting -/
def pureOK (T : Nat) (A B : xM → Option Int32) : Prop := ∀ M, Rel T M → ∃ ans, A M = some ans ∧ B M = some ans
theorem pure_of {T : Nat} {A B : xM → Option Int32} (h : ∀ (M : xM) (W : Nat → List Nat) (U : Nat → Nat) (sq d kp nt : Nat), mR (M.1 2) W U (M.1 6 1) 0 → gA 9999 T (M.1 2) W U sq d kp nt → ∃ ans, A M = some ans ∧ B M = some ans) : pureOK T A B := by
  rintro M ⟨n, R, -, -, -, -, -, ⟨W, U, sq, d, kp, nt, hR, hA⟩, -⟩
  exact h M W U sq d kp nt hR hA
theorem nI_0' : (0 : Int32) = nI 0 := rfl
theorem q_person {T : Nat} (x y : Int32) : pureOK T (f_X6_person x y) (f_X7_person x y) := by
  refine pure_of (fun M W U sq d kp nt hR hA => ?_)
  by_cases hx : rg 20 x = true
  · obtain ⟨p, hp, rfl⟩ := (rg_iff (by omega)).mp hx
    have r0 : M.1 6 1 (14 + 8 * p) = M.1 2 4 p := row00 hR.2.2.2 hp
    have r1 : M.1 6 1 (14 + 8 * p + 1) = M.1 2 5 p := row0 (f := 1) hR.2.2.2 hp (by omega)
    have r2 : M.1 6 1 (14 + 8 * p + 2) = M.1 2 19 p := row0 (f := 2) hR.2.2.2 hp (by omega)
    have r3 : M.1 6 1 (14 + 8 * p + 3) = M.1 2 20 p := row0 (f := 3) hR.2.2.2 hp (by omega)
    have r4 : M.1 6 1 (14 + 8 * p + 4) = M.1 2 21 p := row0 (f := 4) hR.2.2.2 hp (by omega)
    have r5 : M.1 6 1 (14 + 8 * p + 5) = M.1 2 22 p := row0 (f := 5) hR.2.2.2 hp (by omega)
    have r6 : M.1 6 1 (14 + 8 * p + 6) = M.1 2 23 p := row0 (f := 6) hR.2.2.2 hp (by omega)
    have r7 : M.1 6 1 (14 + 8 * p + 7) = M.1 2 24 p := row0 (f := 7) hR.2.2.2 hp (by omega)
    have rd : M.1 6 1 4 = M.1 2 0 4 := hR.1.2.1
    have ew : f_X7_waitsFor 0 (nI p) M = some (zWait (M.1 2) p 3) := m_waits (b := 0) (by omega) hp hR hA.1
    have hc : f_X6_person (nI p) y M = f_X5_aboutPerson 2 (nI p) y M := by
      unfold f_X6_person
      simp only [c_isPerson, hx, Option.bind_some, ite_bI, if_true]
      cases f_X5_aboutPerson 2 (nI p) y M <;> rfl
    rw [hc]
    unfold f_X5_aboutPerson f_X7_person f_X7_daysSince
    simp only [m_isPerson, hx, Option.bind_some, ite_bI, if_true, m_personAt0]
    have fin : ∀ {a b : Option Int32} (v : Int32), a = some v → b = some v → ∃ ans, a = some ans ∧ b = some ans := fun v h1 h2 => ⟨v, h1, h2⟩
    by_cases y0 : y = 0
    · subst y0
      refine fin (M.1 2 4 p) ?_ ?_
      · rw [if_pos rfl]
        simp (disch := omega) only [if_true, in_nI, cl_nI]
      · rw [if_pos rfl]
        simp (disch := omega) only [if_true, Int32.add_zero, in_nI, cl_nI, r0]
    rw [if_neg y0, if_neg y0]
    by_cases y1 : y = 1
    · subst y1
      refine fin (M.1 2 5 p) ?_ ?_
      · rw [if_pos rfl]
        simp (disch := omega) only [if_true, in_nI, cl_nI]
      · rw [if_pos rfl]
        simp (disch := omega) only [if_true, aI_1, in_nI, cl_nI, r1]
    rw [if_neg y1, if_neg y1]
    by_cases y2 : y = 2
    · subst y2
      refine fin (zWait (M.1 2) p 3) ?_ ?_
      · rw [if_pos rfl]
        simp (disch := omega) only [if_true, c_shedsWaitedFor hp, Option.bind_some]
      · rw [if_pos rfl]
        simp (disch := omega) only [if_true, ew, Option.bind_some]
    rw [if_neg y2, if_neg y2]
    by_cases y3 : y = 3
    · subst y3
      refine fin (M.1 2 19 p) ?_ ?_
      · rw [if_pos rfl]
        simp (disch := omega) only [if_true, in_nI, cl_nI]
      · have e : nI (14 + 8 * p) + 2 + 3 - (3 : Int32) = nI (14 + 8 * p + 2) := by
          rw [aI_2, Int32.add_sub_cancel]
        rw [if_pos rfl]
        simp (disch := omega) only [if_true, e, in_nI, cl_nI, r2]
    rw [if_neg y3, if_neg y3]
    by_cases y4 : y = 4
    · subst y4
      refine fin (M.1 2 20 p) ?_ ?_
      · rw [if_pos rfl]
        simp (disch := omega) only [if_true, in_nI, cl_nI]
      · have e : nI (14 + 8 * p) + 2 + 4 - (3 : Int32) = nI (14 + 8 * p + 3) := by
          rw [aI_2, aI_4]
          exact sub_nI (a := 14 + 8 * p + 2 + 4) (b := 3) (by omega)
        rw [if_pos rfl]
        simp (disch := omega) only [if_true, e, in_nI, cl_nI, r3]
    rw [if_neg y4, if_neg y4]
    by_cases y5 : y = 5
    · subst y5
      refine fin (if M.1 2 21 p = -6 then -6 else M.1 2 0 4 - M.1 2 21 p) ?_ ?_
      · rw [if_pos rfl]
        simp (disch := omega) only [if_true, in_nI, cl_nI, c_isInRack hp, Option.bind_some, ite_bI]
        rcases hA.2.2.2.2.2.1.1 p hp with z | ⟨sh, k, pk, b1, b2, b3, b4, b5, b6, b7⟩
        · rw [z.1, z.2.2.1]
          rfl
        · have n6 : ¬ nI sh = -6 := nI_ne6 (by omega)
          have m6 : ¬ nI pk = -6 := nI_ne6 (by have := hA.2.2.2.1.2.1; omega)
          rw [b4, b6, decide_eq_false n6, if_neg m6]
          rfl
      · rw [if_pos rfl]
        simp (disch := omega) only [if_true, aI_4, in_nI, cl_nI, r4, rd]
        by_cases z : M.1 2 21 p = -6
        · rw [if_pos z, if_pos z]
          rfl
        · rw [if_neg z, if_neg z]
          rfl
    rw [if_neg y5, if_neg y5]
    by_cases y6 : y = 6
    · subst y6
      refine fin (M.1 2 22 p) ?_ ?_
      · rw [if_pos rfl]
        simp (disch := omega) only [if_true, in_nI, cl_nI]
      · rw [if_pos rfl]
        simp (disch := omega) only [if_true, aI_5, in_nI, cl_nI, r5]
    rw [if_neg y6, if_neg y6]
    by_cases y7 : y = 7
    · subst y7
      refine fin (if M.1 2 23 p = -6 then -6 else M.1 2 0 4 - M.1 2 23 p) ?_ ?_
      · rw [if_pos rfl]
        simp (disch := omega) only [if_true, in_nI, cl_nI, c_isInPound hp, Option.bind_some, ite_bI]
        by_cases z : M.1 2 23 p = -6
        · rw [if_pos z, decide_eq_true z]
          rfl
        · rw [if_neg z, decide_eq_false z]
          rfl
      · rw [if_pos rfl]
        simp (disch := omega) only [if_true, aI_6, in_nI, cl_nI, r6, rd]
        by_cases z : M.1 2 23 p = -6
        · rw [if_pos z, if_pos z]
          rfl
        · rw [if_neg z, if_neg z]
          rfl
    rw [if_neg y7, if_neg y7]
    by_cases y8 : y = 8
    · subst y8
      refine fin (M.1 2 24 p) ?_ ?_
      · rw [if_pos rfl]
        simp (disch := omega) only [if_true, in_nI, cl_nI]
      · rw [if_pos rfl]
        simp (disch := omega) only [if_true, aI_7, in_nI, cl_nI, r7]
    rw [if_neg y8, if_neg y8]
    exact fin (-2) rfl rfl
  · refine ⟨-1, ?_, ?_⟩
    · unfold f_X6_person
      simp only [c_isPerson, hx, Option.bind_some, ite_bI, Bool.false_eq_true, if_false]
    · unfold f_X7_person
      simp only [m_isPerson, hx, Option.bind_some, ite_bI, Bool.false_eq_true, if_false]
theorem in_len {x : Int32} {n : Nat} (hn : n ≤ 20) : (!decide (x < 0) && !decide (nI n - 1 < x)) = rg n x := by
  cases n with
  | zero =>
    have e : nI 0 - 1 = (-1 : Int32) := rfl
    have r0 : rg 0 x = false := Bool.eq_false_iff.mpr (fun z => by
      obtain ⟨k, hk, -⟩ := (rg_iff (by omega)).mp z
      omega)
    rw [e, r0]
    by_cases h : x < 0
    · rw [decide_eq_true h]
      rfl
    · have h2 : (-1 : Int32) < x := by
        obtain ⟨j, hj, rfl⟩ := nI_of h
        rw [Int32.lt_iff_toInt_lt, nI_toInt (by omega)]
        show (-1 : Int) < _
        omega
      rw [decide_eq_true h2]
      cases decide (x < 0) <;> rfl
  | succ n =>
    have e : nI (n + 1) - 1 = nI n := sub_nI (a := n + 1) (b := 1) (by omega)
    rw [e, rg_le (by omega)]
theorem q_waiting {T : Nat} (x y z : Int32) : pureOK T (f_X6_waiting x y z) (f_X7_waiting x y z) := by
  refine pure_of (fun M W U sq d kp nt hR hA => ?_)
  by_cases hx : rg 3 x = true
  · obtain ⟨sh, hs, rfl⟩ := (rg_iff (by omega)).mp hx
    have hrow := hA.1 sh hs
    have hlen := hrow.len
    have ew : M.1 6 1 (11 + sh) = nI (W sh).length := by
      have := (hR.2.2.1 sh hs).1
      rw [Nat.zero_add] at this
      exact this
    have hc : f_X6_waiting (nI sh) y z M = f_X4_aboutPlace 2 (nI sh) y z M := by
      unfold f_X6_waiting
      simp only [c_isShed, hx, Option.bind_some, ite_bI, if_true]
      cases f_X4_aboutPlace 2 (nI sh) y z M <;> rfl
    rw [hc]
    by_cases hy : rg (W sh).length y = true
    · obtain ⟨k, hk, rfl⟩ := (rg_iff (by omega)).mp hy
      have hg : (W sh)[k]? = some (W sh)[k] := List.getElem?_eq_getElem hk
      generalize (W sh)[k] = p at hg
      have hp := (hrow.lt hg).2
      have hw : f_X4_whoIsAt 2 (nI sh) (nI k) M = some (nI p) := c_who_some hp hs (nI_ne6 (by omega)) (hrow.at hg) (fun q hq e => by
        rcases hrow.2.2 q (by omega) with ⟨-, e2⟩ | ⟨k', e2, e3⟩
        · exact nI_ne6 (by omega) (e.symm.trans e2)
        · have hk' := (hrow.lt e2).1
          have : k' = k := (nI_eq (by omega) (by omega)).mp (e3.symm.trans e)
          subst this
          have : some q = some p := e2.symm.trans hg
          have : q = p := Option.some.inj this
          omega)
      obtain ⟨s1, s2, s3⟩ := (hR.2.2.1 sh hs).2 k p hg
      rw [Nat.zero_add] at s1 s2 s3
      have ep : f_X7_placeAt 0 (nI sh) (nI k) M = some (nI (174 + 3 * (20 * sh + k))) := by
        have := m_placeAt 0 sh k M
        rw [Nat.zero_add] at this
        exact this
      have hin2 : f_X7_in z.toInt64 0 2 M = some (bI (rg 3 z)) := by
        rw [show (0 : Int64) = (0 : Int32).toInt64 from rfl, show (2 : Int64) = (nI 2).toInt64 from rfl, m_in, rg_le (n := 2) (by omega)]
      have hm : f_X7_waiting (nI sh) (nI k) z M = if rg 3 z = true then (if xp_in (nI (174 + 3 * (20 * sh + k)) + z) 3540 = true then (some ((M.1 6 1 (nI (174 + 3 * (20 * sh + k)) + z).toNatClampNeg))) else none) else some (-2) := by
        have h2 : (!decide (z < 0) && !decide (nI 2 < z)) = rg 3 z := rg_le (n := 2) (by omega)
        unfold f_X7_waiting
        rw [show (0 : Int64) = (0 : Int32).toInt64 from rfl, show (2 : Int64) = (nI 2).toInt64 from rfl]
        simp (disch := omega) only [m_isShed, hx, m_in, Option.bind_some, ite_bI, if_true, bI_11, in_nI, cl_nI, ew, in_len hlen, hy, ep, h2]
      rw [hm]
      unfold f_X4_aboutPlace
      simp (disch := omega) only [hw, Option.bind_some, c_isPerson, rg_nI hp (show 20 < 2 ^ 31 by omega), ite_bI, if_true, in_nI, cl_nI]
      rw [show 10 + 1 + sh = 11 + sh by omega, show 14 + 1 + sh = 15 + sh by omega]
      by_cases hz : rg 3 z = true
      · obtain ⟨f, hf, rfl⟩ := (rg_iff (by omega)).mp hz
        rw [if_pos hz]
        rcases (by omega : f = 0 ∨ f = 1 ∨ f = 2) with rfl | rfl | rfl
        · refine ⟨nI p, if_pos rfl, ?_⟩
          simp (disch := omega) only [nI_add, in_nI, cl_nI, if_true, Nat.add_zero, s1]
        · refine ⟨M.1 2 (11 + sh) p, ?_, ?_⟩
          · rw [if_neg (by decide), if_pos (show nI 1 = 1 from rfl)]
          · simp (disch := omega) only [nI_add, in_nI, cl_nI, if_true, s2]
        · refine ⟨M.1 2 (15 + sh) p, ?_, ?_⟩
          · rw [if_neg (by decide), if_neg (by decide), if_pos (show nI 2 = 2 from rfl)]
          · simp (disch := omega) only [nI_add, in_nI, cl_nI, if_true, s3]
      · rw [if_neg hz]
        have ne : ∀ f, f < 3 → ¬ z = nI f := fun f hf e => hz (by
          rw [e]
          exact rg_nI hf (by omega))
        have n0 : ¬ z = 0 := ne 0 (by omega)
        have n1 : ¬ z = 1 := ne 1 (by omega)
        have n2 : ¬ z = 2 := ne 2 (by omega)
        rw [if_neg n0, if_neg n1, if_neg n2]
        exact ⟨-2, rfl, rfl⟩
    · refine ⟨-1, ?_, ?_⟩
      · have hw : f_X4_whoIsAt 2 (nI sh) y M = some (-6) := c_who_none hs (fun q hq => by
          rcases hrow.2.2 q hq with ⟨-, e2⟩ | ⟨k', e2, e3⟩
          · exact Or.inl e2
          · right
            intro e
            have hlt : k' < (W sh).length := (List.getElem?_eq_some_iff.mp e2).1
            exact hy (by
              rw [← e, e3]
              exact rg_nI hlt (by omega)))
        unfold f_X4_aboutPlace
        simp only [hw, Option.bind_some, c_isPerson, rg_6, ite_bI, Bool.false_eq_true, if_false]
      · unfold f_X7_waiting
        rw [show (0 : Int64) = (0 : Int32).toInt64 from rfl]
        simp (disch := omega) only [m_isShed, hx, m_in, Option.bind_some, ite_bI, if_true, bI_11, in_nI, cl_nI, ew, in_len hlen, hy, Bool.false_eq_true, if_false]
  · refine ⟨-1, ?_, ?_⟩
    · unfold f_X6_waiting
      simp only [c_isShed, hx, Option.bind_some, ite_bI, Bool.false_eq_true, if_false]
    · unfold f_X7_waiting
      simp only [m_isShed, hx, Option.bind_some, ite_bI, Bool.false_eq_true, if_false]
