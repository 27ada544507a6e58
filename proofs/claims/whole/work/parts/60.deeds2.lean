/-! riding, answering, fetching -/
theorem sub_nI {a b : Nat} (h : b ≤ a) : nI a - nI b = nI (a - b) := by
  obtain ⟨c, rfl⟩ := Nat.le.dest h
  rw [Nat.add_sub_cancel_left, ← nI_add, Int32.add_comm, Int32.add_sub_cancel]
theorem gA.bikes {D T : Nat} {σ τ : Nat → Nat → Int32} {W : Nat → List Nat} {U : Nat → Nat} {sq d kp nt : Nat} (h : gA D T σ W U sq d kp nt) (e : ∀ o j, o < 18 → τ o j = σ o j) (hB : cB τ d) (hP : ∀ p, p < 20 → τ 23 p = -6 ∨ ∃ k, k ≤ d ∧ τ 23 p = nI k) : gA D T τ W U sq d kp nt := by
  obtain ⟨hW, hN, hU, ⟨v1, v2, v3, v4, v5, v6⟩, hd, -, ⟨l1, l2⟩, hS⟩ := h
  refine ⟨hW.congr (fun o j h1 h2 => e o j (by omega)), fun k hk q hq => ?_, hU.congr (fun j => e 1 j (by omega)) (fun j => e 2 j (by omega)), ⟨?_, v2, ?_, v4, fun q hq => ?_, hP⟩, hd, hB, ⟨fun q hq hr => ?_, fun s hs q hq => ?_⟩, hS.congr (fun j => e 1 j (by omega))⟩
  · rw [e 4 q (by omega)]
    exact hN k hk q hq
  · rw [e 0 4 (by omega)]
    exact v1
  · rw [e 1 3 (by omega)]
    exact v3
  · rw [e 4 q (by omega)]
    exact v5 q hq
  · rw [e 4 q (by omega)] at hr
    rw [e 5 q (by omega)]
    exact l1 q hq hr
  · rw [e _ q (by omega)]
    exact l2 s hs q hq
def zLR (p : Nat) (σ : Nat → Nat → Int32) : Nat → Nat → Int32 := ud (ud (ud (ud σ 19 p (-6)) 20 p (-6)) 21 p (-6)) 22 p (-6)
theorem zLR_p {p : Nat} {σ : Nat → Nat → Int32} : zLR p σ 19 p = -6 ∧ zLR p σ 20 p = -6 ∧ zLR p σ 21 p = -6 ∧ zLR p σ 22 p = -6 := by
  unfold zLR
  refine ⟨?_, ?_, ?_, ?_⟩
  · rw [ud_ne _ _ (by omega), ud_ne _ _ (by omega), ud_ne _ _ (by omega), ud_eq]
  · rw [ud_ne _ _ (by omega), ud_ne _ _ (by omega), ud_eq]
  · rw [ud_ne _ _ (by omega), ud_eq]
  · rw [ud_eq]
theorem zLR_col {p : Nat} {σ : Nat → Nat → Int32} {o j : Nat} (h : j ≠ p) : zLR p σ o j = σ o j := by
  unfold zLR
  rw [ud_col _ _ _ _ h, ud_col _ _ _ _ h, ud_col _ _ _ _ h, ud_col _ _ _ _ h]
theorem zLR_other {p : Nat} {σ : Nat → Nat → Int32} {o j : Nat} (h : ¬ (19 ≤ o ∧ o < 23)) : zLR p σ o j = σ o j := by
  unfold zLR
  rw [ud_ne _ _ (fun z => by omega), ud_ne _ _ (fun z => by omega), ud_ne _ _ (fun z => by omega), ud_ne _ _ (fun z => by omega)]
theorem cB.leave {σ : Nat → Nat → Int32} {d p : Nat} (h : cB σ d) : cB (zLR p σ) d := by
  refine ⟨fun q hq => ?_, fun q q' hq hq' hn h19 => ?_⟩
  · by_cases e : q = p
    · subst e
      exact Or.inl zLR_p
    · rw [zLR_col e, zLR_col e, zLR_col e, zLR_col e]
      exact h.1 q hq
  · by_cases e : q = p
    · subst e
      exact absurd zLR_p.1 h19
    · by_cases e' : q' = p
      · subst e'
        intro h1
        exact absurd (h1.trans zLR_p.1) h19
      · rw [zLR_col e] at h19
        rw [zLR_col e, zLR_col e', zLR_col e, zLR_col e']
        exact h.2 q q' hq hq' hn h19
theorem gA.leaveRack {D T : Nat} {σ : Nat → Nat → Int32} {W : Nat → List Nat} {U : Nat → Nat} {sq d kp nt p : Nat} (h : gA D T σ W U sq d kp nt) : gA D T (zLR p σ) W U sq d kp nt := by
  refine h.bikes (fun o j ho => zLR_other (by omega)) (h.2.2.2.2.2.1.leave) (fun q hq => ?_)
  rw [zLR_other (by omega)]
  exact h.2.2.2.1.2.2.2.2.2 q hq
theorem m_personAt0 (p : Nat) (M : xM) : f_X7_personAt 0 (nI p) M = some (nI (14 + 8 * p)) := by
  have := m_personAt 0 p M
  rw [Nat.zero_add] at this
  exact this
theorem m_leavesRack {b p : Nat} {M : xM} (hb : b ≤ 3186) (hp : p < 20) : f_X7_leavesRack (nI b) (nI p) M = some (sp M (us (us (us (us (M.1 6 1) (b + 14 + 8 * p + 2) (-6)) (b + 14 + 8 * p + 3) (-6)) (b + 14 + 8 * p + 4) (-6)) (b + 14 + 8 * p + 5) (-6))) := by
  unfold f_X7_leavesRack
  simp (disch := omega) only [m_personAt, Option.bind_some, aI_2, aI_3, aI_4, aI_5, in_nI, cl_nI, if_true, up_sp, sp_get, sp_sp]
theorem cW.ud {σ : Nat → Nat → Int32} {W : Nat → List Nat} (h : cW σ W) {o j : Nat} (v : Int32) (ho : ¬ (7 ≤ o ∧ o < 10)) : cW (ud σ o j v) W := h.congr (fun o' j' h1 h2 => ud_ne _ _ (fun z => by omega))
theorem mR.leaveRack {σ : Nat → Nat → Int32} {W : Nat → List Nat} {U : Nat → Nat} {s : Nat → Int32} {b p : Nat} (h : mR σ W U s b) (hc : cW σ W) (hp : p < 20) : mR (zLR p σ) W U (us (us (us (us s (b + 14 + 8 * p + 2) (-6)) (b + 14 + 8 * p + 3) (-6)) (b + 14 + 8 * p + 4) (-6)) (b + 14 + 8 * p + 5) (-6)) b := by
  have h2 := h.person (f := 2) (v := -6) hc hp (by omega)
  have c2 : cW (ud σ (mF 2) p (-6)) W := hc.ud _ (show ¬ (7 ≤ 19 ∧ 19 < 10) by omega)
  have h3 := h2.person (f := 3) (v := -6) c2 hp (by omega)
  have c3 := c2.ud (o := mF 3) (j := p) (-6) (show ¬ (7 ≤ 20 ∧ 20 < 10) by omega)
  have h4 := h3.person (f := 4) (v := -6) c3 hp (by omega)
  have c4 := c3.ud (o := mF 4) (j := p) (-6) (show ¬ (7 ≤ 21 ∧ 21 < 10) by omega)
  exact h4.person (f := 5) (v := -6) c4 hp (by omega)
theorem m_isInRack0 {p : Nat} {M : xM} (hp : p < 20) : f_X7_isInRack 0 (nI p) M = some (bI (!decide (M.1 6 1 (14 + 8 * p + 2) = -6))) := by
  unfold f_X7_isInRack
  simp (disch := omega) only [m_personAt0, Option.bind_some, aI_2, in_nI, cl_nI, if_true, nar_0, nar_1, bI_ite']
theorem op_rackNo {D T : Nat} {x : Int32} {C : xM → Option (Int32 × xM)} {M M' : xM} (h : gS D T (M.1 2) (M'.1 6 1) 0) (h1 : rg 20 x = false → C M = some (-1, M)) (h2 : ∀ p, p < 20 → x = nI p → M.1 2 19 p = -6 → C M = some (-5, M)) : (∃ e, e < 0 ∧ C M = some (e, M) ∧ f_X7_rackError x M' = some e) ∨ (f_X7_rackError x M' = some 0 ∧ ∃ p, p < 20 ∧ x = nI p ∧ M.1 2 19 p ≠ -6) := by
  obtain ⟨W, U, sq, d, kp, nt, hR, hA⟩ := h
  by_cases hx : rg 20 x = true
  · obtain ⟨p, hp, rfl⟩ := (rg_iff (by omega)).mp hx
    have e2 : M'.1 6 1 (14 + 8 * p + 2) = M.1 2 19 p := row0 (f := 2) hR.2.2.2 hp (by omega)
    by_cases h6 : M.1 2 19 p = -6
    · left
      refine ⟨-5, i_neg5, h2 p hp rfl h6, ?_⟩
      unfold f_X7_rackError
      simp only [m_isPerson, m_isInRack0 hp, e2, h6, hx, decide_true, Bool.not_true, Option.bind_some, ite_bI, if_true, Bool.false_eq_true, if_false]
    · right
      refine ⟨?_, p, hp, rfl, h6⟩
      unfold f_X7_rackError
      simp only [m_isPerson, m_isInRack0 hp, e2, decide_eq_false h6, hx, Bool.not_false, Option.bind_some, ite_bI, if_true]
  · left
    have hx : rg 20 x = false := Bool.eq_false_iff.mpr hx
    refine ⟨-1, i_neg1, h1 hx, ?_⟩
    unfold f_X7_rackError
    simp only [m_isPerson, hx, Option.bind_some, ite_bI, Bool.false_eq_true, if_false]
theorem op_ride {D T : Nat} (x : Int32) : opOK D T (f_X5_rideAway 2 x) (f_X7_rackError x) (f_X7_rides x) := by
  intro M M' h
  rcases op_rackNo (x := x) (C := f_X5_rideAway 2 x) h (fun hx => by
    unfold f_X5_rideAway
    simp only [c_isPerson, hx, Option.bind_some, ite_bI, Bool.false_eq_true, if_false]) (fun p hp e h6 => by
    subst e
    unfold f_X5_rideAway
    simp only [c_isPerson, c_isInRack hp, rg_nI hp (show 20 < 2 ^ 31 by omega), h6, decide_true, Bool.not_true, Option.bind_some, ite_bI, if_true, Bool.false_eq_true, if_false]) with z | ⟨z, p, hp, rfl, h6⟩
  · exact Or.inl z
  · right
    obtain ⟨W, U, sq, d, kp, nt, hR, hA⟩ := h
    rcases hA.2.2.2.2.2.1.1 p hp with b | ⟨sh, k, pk, b1, b2, b3, b4, b5, b6, b7⟩
    · exact absurd b.1 h6
    · have hd := hA.2.2.2.2.1
      have v1 := hA.2.2.2.1.1
      have v2 := hA.2.2.2.1.2.1
      refine ⟨z, nI (d - pk), zLR p (M.1 2), nI_pos (by omega), ?_, fun M'' hg => ?_⟩
      · unfold f_X5_rideAway
        simp (disch := omega) only [c_isPerson, c_isInRack hp, rg_nI hp (show 20 < 2 ^ 31 by omega), decide_eq_false h6, Bool.not_false, Option.bind_some, ite_bI, if_true, in_nI, cl_nI, c_leaveRack hp, b6, v1, sub_nI b3]
        rfl
      · have hR' := hR.agree hA.1 hg
        have e4 : M''.1 6 1 4 = nI d := hR'.1.2.1.trans v1
        have ep : M''.1 6 1 (14 + 8 * p + 4) = nI pk := (row0 (f := 4) hR'.2.2.2 hp (by omega)).trans b6
        have hl := m_leavesRack (b := 0) (M := M'') (by omega) hp
        have hl : f_X7_leavesRack 0 (nI p) M'' = _ := hl
        refine ⟨_, ?_, ⟨_, _, _, _, _, _, hR'.leaveRack hA.1 hp, hA.leaveRack⟩, ?_⟩
        · unfold f_X7_rides
          simp (disch := omega) only [m_personAt0, Option.bind_some, aI_4, in_nI, cl_nI, if_true, e4, ep, hl, sub_nI b3]
        · exact ((((mFr.refl _ _).us (by omega)).us (by omega)).us (by omega)).us (by omega)
theorem op_answer {D T : Nat} (x : Int32) : opOK D T (f_X5_answerFor 2 x) (f_X7_rackError x) (f_X7_answers x) := by
  intro M M' h
  rcases op_rackNo (x := x) (C := f_X5_answerFor 2 x) h (fun hx => by
    unfold f_X5_answerFor
    simp only [c_isPerson, hx, Option.bind_some, ite_bI, Bool.false_eq_true, if_false]) (fun p hp e h6 => by
    subst e
    unfold f_X5_answerFor
    simp only [c_isPerson, c_isInRack hp, rg_nI hp (show 20 < 2 ^ 31 by omega), h6, decide_true, Bool.not_true, Option.bind_some, ite_bI, if_true, Bool.false_eq_true, if_false]) with z | ⟨z, p, hp, rfl, h6⟩
  · exact Or.inl z
  · right
    obtain ⟨W, U, sq, d, kp, nt, hR, hA⟩ := h
    rcases hA.2.2.2.2.2.1.1 p hp with b | ⟨sh, k, pk, b1, b2, b3, b4, b5, b6, b7⟩
    · exact absurd b.1 h6
    · have hd := hA.2.2.2.2.1
      have v1 := hA.2.2.2.1.1
      have v2 := hA.2.2.2.1.2.1
      refine ⟨z, bI (!decide (M.1 2 22 p = -6)), ud (ud (M.1 2) 21 p (M.1 2 0 4)) 22 p (-6), bI_ge _, ?_, fun M'' hg => ?_⟩
      · unfold f_X5_answerFor f_X5_answerFor_j39
        simp (disch := omega) only [c_isPerson, c_isInRack hp, c_isTagged hp, rg_nI hp (show 20 < 2 ^ 31 by omega), decide_eq_false h6, Bool.not_false, Option.bind_some, ite_bI, if_true, in_nI, cl_nI, up_put, put_get, put_put]
        by_cases h22 : M.1 2 22 p = -6
        · simp only [h22, decide_true, Bool.not_true, Bool.false_eq_true, if_false]
          rfl
        · simp only [decide_eq_false h22, Bool.not_false, if_true]
          rfl
      · have hR' := hR.agree hA.1 hg
        have e4 : M''.1 6 1 4 = M.1 2 0 4 := hR'.1.2.1
        have ep : M''.1 6 1 (14 + 8 * p + 5) = M.1 2 22 p := row0 (f := 5) hR'.2.2.2 hp (by omega)
        have g5 := hR'.person (f := 5) (v := -6) hA.1 hp (by omega)
        have c5 := hA.1.ud (o := mF 5) (j := p) (-6) (show ¬ (7 ≤ 22 ∧ 22 < 10) by omega)
        have g4 := g5.person (f := 4) (v := M.1 2 0 4) c5 hp (by omega)
        have ec : ud (ud (M.1 2) (mF 5) p (-6)) (mF 4) p (M.1 2 0 4) = ud (ud (M.1 2) 21 p (M.1 2 0 4)) 22 p (-6) := by
          show ud (ud (M.1 2) 22 p (-6)) 21 p (M.1 2 0 4) = _
          funext o j
          unfold ud
          by_cases z1 : o = 21 ∧ j = p
          · rw [if_pos z1, if_neg (fun z => by omega), if_pos z1]
          · rw [if_neg z1, if_neg z1]
        rw [ec] at g4
        rw [Nat.zero_add] at g4
        refine ⟨_, ?_, ⟨W, U, sq, d, kp, nt, g4, ?_⟩, ?_⟩
        · unfold f_X7_answers f_X7_answers_j24
          simp (disch := omega) only [m_personAt0, Option.bind_some, aI_4, aI_5, in_nI, cl_nI, if_true, ep, m_flag1, m_flag0, up_sp, sp_get, sp_sp]
          rw [us_ne _ _ (show 4 ≠ 14 + 8 * p + 5 by omega), e4]
          by_cases h22 : M.1 2 22 p = -6
          · simp only [h22, decide_true, Bool.not_true, if_true]
            rfl
          · simp only [decide_eq_false h22, Bool.not_false, h22, if_false]
            rfl
        · have hcol : ∀ o j, ¬ (o = 21 ∧ j = p) → ¬ (o = 22 ∧ j = p) → ud (ud (M.1 2) 21 p (M.1 2 0 4)) 22 p (-6) o j = M.1 2 o j := fun o j a1 a2 => (ud_ne _ _ a2).trans (ud_ne _ _ a1)
          refine hA.bikes (fun o j ho => hcol o j (by omega) (by omega)) ⟨fun q hq => ?_, fun q q' hq hq' hn => ?_⟩ (fun q hq => ?_)
          · by_cases e : q = p
            · subst e
              right
              refine ⟨sh, k, d, b1, b2, Nat.le_refl d, (hcol _ _ (by omega) (by omega)).trans b4, (hcol _ _ (by omega) (by omega)).trans b5, ?_, Or.inl (ud_eq _ _ _ _)⟩
              rw [ud_ne _ _ (by omega), ud_eq, v1]
            · rw [hcol 19 q (by omega) (by omega), hcol 20 q (by omega) (by omega), hcol 21 q (by omega) (by omega), hcol 22 q (by omega) (by omega)]
              exact hA.2.2.2.2.2.1.1 q hq
          · rw [hcol 19 q (by omega) (by omega), hcol 19 q' (by omega) (by omega), hcol 20 q (by omega) (by omega), hcol 20 q' (by omega) (by omega)]
            exact hA.2.2.2.2.2.1.2 q q' hq hq' hn
          · rw [hcol 23 q (by omega) (by omega)]
            exact hA.2.2.2.1.2.2.2.2.2 q hq
        · exact ((mFr.refl _ _).us (by omega)).us (by omega)
theorem op_fetch {D T : Nat} (x : Int32) : opOK D T (f_X5_fetchFromPound 2 x) (f_X7_fetchError x) (f_X7_fetches x) := by
  rintro M M' ⟨W, U, sq, d, kp, nt, hR, hA⟩
  by_cases hx : rg 20 x = true
  · obtain ⟨p, hp, rfl⟩ := (rg_iff (by omega)).mp hx
    have e6 : M'.1 6 1 (14 + 8 * p + 6) = M.1 2 23 p := row0 (f := 6) hR.2.2.2 hp (by omega)
    rcases hA.2.2.2.1.2.2.2.2.2 p hp with h6 | ⟨k, k1, k2⟩
    · left
      refine ⟨-5, i_neg5, ?_, ?_⟩
      · unfold f_X5_fetchFromPound
        simp only [c_isPerson, c_isInPound hp, hx, h6, decide_true, Bool.not_true, Option.bind_some, ite_bI, if_true, Bool.false_eq_true, if_false]
      · unfold f_X7_fetchError
        simp (disch := omega) only [m_isPerson, m_personAt0, e6, h6, hx, Option.bind_some, ite_bI, if_true, aI_6, in_nI, cl_nI]
    · right
      have v1 := hA.2.2.2.1.1
      have v2 := hA.2.2.2.1.2.1
      have h6 : ¬ nI k = -6 := nI_ne6 (by omega)
      refine ⟨?_, nI (d - k), ud (M.1 2) 23 p (-6), nI_pos (by omega), ?_, fun M'' hg => ?_⟩
      · unfold f_X7_fetchError
        simp (disch := omega) only [m_isPerson, m_personAt0, e6, k2, h6, hx, Option.bind_some, ite_bI, if_true, aI_6, in_nI, cl_nI, if_false]
      · unfold f_X5_fetchFromPound
        simp (disch := omega) only [c_isPerson, c_isInPound hp, hx, k2, decide_eq_false h6, Bool.not_false, Option.bind_some, ite_bI, if_true, in_nI, cl_nI, v1, sub_nI k1, up_put]
      · have hR' := hR.agree hA.1 hg
        have e4 : M''.1 6 1 4 = nI d := hR'.1.2.1.trans v1
        have ep : M''.1 6 1 (14 + 8 * p + 6) = nI k := (row0 (f := 6) hR'.2.2.2 hp (by omega)).trans k2
        have g6 := hR'.person (f := 6) (v := -6) hA.1 hp (by omega)
        rw [Nat.zero_add] at g6
        refine ⟨_, ?_, ⟨W, U, sq, d, kp, nt, g6, ?_⟩, ?_⟩
        · unfold f_X7_fetches
          simp (disch := omega) only [m_personAt0, Option.bind_some, aI_6, in_nI, cl_nI, if_true, e4, ep, sub_nI k1, up_sp]
        · refine hA.bikes (fun o j ho => ud_ne _ _ (fun z => by have : o = 23 := z.1; omega)) (hA.2.2.2.2.2.1.congr (fun o j h1 h2 => ud_ne _ _ (fun z => by have : o = 23 := z.1; omega))) (fun q hq => ?_)
          by_cases e : q = p
          · subst e
            exact Or.inl (ud_eq _ _ _ _)
          · have : ud (M.1 2) 23 p (-6) 23 q = M.1 2 23 q := ud_col _ _ _ _ e
            rw [this]
            exact hA.2.2.2.1.2.2.2.2.2 q hq
        · exact (mFr.refl _ _).us (by omega)
  · left
    refine ⟨-1, i_neg1, ?_, ?_⟩
    · unfold f_X5_fetchFromPound
      simp only [c_isPerson, hx, Option.bind_some, ite_bI, Bool.false_eq_true, if_false]
    · unfold f_X7_fetchError
      simp only [m_isPerson, hx, Option.bind_some, ite_bI, Bool.false_eq_true, if_false]
