/-! the fault of a text, both ways -/
theorem nP_le {ch : Nat → Nat} {L i : Nat} (h0 : ∀ i, L ≤ i → ch i = 0) (hi : i ≤ L) : (nP ch i).2.1 ≤ L ∧ i ≤ (nP ch i).2.1 := by
  unfold nP
  by_cases h : 49 ≤ ch i ∧ ch i ≤ 57
  · have h1 : i < L := by
      rcases Nat.lt_or_ge i L with z | z
      · exact z
      · have := h0 i z
        omega
    rw [if_pos h]
    by_cases h2 : 48 ≤ ch (i + 1) ∧ ch (i + 1) ≤ 57
    · have h3 : i + 1 < L := by
        rcases Nat.lt_or_ge (i + 1) L with z | z
        · exact z
        · have := h0 (i + 1) z
          omega
      rw [if_pos h2]
      dsimp only
      omega
    · rw [if_neg h2]
      dsimp only
      omega
  · rw [if_neg h]
    dsimp only
    omega
theorem nz_lt {ch : Nat → Nat} {L i : Nat} (h0 : ∀ i, L ≤ i → ch i = 0) (h : ch i ≠ 0) : i < L := by
  rcases Nat.lt_or_ge i L with z | z
  · exact z
  · exact absurd (h0 i z) h
theorem sP_nz {ch : Nat → Nat} {i : Nat} (h : sP ch i = true) : ch i ≠ 0 := by
  have := of_decide_eq_true h
  omega
theorem dP_le {ch : Nat → Nat} {L i : Nat} (h0 : ∀ i, L ≤ i → ch i = 0) (hi : i ≤ L) : (dP ch i).2.1 ≤ L ∧ ((dP ch i).1 = true → i + 2 ≤ (dP ch i).2.1) := by
  unfold dP
  by_cases h115 : ch i = 115
  · have h1 := nz_lt h0 (show ch i ≠ 0 by omega)
    rw [if_pos h115]
    dsimp only
    by_cases hs : sP ch (i + 1) = true
    · have h2 := nz_lt h0 (sP_nz hs)
      rw [if_pos hs]
      exact ⟨by omega, fun _ => by omega⟩
    · rw [if_neg hs]
      exact ⟨by omega, fun z => absurd z hs⟩
  rw [if_neg h115]
  by_cases h46 : ch i = 46
  · have h1 := nz_lt h0 (show ch i ≠ 0 by omega)
    rw [if_pos h46]
    dsimp only
    have h2 := nP_le (ch := ch) (L := L) (i := i + 1) h0 (by omega)
    refine ⟨h2.1, fun z => ?_⟩
    unfold nP at z ⊢
    by_cases h : 49 ≤ ch (i + 1) ∧ ch (i + 1) ≤ 57
    · rw [if_pos h]
      split <;> (dsimp only; omega)
    · rw [if_neg h] at z
      cases z
  rw [if_neg h46]
  by_cases hA : 65 ≤ ch i ∧ ch i ≤ 84
  · have h1 := nz_lt h0 (show ch i ≠ 0 by omega)
    rw [if_pos hA]
    by_cases h63 : ch (i + 1) = 63
    · have h2 := nz_lt h0 (show ch (i + 1) ≠ 0 by omega)
      rw [if_pos h63]
      by_cases hs : sP ch (i + 2) = true
      · have h3 := nz_lt h0 (sP_nz hs)
        rw [if_pos hs]
        by_cases h58 : ch (i + 3) = 58
        · have h4 := nz_lt h0 (show ch (i + 3) ≠ 0 by omega)
          rw [if_pos h58]
          dsimp only
          have h5 := nP_le (ch := ch) (L := L) (i := i + 4) h0 (by omega)
          exact ⟨h5.1, fun _ => by omega⟩
        · rw [if_neg h58]
          exact ⟨by dsimp only; omega, fun z => Bool.noConfusion z⟩
      · rw [if_neg hs]
        exact ⟨by dsimp only; omega, fun z => Bool.noConfusion z⟩
    · rw [if_neg h63]
      by_cases hk : ch (i + 1) = 112 ∨ ch (i + 1) = 114 ∨ ch (i + 1) = 97 ∨ ch (i + 1) = 102
      · have h2 := nz_lt h0 (show ch (i + 1) ≠ 0 by omega)
        rw [if_pos hk]
        exact ⟨by dsimp only; omega, fun _ => by dsimp only; omega⟩
      · rw [if_neg hk]
        exact ⟨by dsimp only; omega, fun z => Bool.noConfusion z⟩
  · rw [if_neg hA]
    exact ⟨hi, fun z => Bool.noConfusion z⟩
def fF (ch : Nat → Nat) (L : Nat) : Nat → Nat → Int32
  | 0, i => nI i
  | n + 1, i => if (dP ch i).1 = true then (if ch (dP ch i).2.1 = 59 then fF ch L n ((dP ch i).2.1 + 1) else if (dP ch i).2.1 = L then -6 else nI (dP ch i).2.1) else nI (dP ch i).2.1
theorem fF_s (ch : Nat → Nat) (L n i : Nat) : fF ch L (n + 1) i = if (dP ch i).1 = true then (if ch (dP ch i).2.1 = 59 then fF ch L n ((dP ch i).2.1 + 1) else if (dP ch i).2.1 = L then -6 else nI (dP ch i).2.1) else nI (dP ch i).2.1 := rfl
theorem c_semi {M : xM} {L i : Nat} {ch : Nat → Nat} {τ : Nat → Nat → Int32} {g : Nat → Int32} (hT : cT M L ch) (hi : i ≤ 100) (hg : g 1 = nI i) : f_X1_readSemicolon (cm M τ g) = if ch i = 59 then some (1, cm M τ (us (us g 2 (nI (ch i))) 1 (nI (i + 1)))) else some (0, cm M τ g) := by
  have r : f_X1_readOne 59 (cm M τ g) = _ := c_ro (a := 59) hT hi hg (by omega)
  unfold f_X1_readSemicolon
  rw [r]
  by_cases h : ch i = 59
  · rw [if_pos h, Option.bind_some, nar_1]
  · rw [if_neg h, Option.bind_some, nar_0]
theorem c_fault {M : xM} {L : Nat} {ch : Nat → Nat} {τ : Nat → Nat → Int32} {g : Nat → Int32} (hT : cT M L ch) : ∃ g', f_X1_findFault (cm M τ g) = some (fF ch L 21 0, cm M τ g') := by
  have h0 := hT.2.2.1
  have hL := hT.1
  unfold f_X1_findFault f_X1_goToStart
  rw [cm_up, Option.bind_some]
  have := xlp_rule (body := f_X1_findFault_l6) (Q := fun r => ∃ g', r = (fF ch L 21 0, cm M τ g')) (fun k s => ∃ i g, s = (nI k, cm M τ g) ∧ g 1 = nI i ∧ i ≤ L ∧ 3 * k ≤ i ∧ fF ch L (21 - k) i = fF ch L 21 0) 21 4000 (by omega) (fun k s hk hP => ?_) (fun s hP => ?_) (0, cm M τ (us g 1 0)) ⟨0, _, rfl, us_eq _ _ _, by omega, by omega, rfl⟩
  · obtain ⟨q, q1, g', rfl⟩ := this
    exact ⟨g', q1⟩
  · obtain ⟨i, g, rfl, e1, e2, e3, e4⟩ := hP
    obtain ⟨m, hm⟩ : ∃ m, 21 - k = m + 1 := ⟨20 - k, by omega⟩
    have hm2 : 21 - (k + 1) = m := by omega
    rw [hm, fF_s] at e4
    obtain ⟨g1, d1, d2, d3⟩ := c_deed (τ := τ) hT (by omega) e1
    obtain ⟨l1, l2⟩ := dP_le h0 e2
    unfold f_X1_findFault_l6
    dsimp only
    rw [if_pos (lt_60 (show k < 60 by omega) ▸ trivial), d1, Option.bind_some]
    dsimp only
    by_cases hok : (dP ch i).1 = true
    · rw [if_pos hok] at e4
      have l3 := l2 hok
      rw [hok, if_neg (by decide), c_semi hT (by omega) d2]
      by_cases h59 : ch (dP ch i).2.1 = 59
      · left
        rw [if_pos h59] at e4
        rw [if_pos h59, Option.bind_some]
        dsimp only
        rw [if_neg (by decide), aI_1]
        have := nz_lt h0 (show ch (dP ch i).2.1 ≠ 0 by omega)
        exact ⟨_, rfl, (dP ch i).2.1 + 1, _, rfl, us_eq _ _ _, by omega, by omega, by rw [hm2]; exact e4⟩
      · right
        rw [if_neg h59] at e4
        rw [if_neg h59, Option.bind_some]
        dsimp only
        rw [if_pos rfl, cm_79, d2, cm_5 _ _ _ (by omega), hT.2.2.2.1]
        by_cases hL2 : (dP ch i).2.1 = L
        · rw [if_pos hL2] at e4
          rw [hL2, if_pos rfl]
          exact ⟨_, rfl, g1, by rw [← e4]⟩
        · rw [if_neg hL2] at e4
          rw [if_neg (fun z => hL2 ((nI_eq (by omega) (by omega)).mp z))]
          exact ⟨_, rfl, g1, by rw [← e4]⟩
    · rw [if_neg hok] at e4
      right
      rw [Bool.eq_false_iff.mpr hok, if_pos (by rfl), cm_79, d2]
      exact ⟨_, rfl, g1, by rw [← e4]⟩
  · obtain ⟨i, g, rfl, e1, e2, e3, e4⟩ := hP
    omega
theorem m_fault {M : xM} {L : Nat} {ch : Nat → Nat} {h t : Nat → Int32} (hT : mT M L ch) (h4 : h 4 = nI L) : ∃ h', f_X7_fault (mm M h t) = some (fF ch L 21 0, mm M h' t) ∧ h' 1 = h 1 ∧ h' 4 = nI L := by
  have h0 := hT.2.2.1
  have hL := hT.1
  unfold f_X7_fault
  rw [mm_up]
  have := xlp_rule (body := f_X7_fault_l7) (Q := fun r => ∃ h', r = (fF ch L 21 0, mm M h' t) ∧ h' 1 = h 1 ∧ h' 4 = nI L) (fun k s => (∃ i h', s = ((1 : Int32), mm M h' t) ∧ h' 5 = nI i ∧ h' 1 = h 1 ∧ h' 4 = nI L ∧ i ≤ L ∧ 3 * k ≤ i ∧ fF ch L (21 - k) i = fF ch L 21 0) ∨ (∃ i h', s = ((0 : Int32), mm M h' t) ∧ h' 5 = nI i ∧ h' 1 = h 1 ∧ h' 4 = nI L ∧ i ≤ L ∧ (if i = L then -6 else nI i) = fF ch L 21 0)) 22 4000 (by omega) (fun k s hk hP => ?_) (fun s hP => ?_) (1, mm M (us h 5 0) t) (Or.inl ⟨0, _, rfl, us_eq _ _ _, us_ne _ _ (by omega), (us_ne _ _ (by omega)).trans h4, by omega, by omega, rfl⟩)
  · obtain ⟨q, q1, h', rfl, q2, q3⟩ := this
    exact ⟨h', q1, q2, q3⟩
  · rcases hP with ⟨i, h', rfl, e5, e1, e4, e2, e3, eF⟩ | ⟨i, h', rfl, e5, e1, e4, e2, eF⟩
    · obtain ⟨m, hm⟩ : ∃ m, 21 - k = m + 1 := ⟨20 - k, by omega⟩
      have hm2 : 21 - (k + 1) = m := by omega
      rw [hm, fF_s] at eF
      obtain ⟨h1, d1, d5, d2, d4, d3⟩ := m_deed (t := t) hT (by omega) e5 e4
      obtain ⟨l1, l2⟩ := dP_le h0 e2
      unfold f_X7_fault_l7
      dsimp only
      rw [if_neg (show ¬ (1 : Int32) = 0 by decide), d1, Option.bind_some]
      dsimp only
      by_cases hok : (dP ch i).1 = true
      · left
        rw [if_pos hok] at eF
        have l3 := l2 hok
        have r : f_X7_reads 59 59 (mm M h1 t) = _ := m_reads (a := 59) (b := 59) hT d5 (d4.trans e4) (by omega) (by omega) (by omega) (by omega)
        rw [hok, if_neg (by decide), r]
        by_cases h59 : ch (dP ch i).2.1 = 59
        · rw [if_pos h59] at eF
          rw [if_pos (by omega), Option.bind_some]
          dsimp only
          rw [if_neg (nI_ne6 (by omega))]
          have := nz_lt h0 (show ch (dP ch i).2.1 ≠ 0 by omega)
          exact ⟨_, rfl, Or.inl ⟨(dP ch i).2.1 + 1, _, rfl, us_eq _ _ _, (us_ne _ _ (by omega)).trans (d2.trans e1), (us_ne _ _ (by omega)).trans (d4.trans e4), by omega, by omega, by rw [hm2]; exact eF⟩⟩
        · rw [if_neg h59] at eF
          rw [if_neg (by omega), Option.bind_some]
          dsimp only
          rw [if_pos rfl]
          exact ⟨_, rfl, Or.inr ⟨(dP ch i).2.1, h1, rfl, d5, d2.trans e1, d4.trans e4, l1, eF⟩⟩
      · right
        rw [if_neg hok] at eF
        rw [Bool.eq_false_iff.mpr hok, if_pos (by rfl), mm_0, d5]
        exact ⟨_, rfl, h1, by rw [← eF], d2.trans e1, d4.trans e4⟩
    · right
      unfold f_X7_fault_l7
      dsimp only
      rw [if_pos rfl, mm_0, e5, e4]
      by_cases hL2 : i = L
      · rw [if_pos hL2] at eF
        rw [hL2, if_pos rfl]
        exact ⟨_, rfl, h', by rw [← eF], e1, e4⟩
      · rw [if_neg hL2] at eF
        rw [if_neg (fun z => hL2 ((nI_eq (by omega) (by omega)).mp z))]
        exact ⟨_, rfl, h', by rw [← eF], e1, e4⟩
  · rcases hP with ⟨i, h', rfl, e5, e1, e4, e2, e3, eF⟩ | ⟨i, h', rfl, e5, e1, e4, e2, eF⟩
    · omega
    · unfold f_X7_fault_l7
      dsimp only
      rw [if_pos rfl, mm_0, e5, e4]
      by_cases hL2 : i = L
      · rw [if_pos hL2] at eF
        rw [hL2, if_pos rfl]
        exact ⟨_, rfl, h', by rw [← eF], e1, e4⟩
      · rw [if_neg hL2] at eF
        rw [if_neg (fun z => hL2 ((nI_eq (by omega) (by omega)).mp z))]
        exact ⟨_, rfl, h', by rw [← eF], e1, e4⟩
theorem pad_T {M : xM} (h : padR M) : ∃ L ch, cT M L ch ∧ mT M L ch ∧ M.1 6 0 4 = nI L := by
  obtain ⟨L, h1, h2, h3, h4⟩ := h
  have at1 : ∀ i, i < L → 33 ≤ (M.1 5 81 i).toNatClampNeg ∧ (M.1 5 81 i).toNatClampNeg < 127 ∧ M.1 5 81 i = nI (M.1 5 81 i).toNatClampNeg ∧ M.1 6 3 i = nI (M.1 5 81 i).toNatClampNeg := by
    intro i hi
    obtain ⟨c, c1, c2, c3, c4⟩ := h4 i hi
    rw [c3, cl_nI (by omega)]
    exact ⟨c1, by omega, rfl, c4⟩
  refine ⟨L, fun i => if i < L then (M.1 5 81 i).toNatClampNeg else 0, ⟨h1, fun i => ?_, fun i hi => if_neg (by omega), h2, fun i hi => ?_⟩, ⟨h1, fun i => ?_, fun i hi => if_neg (by omega), fun i hi => ?_, fun i hi => ?_⟩, h3⟩
  · dsimp only
    split
    · next z => exact (at1 i z).2.1
    · omega
  · dsimp only
    rw [if_pos hi]
    exact (at1 i hi).2.2.1
  · dsimp only
    split
    · next z => exact (at1 i z).2.1
    · omega
  · dsimp only
    rw [if_pos hi]
    exact (at1 i hi).1
  · dsimp only
    rw [if_pos hi]
    exact (at1 i hi).2.2.2
theorem Rel.cm {T : Nat} {M : xM} (h : Rel T M) (g : Nat → Int32) : Rel T (cm M (M.1 2) g) := h.congr rfl (fun r hr => by
    rcases hr with z | z
    · rw [z, cm_2]
    · exact cm_r _ _ _ (by omega) (by omega)) (fun o ho => cm_5 _ _ _ ho) (by rw [cm_r _ _ _ (by omega) (by omega)]) (by rw [cm_r _ _ _ (by omega) (by omega)]) (by rw [cm_r _ _ _ (by omega) (by omega)]) (by rw [cm_r _ _ _ (by omega) (by omega)]) (by rw [cm_r _ _ _ (by omega) (by omega)])
theorem mm_reg (M : xM) (h t : Nat → Int32) {r : Nat} (hr : r ≠ 6) : (mm M h t).1 r = M.1 r := by
  funext o
  exact mm_o _ _ _ (by omega) (by omega)
theorem Rel.mm {T : Nat} {M : xM} (h : Rel T M) {h' : Nat → Int32} (e1 : h' 1 = M.1 6 0 1) (e4 : h' 4 = M.1 6 0 4) : Rel T (mm M h' (M.1 6 1)) := h.congr rfl (fun r hr => mm_reg _ _ _ (by omega)) (fun o ho => mm_o _ _ _ (by omega) (by omega)) (mm_1 _ _ _) (mm_o _ _ _ (by omega) (by omega)) (mm_o _ _ _ (by omega) (by omega)) (by rw [mm_0]; exact e1) (by rw [mm_0]; exact e4)
theorem q_fault {T : Nat} : callOK T T (f_X6_fault) (f_X7_fault) := by
  intro M hRel
  have hp : padR M := by
    obtain ⟨n, R, -, -, -, -, -, -, h7⟩ := hRel
    exact h7
  obtain ⟨L, ch, hc, hm, h4⟩ := pad_T hp
  obtain ⟨g, c1⟩ := c_fault (τ := M.1 2) (g := M.1 5 79) hc
  rw [cm_self] at c1
  have e6 : (cm M (M.1 2) g).1 6 = M.1 6 := cm_r _ _ _ (by omega) (by omega)
  have hm' : mT (cm M (M.1 2) g) L ch := by
    obtain ⟨a, b, c, d, e⟩ := hm
    exact ⟨a, b, c, d, by rw [e6]; exact e⟩
  obtain ⟨h', d1, d2, d3⟩ := m_fault (h := (cm M (M.1 2) g).1 6 0) (t := (cm M (M.1 2) g).1 6 1) hm' (by rw [e6]; exact h4)
  rw [mm_self] at d1
  refine ⟨fF ch L 21 0, cm M (M.1 2) g, _, ?_, d1, (hRel.cm g).mm d2 (by rw [d3, e6, h4])⟩
  unfold f_X6_fault
  rw [c1]
  rfl
