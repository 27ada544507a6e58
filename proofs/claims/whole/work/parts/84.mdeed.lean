/-! a deed read by the model, whole -/
theorem m_j167 {M : xM} {L i : Nat} {ch : Nat → Nat} {h t : Nat → Int32} (hT : mT M L ch) (hi : i ≤ 60) (h5 : h 5 = nI (i + 2)) (h4 : h 4 = nI L) (h6 : h 6 = nI (ch i - 65)) (hA : 65 ≤ ch i ∧ ch i ≤ 84) (h63 : ch (i + 1) = 63) : ∃ h', f_X7_readsDeed_j167 63 (mm M h t) = some (bI (dP ch i).1, mm M h' t) ∧ h' 5 = nI (dP ch i).2.1 ∧ h' 1 = h 1 ∧ h' 4 = h 4 ∧ ((dP ch i).1 = true → fOK ch i (h' 7) (h' 6) (h' 8) (h' 9)) := by
  have d1 : ¬ ch i = 115 := by omega
  have d2 : ¬ ch i = 46 := by omega
  unfold f_X7_readsDeed_j167
  rw [mm_up, mm_0, us_eq, if_pos rfl, nar_0, nar_1]
  obtain ⟨h1, a0, a5, a8, ao⟩ := m_shed (h := us h 7 63) (t := t) hT (i := i + 2) ((us_ne _ _ (by omega)).trans h5) ((us_ne _ _ (by omega)).trans h4) (by omega)
  have b1 : h1 1 = h 1 := (ao 1 (by omega) (by omega)).trans (us_ne _ _ (by omega))
  have b4 : h1 4 = h 4 := (ao 4 (by omega) (by omega)).trans (us_ne _ _ (by omega))
  have b6 : h1 6 = nI (ch i - 65) := ((ao 6 (by omega) (by omega)).trans (us_ne _ _ (by omega))).trans h6
  have b7 : h1 7 = 63 := (ao 7 (by omega) (by omega)).trans (us_eq _ _ _)
  rw [a0, Option.bind_some]
  dsimp only
  by_cases hs : sP ch (i + 2) = true
  · rw [if_pos hs] at a5
    rw [hs, if_neg (by decide)]
    have r58 : f_X7_reads 58 58 (mm M h1 t) = _ := m_reads (a := 58) (b := 58) hT a5 (b4.trans h4) (by omega) (by omega) (by omega) (by omega)
    rw [r58]
    by_cases h58 : ch (i + 3) = 58
    · have hc : 58 ≤ ch (i + 2 + 1) ∧ ch (i + 2 + 1) ≤ 58 := by
        have : ch (i + 2 + 1) = 58 := h58
        omega
      rw [if_pos hc, Option.bind_some]
      dsimp only
      rw [if_neg (nI_ne6 (by have := hT.2.1 (i + 2 + 1); omega))]
      obtain ⟨h2, c0, c5, cl, co⟩ := m_num (h := us h1 5 (nI (i + 2 + 1 + 1))) (t := t) hT (i := i + 4) (us_eq _ _ _) (((us_ne _ _ (by omega)).trans b4).trans h4) (by omega)
      have hd : dP ch i = ((nP ch (i + 4)).1, ((nP ch (i + 4)).2.1, 63)) := by
        unfold dP
        rw [if_neg d1, if_neg d2, if_pos hA, if_pos h63, if_pos hs, if_pos h58]
      rw [c0, Option.bind_some, hd]
      dsimp only
      rw [mm_up, mm_0, us_eq]
      refine ⟨us h2 9 (if (nP ch (i + 4)).1 = true then nI (nP ch (i + 4)).2.2 else -6), ?_, ?_, ?_, ?_, fun hok => ?_⟩
      · cases hk : (nP ch (i + 4)).1
        · rfl
        · have := cl hk
          rw [if_pos rfl, if_neg (nI_ne6 (by omega))]
          rfl
      · rw [us_ne _ _ (by omega)]
        exact c5
      · rw [us_ne _ _ (by omega), co 1 (by omega), us_ne _ _ (by omega), b1]
      · rw [us_ne _ _ (by omega), co 4 (by omega), us_ne _ _ (by omega), b4]
      · unfold fOK
        rw [hd]
        refine ⟨?_, fun z => absurd z (by show ¬ 63 = 115; omega), fun z => absurd z (by show ¬ 63 = 46; omega), fun _ _ => ?_, fun _ => ⟨?_, ?_⟩⟩
        · rw [us_ne _ _ (by omega), co 7 (by omega), us_ne _ _ (by omega), b7]
          rfl
        · rw [us_ne _ _ (by omega), co 6 (by omega), us_ne _ _ (by omega), b6]
        · rw [us_ne _ _ (by omega), co 8 (by omega), us_ne _ _ (by omega), a8 hs]
        · rw [us_eq, if_pos hok]
    · have hc : ¬ (58 ≤ ch (i + 2 + 1) ∧ ch (i + 2 + 1) ≤ 58) := by
        have : ch (i + 2 + 1) = ch (i + 3) := rfl
        omega
      have hd : dP ch i = (false, (i + 3, 63)) := by
        unfold dP
        rw [if_neg d1, if_neg d2, if_pos hA, if_pos h63, if_pos hs, if_neg h58]
      rw [if_neg hc, Option.bind_some, hd]
      exact ⟨h1, rfl, a5, b1, b4, fun z => Bool.noConfusion z⟩
  · have hs2 : sP ch (i + 2) = false := Bool.eq_false_iff.mpr hs
    rw [if_neg hs] at a5
    have hd : dP ch i = (false, (i + 2, 63)) := by
      unfold dP
      rw [if_neg d1, if_neg d2, if_pos hA, if_pos h63, if_neg hs]
    rw [hs2, hd]
    exact ⟨h1, rfl, a5, b1, b4, fun z => Bool.noConfusion z⟩
theorem m_deed {M : xM} {L i : Nat} {ch : Nat → Nat} {h t : Nat → Int32} (hT : mT M L ch) (hi : i ≤ 60) (h5 : h 5 = nI i) (h4 : h 4 = nI L) : ∃ h', f_X7_readsDeed (mm M h t) = some (bI (dP ch i).1, mm M h' t) ∧ h' 5 = nI (dP ch i).2.1 ∧ h' 1 = h 1 ∧ h' 4 = h 4 ∧ ((dP ch i).1 = true → fOK ch i (h' 7) (h' 6) (h' 8) (h' 9)) := by
  have hc := hT.2.1 i
  have g115 : f_X7_isHere 115 115 (mm M h t) = _ := m_here (a := 115) (b := 115) hT h5 h4 (by omega) (by omega) (by omega) (by omega)
  have g46 : f_X7_isHere 46 46 (mm M h t) = _ := m_here (a := 46) (b := 46) hT h5 h4 (by omega) (by omega) (by omega) (by omega)
  have r115 : f_X7_reads 115 115 (mm M h t) = _ := m_reads (a := 115) (b := 115) hT h5 h4 (by omega) (by omega) (by omega) (by omega)
  have r46 : f_X7_reads 46 46 (mm M h t) = _ := m_reads (a := 46) (b := 46) hT h5 h4 (by omega) (by omega) (by omega) (by omega)
  have r65 : f_X7_reads 65 84 (mm M h t) = _ := m_reads (a := 65) (b := 84) hT h5 h4 (by omega) (by omega) (by omega) (by omega)
  unfold f_X7_readsDeed
  rw [g115, Option.bind_some, ite_bI]
  by_cases h115 : ch i = 115
  · have hd : dP ch i = (sP ch (i + 1), (if sP ch (i + 1) = true then i + 2 else i + 1, 115)) := if_pos h115
    rw [if_pos (decide_eq_true (by omega)), r115, if_pos (by omega), Option.bind_some]
    dsimp only
    rw [mm_up]
    obtain ⟨h1, a0, a5, a8, ao⟩ := m_shed (h := us (us h 5 (nI (i + 1))) 7 (nI (ch i))) (t := t) hT (i := i + 1) ((us_ne _ _ (by omega)).trans (us_eq _ _ _)) (((us_ne _ _ (by omega)).trans (us_ne _ _ (by omega))).trans h4) (by omega)
    rw [a0, Option.bind_some, hd]
    dsimp only
    rw [bI_nar]
    refine ⟨h1, rfl, a5, ?_, ?_, fun hok => ?_⟩
    · rw [ao 1 (by omega) (by omega), us_ne _ _ (by omega), us_ne _ _ (by omega)]
    · rw [ao 4 (by omega) (by omega), us_ne _ _ (by omega), us_ne _ _ (by omega)]
    · unfold fOK
      rw [hd]
      refine ⟨?_, fun _ => a8 hok, fun z => absurd z (by show ¬ 115 = 46; omega), fun z => absurd rfl z, fun z => absurd z (by show ¬ 115 = 63; omega)⟩
      rw [ao 7 (by omega) (by omega), us_eq, h115]
  rw [if_neg (fun z => h115 (by have := of_decide_eq_true z; omega)), g46, Option.bind_some, ite_bI]
  by_cases h46 : ch i = 46
  · have hd : dP ch i = ((nP ch (i + 1)).1, ((nP ch (i + 1)).2.1, 46)) := (if_neg h115).trans (if_pos h46)
    rw [if_pos (decide_eq_true (by omega)), r46, if_pos (by omega), Option.bind_some]
    dsimp only
    rw [mm_up]
    obtain ⟨h2, c0, c5, cl, co⟩ := m_num (h := us (us h 5 (nI (i + 1))) 7 (nI (ch i))) (t := t) hT (i := i + 1) ((us_ne _ _ (by omega)).trans (us_eq _ _ _)) (((us_ne _ _ (by omega)).trans (us_ne _ _ (by omega))).trans h4) (by omega)
    rw [c0, Option.bind_some, hd]
    dsimp only
    rw [mm_up, mm_0, us_eq, nar_0, nar_1]
    refine ⟨us h2 9 (if (nP ch (i + 1)).1 = true then nI (nP ch (i + 1)).2.2 else -6), ?_, ?_, ?_, ?_, fun hok => ?_⟩
    · cases hk : (nP ch (i + 1)).1
      · rfl
      · have := cl hk
        rw [if_pos rfl, if_neg (nI_ne6 (by omega))]
        rfl
    · rw [us_ne _ _ (by omega)]
      exact c5
    · rw [us_ne _ _ (by omega), co 1 (by omega), us_ne _ _ (by omega), us_ne _ _ (by omega)]
    · rw [us_ne _ _ (by omega), co 4 (by omega), us_ne _ _ (by omega), us_ne _ _ (by omega)]
    · unfold fOK
      rw [hd]
      refine ⟨?_, fun z => absurd z (by show ¬ 46 = 115; omega), fun _ => ?_, fun _ z => absurd rfl z, fun z => absurd z (by show ¬ 46 = 63; omega)⟩
      · rw [us_ne _ _ (by omega), co 7 (by omega), us_eq, h46]
      · rw [us_eq, if_pos hok]
  rw [if_neg (fun z => h46 (by have := of_decide_eq_true z; omega)), r65]
  by_cases hA : 65 ≤ ch i ∧ ch i ≤ 84
  · rw [if_pos hA, Option.bind_some]
    dsimp only
    have e : nI (ch i) - (65 : Int32) = nI (ch i - 65) := sub_nI (b := 65) hA.1
    rw [mm_up, mm_0, us_eq, e, if_neg (nI_pos (by omega))]
    generalize hk1 : us (us h 5 (nI (i + 1))) 6 (nI (ch i - 65)) = k
    have k5 : k 5 = nI (i + 1) := by rw [← hk1, us_ne _ _ (by omega), us_eq]
    have k4 : k 4 = nI L := by rw [← hk1, us_ne _ _ (by omega), us_ne _ _ (by omega), h4]
    have k6 : k 6 = nI (ch i - 65) := by rw [← hk1, us_eq]
    have k1 : k 1 = h 1 := by rw [← hk1, us_ne _ _ (by omega), us_ne _ _ (by omega)]
    have k44 : k 4 = h 4 := k4.trans h4.symm
    have gg : ∀ a, 1 ≤ a → a < 2 ^ 31 → f_X7_isHere (nI a) (nI a) (mm M k t) = some (bI (decide (ch (i + 1) = a))) := by
      intro a a1 a2
      rw [m_here hT k5 k4 (by omega) a1 a2 a2]
      exact congrArg (fun b => some (bI b)) (decide_eq_decide.mpr ⟨fun z => by omega, fun z => by omega⟩)
    have g63 : f_X7_isHere 63 63 (mm M k t) = _ := gg 63 (by omega) (by omega)
    have g112 : f_X7_isHere 112 112 (mm M k t) = _ := gg 112 (by omega) (by omega)
    have g114 : f_X7_isHere 114 114 (mm M k t) = _ := gg 114 (by omega) (by omega)
    have g97 : f_X7_isHere 97 97 (mm M k t) = _ := gg 97 (by omega) (by omega)
    have g102 : f_X7_isHere 102 102 (mm M k t) = _ := gg 102 (by omega) (by omega)
    have r33 : f_X7_reads 33 126 (mm M k t) = _ := m_reads (a := 33) (b := 126) hT k5 k4 (by omega) (by omega) (by omega) (by omega)
    rw [g63, Option.bind_some, ite_bI]
    by_cases h63 : ch (i + 1) = 63
    · rw [if_pos (decide_eq_true h63)]
      unfold f_X7_readsDeed_j154
      rw [r33, if_pos (by omega), Option.bind_some]
      dsimp only
      obtain ⟨h', p1, p2, p3, p4, p5⟩ := m_j167 (h := us k 5 (nI (i + 1 + 1))) (t := t) hT hi (us_eq _ _ _) ((us_ne _ _ (by omega)).trans k4) ((us_ne _ _ (by omega)).trans k6) hA h63
      rw [h63]
      exact ⟨h', p1, p2, p3.trans ((us_ne _ _ (by omega)).trans k1), p4.trans ((us_ne _ _ (by omega)).trans k44), p5⟩
    rw [if_neg (fun z => h63 (of_decide_eq_true z))]
    have fin : ∀ c, ch (i + 1) = c → (c = 112 ∨ c = 114 ∨ c = 97 ∨ c = 102) → ∃ h', f_X7_readsDeed_j154 (mm M k t) = some (bI (dP ch i).1, mm M h' t) ∧ h' 5 = nI (dP ch i).2.1 ∧ h' 1 = h 1 ∧ h' 4 = h 4 ∧ ((dP ch i).1 = true → fOK ch i (h' 7) (h' 6) (h' 8) (h' 9)) := by
      intro c hcc hor
      have hd : dP ch i = (true, (i + 2, c)) := by
        unfold dP
        rw [if_neg h115, if_neg h46, if_pos hA, if_neg h63, hcc, if_pos hor]
      unfold f_X7_readsDeed_j154 f_X7_readsDeed_j167
      rw [r33, if_pos (by omega), Option.bind_some]
      dsimp only
      have n63 : ¬ nI c = (63 : Int32) := fun z => by
        have := (nI_eq (b := 63) (by omega) (by omega)).mp z
        omega
      rw [mm_up, mm_0, us_eq, hcc, if_neg n63, if_neg (nI_ne6 (by omega)), nar_1, hd]
      refine ⟨us (us k 5 (nI (i + 1 + 1))) 7 (nI c), rfl, ?_, ?_, ?_, fun _ => ?_⟩
      · rw [us_ne _ _ (by omega), us_eq]
      · rw [us_ne _ _ (by omega), us_ne _ _ (by omega), k1]
      · rw [us_ne _ _ (by omega), us_ne _ _ (by omega), k44]
      · unfold fOK
        rw [hd]
        refine ⟨us_eq _ _ _, fun z => ?_, fun z => ?_, fun _ _ => ?_, fun z => ?_⟩
        · have z : c = 115 := z
          omega
        · have z : c = 46 := z
          omega
        · rw [us_ne _ _ (by omega), us_ne _ _ (by omega), k6]
        · have z : c = 63 := z
          omega
    rw [g112, Option.bind_some, ite_bI]
    by_cases h112 : ch (i + 1) = 112
    · rw [if_pos (decide_eq_true h112)]
      exact fin 112 h112 (by omega)
    rw [if_neg (fun z => h112 (of_decide_eq_true z)), g114, Option.bind_some, ite_bI]
    by_cases h114 : ch (i + 1) = 114
    · rw [if_pos (decide_eq_true h114)]
      exact fin 114 h114 (by omega)
    rw [if_neg (fun z => h114 (of_decide_eq_true z)), g97, Option.bind_some, ite_bI]
    by_cases h97 : ch (i + 1) = 97
    · rw [if_pos (decide_eq_true h97)]
      exact fin 97 h97 (by omega)
    rw [if_neg (fun z => h97 (of_decide_eq_true z)), g102, Option.bind_some, ite_bI]
    by_cases h102 : ch (i + 1) = 102
    · rw [if_pos (decide_eq_true h102)]
      exact fin 102 h102 (by omega)
    rw [if_neg (fun z => h102 (of_decide_eq_true z))]
    have hd : dP ch i = (false, (i + 1, 0)) := by
      unfold dP
      rw [if_neg h115, if_neg h46, if_pos hA, if_neg h63, if_neg (by omega)]
    unfold f_X7_readsDeed_j167
    rw [mm_up, mm_0, us_eq, if_neg (by decide), if_pos rfl, nar_0, hd]
    refine ⟨us k 7 (-6), rfl, ?_, ?_, ?_, fun z => Bool.noConfusion z⟩
    · rw [us_ne _ _ (by omega)]
      exact k5
    · rw [us_ne _ _ (by omega), k1]
    · rw [us_ne _ _ (by omega), k44]
  · have hd : dP ch i = (false, (i, 0)) := (if_neg h115).trans ((if_neg h46).trans (if_neg hA))
    rw [if_neg hA, Option.bind_some]
    dsimp only
    rw [mm_up, mm_0, us_eq, if_pos (by decide), nar_0, hd]
    refine ⟨us h 6 (-6 - 65), rfl, ?_, ?_, ?_, fun z => Bool.noConfusion z⟩
    · rw [us_ne _ _ (by omega)]
      exact h5
    · rw [us_ne _ _ (by omega)]
    · rw [us_ne _ _ (by omega)]
