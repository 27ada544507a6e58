/-! a deed read by the model -/
theorem us_same {h : Nat → Int32} {j : Nat} {v : Int32} (e : h j = v) : us h j v = h := by
  funext k
  by_cases a : k = j
  · subst a
    rw [us_eq, e]
  · rw [us_ne _ _ a]
theorem m_here {M : xM} {L i a b : Nat} {ch : Nat → Nat} {h t : Nat → Int32} (hT : mT M L ch) (h5 : h 5 = nI i) (h4 : h 4 = nI L) (hi : i ≤ 100) (ha1 : 1 ≤ a) (ha : a < 2 ^ 31) (hb : b < 2 ^ 31) : f_X7_isHere (nI a) (nI b) (mm M h t) = some (bI (decide (a ≤ ch i ∧ ch i ≤ b))) := by
  obtain ⟨t1, t2, t3, t4, t5⟩ := hT
  have hc := t2 i
  unfold f_X7_isHere
  rw [mm_0, h5, h4, nar_0, nar_1]
  by_cases hL : i < L
  · rw [if_pos (nI_lt hL (by omega)), if_pos (in_nI (by omega) (by omega)), cl_nI (by omega), mm_o _ _ _ (by omega) (by omega), t5 i hL, m_in, Option.bind_some, ite_bI]
    by_cases h : a ≤ ch i ∧ ch i ≤ b
    · rw [decide_eq_true h, frm_in h.1 h.2 hb]
      rfl
    · rw [decide_eq_false h]
      have : ¬ (!decide (nI (ch i) < nI a) && !decide (nI b < nI (ch i))) = true := fun z => by
        obtain ⟨k, k1, k2, k3⟩ := (frm_nI ha hb).mp z
        have := (nI_eq (by omega) (by omega)).mp k3
        omega
      rw [if_neg this]
      rfl
  · have h0 := t3 i (by omega)
    rw [if_neg (nI_nlt (by omega) (by omega)), decide_eq_false (by omega)]
    rfl
theorem m_reads {M : xM} {L i a b : Nat} {ch : Nat → Nat} {h t : Nat → Int32} (hT : mT M L ch) (h5 : h 5 = nI i) (h4 : h 4 = nI L) (hi : i ≤ 100) (ha1 : 1 ≤ a) (ha : a < 2 ^ 31) (hb : b < 2 ^ 31) : f_X7_reads (nI a) (nI b) (mm M h t) = if a ≤ ch i ∧ ch i ≤ b then some (nI (ch i), mm M (us h 5 (nI (i + 1))) t) else some (-6, mm M h t) := by
  unfold f_X7_reads f_X7_reads_j23 f_X7_reads_j40
  rw [m_here hT h5 h4 hi ha1 ha hb, Option.bind_some, ite_bI, m_flag1, m_flag0, Option.bind_some, Option.bind_some]
  obtain ⟨t1, t2, t3, t4, t5⟩ := hT
  have hc := t2 i
  by_cases hh : a ≤ ch i ∧ ch i ≤ b
  · have hL : i < L := by
      rcases Nat.lt_or_ge i L with z | z
      · exact z
      · have := t3 i z
        omega
    rw [if_pos hh, if_pos (decide_eq_true hh), mm_0, h5, if_pos (in_nI (by omega) (by omega)), cl_nI (by omega), mm_o _ _ _ (by omega) (by omega), t5 i hL, if_neg (nI_ne6 (by omega)), aI_1, mm_up]
  · rw [if_neg hh, if_neg (fun z => hh (of_decide_eq_true z)), if_pos rfl, Option.bind_some, mm_0, mm_up, Int32.add_zero, us_same rfl]
theorem m_shed {M : xM} {L i : Nat} {ch : Nat → Nat} {h t : Nat → Int32} (hT : mT M L ch) (h5 : h 5 = nI i) (h4 : h 4 = nI L) (hi : i ≤ 100) : ∃ h', f_X7_readsShed (mm M h t) = some (bI (sP ch i), mm M h' t) ∧ h' 5 = nI (if sP ch i = true then i + 1 else i) ∧ (sP ch i = true → h' 8 = nI (ch i - 48)) ∧ ∀ o, o ≠ 5 → o ≠ 8 → h' o = h o := by
  have hr : f_X7_reads 48 50 (mm M h t) = _ := m_reads (a := 48) (b := 50) hT h5 h4 hi (by omega) (by omega) (by omega)
  unfold f_X7_readsShed sP
  rw [hr, nar_0, nar_1]
  by_cases hh : 48 ≤ ch i ∧ ch i ≤ 50
  · have e : nI (ch i) - (48 : Int32) = nI (ch i - 48) := sub_nI (b := 48) hh.1
    have hc := hT.2.1 i
    rw [if_pos hh, Option.bind_some, decide_eq_true hh, if_pos rfl]
    dsimp only
    rw [if_neg (nI_ne6 (by omega)), e, mm_up]
    refine ⟨us (us h 5 (nI (i + 1))) 8 (nI (ch i - 48)), rfl, ?_, fun _ => us_eq _ _ _, fun o a b => ?_⟩
    · rw [us_ne _ _ (by omega), us_eq]
    · rw [us_ne _ _ b, us_ne _ _ a]
  · rw [if_neg hh, Option.bind_some, decide_eq_false hh]
    dsimp only
    rw [if_pos rfl, mm_up]
    refine ⟨_, rfl, ?_, fun z => Bool.noConfusion z, fun o a b => us_ne _ _ b⟩
    rw [us_ne _ _ (by omega), if_neg (by decide)]
    exact h5
theorem m_num {M : xM} {L i : Nat} {ch : Nat → Nat} {h t : Nat → Int32} (hT : mT M L ch) (h5 : h 5 = nI i) (h4 : h 4 = nI L) (hi : i ≤ 99) : ∃ h', f_X7_number (mm M h t) = some (if (nP ch i).1 = true then nI (nP ch i).2.2 else -6, mm M h' t) ∧ h' 5 = nI (nP ch i).2.1 ∧ ((nP ch i).1 = true → (nP ch i).2.2 < 100) ∧ ∀ o, o ≠ 5 → h' o = h o := by
  have hr : f_X7_reads 49 57 (mm M h t) = _ := m_reads (a := 49) (b := 57) hT h5 h4 (by omega) (by omega) (by omega) (by omega)
  unfold f_X7_number nP
  rw [hr]
  by_cases hh : 49 ≤ ch i ∧ ch i ≤ 57
  · have e : nI (ch i) - (48 : Int32) = nI (ch i - 48) := sub_nI (b := 48) (by omega)
    have hc := hT.2.1 i
    rw [if_pos hh, if_pos hh, Option.bind_some]
    dsimp only
    have hh2 : f_X7_isHere 48 57 (mm M (us h 5 (nI (i + 1))) t) = _ := m_here (i := i + 1) (a := 48) (b := 57) hT (us_eq _ _ _) ((us_ne _ _ (by omega)).trans h4) (by omega) (by omega) (by omega) (by omega)
    rw [if_neg (nI_ne6 (by omega)), hh2, Option.bind_some, ite_bI, e, mm_0, us_eq]
    by_cases h2 : 48 ≤ ch (i + 1) ∧ ch (i + 1) ≤ 57
    · have hL : i + 1 < L := by
        rcases Nat.lt_or_ge (i + 1) L with z | z
        · exact z
        · have := hT.2.2.1 (i + 1) z
          omega
      have hL60 := hT.1
      rw [if_pos (decide_eq_true h2), if_pos h2, if_pos (in_nI (by omega) (by omega)), cl_nI (by omega), mm_o _ _ _ (by omega) (by omega), hT.2.2.2.2 (i + 1) hL, mm_up, aI_1]
      have ev : (10 : Int32) * nI (ch i - 48) + nI (ch (i + 1)) - (48 : Int32) = nI (10 * (ch i - 48) + (ch (i + 1) - 48)) := by
        have : (10 : Int32) * nI (ch i - 48) = nI (10 * (ch i - 48)) := nI_mul 10 _
        rw [this, nI_add]
        have : nI (10 * (ch i - 48) + ch (i + 1)) - (48 : Int32) = nI (10 * (ch i - 48) + ch (i + 1) - 48) := sub_nI (b := 48) (by omega)
        rw [this]
        congr 1
        omega
      rw [ev]
      refine ⟨us (us h 5 (nI (i + 1))) 5 (nI (i + 1 + 1)), rfl, us_eq _ _ _, fun _ => ?_, fun o a => ?_⟩
      · dsimp only
        omega
      · rw [us_ne _ _ a, us_ne _ _ a]
    · rw [if_neg (fun z => h2 (of_decide_eq_true z)), if_neg h2]
      refine ⟨us h 5 (nI (i + 1)), rfl, us_eq _ _ _, fun _ => ?_, fun o a => us_ne _ _ a⟩
      dsimp only
      omega
  · rw [if_neg hh, if_neg hh, Option.bind_some]
    exact ⟨h, rfl, h5, fun z => Bool.noConfusion z, fun o a => rfl⟩
