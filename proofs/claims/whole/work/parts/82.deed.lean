/-! a deed read by the class -/
def dP (ch : Nat → Nat) (i : Nat) : Bool × (Nat × Nat) :=
  if ch i = 115 then (sP ch (i + 1), (if sP ch (i + 1) = true then i + 2 else i + 1, 115))
  else if ch i = 46 then ((nP ch (i + 1)).1, ((nP ch (i + 1)).2.1, 46))
  else if 65 ≤ ch i ∧ ch i ≤ 84 then
    (if ch (i + 1) = 63 then
      (if sP ch (i + 2) = true then (if ch (i + 3) = 58 then ((nP ch (i + 4)).1, ((nP ch (i + 4)).2.1, 63)) else (false, (i + 3, 63))) else (false, (i + 2, 63)))
    else if ch (i + 1) = 112 ∨ ch (i + 1) = 114 ∨ ch (i + 1) = 97 ∨ ch (i + 1) = 102 then (true, (i + 2, ch (i + 1)))
    else (false, (i + 1, 0)))
  else (false, (i, 0))
def fOK (ch : Nat → Nat) (i : Nat) (a b c d : Int32) : Prop := a = nI (dP ch i).2.2 ∧ ((dP ch i).2.2 = 115 → c = nI (ch (i + 1) - 48)) ∧ ((dP ch i).2.2 = 46 → d = nI (nP ch (i + 1)).2.2) ∧ ((dP ch i).2.2 ≠ 115 → (dP ch i).2.2 ≠ 46 → b = nI (ch i - 65)) ∧ ((dP ch i).2.2 = 63 → c = nI (ch (i + 2) - 48) ∧ d = nI (nP ch (i + 4)).2.2)
theorem c_person {M : xM} {L i : Nat} {ch : Nat → Nat} {τ : Nat → Nat → Int32} {g : Nat → Int32} (hT : cT M L ch) (hi : i ≤ 60) (hg : g 1 = nI (i + 1)) (h4 : g 4 = nI (ch i - 65)) (hA : 65 ≤ ch i ∧ ch i ≤ 84) : ∃ g', f_X1_readDeedOfPerson (cm M τ g) = some (bI (dP ch i).1, cm M τ g') ∧ g' 1 = nI (dP ch i).2.1 ∧ ((dP ch i).1 = true → fOK ch i (g' 3) (g' 4) (g' 5) (g' 6)) := by
  have d1 : ¬ ch i = 115 := by omega
  have d2 : ¬ ch i = 46 := by omega
  unfold f_X1_readDeedOfPerson
  rw [cm_79, hg, c_at hT (by omega), Option.bind_some, cm_up, nar_0, nar_1]
  have hg3 : us g 3 (nI (ch (i + 1))) 1 = nI (i + 1) := (us_ne _ _ (by omega)).trans hg
  have ro : ∀ a, a < 2 ^ 31 → f_X1_readOne (nI a) (cm M τ (us g 3 (nI (ch (i + 1))))) = _ := fun a ha => c_ro (a := a) hT (by omega) hg3 ha
  have r63 : f_X1_readOne 63 (cm M τ (us g 3 (nI (ch (i + 1))))) = _ := ro 63 (by omega)
  have r112 : f_X1_readOne 112 (cm M τ (us g 3 (nI (ch (i + 1))))) = _ := ro 112 (by omega)
  have r114 : f_X1_readOne 114 (cm M τ (us g 3 (nI (ch (i + 1))))) = _ := ro 114 (by omega)
  have r97 : f_X1_readOne 97 (cm M τ (us g 3 (nI (ch (i + 1))))) = _ := ro 97 (by omega)
  have r102 : f_X1_readOne 102 (cm M τ (us g 3 (nI (ch (i + 1))))) = _ := ro 102 (by omega)
  by_cases h63 : ch (i + 1) = 63
  · rw [r63, if_pos h63, Option.bind_some]
    dsimp only
    rw [if_neg (by decide)]
    generalize hg4 : us (us (us g 3 (nI (ch (i + 1)))) 2 (nI (ch (i + 1)))) 1 (nI (i + 1 + 1)) = g4
    have a1 : g4 1 = nI (i + 2) := by
      rw [← hg4, us_eq]
    have a3 : g4 3 = nI 63 := by
      rw [← hg4, us_ne _ _ (by omega), us_ne _ _ (by omega), us_eq, h63]
    have a4 : g4 4 = nI (ch i - 65) := by
      rw [← hg4, us_ne _ _ (by omega), us_ne _ _ (by omega), us_ne _ _ (by omega), h4]
    obtain ⟨g5, b0, b1, b5, b3, b4⟩ := c_shed (τ := τ) hT (i := i + 2) (by omega) a1
    rw [b0, Option.bind_some]
    dsimp only
    by_cases hs : sP ch (i + 2) = true
    · rw [if_pos hs] at b1
      rw [hs, if_neg (by decide)]
      have r58 : f_X1_readOne 58 (cm M τ g5) = _ := c_ro (a := 58) hT (by omega) b1 (by omega)
      rw [r58]
      by_cases h58 : ch (i + 2 + 1) = 58
      · rw [if_pos h58, Option.bind_some]
        dsimp only
        rw [if_neg (by decide)]
        generalize hg6 : us (us g5 2 (nI (ch (i + 2 + 1)))) 1 (nI (i + 2 + 1 + 1)) = g6
        have c1 : g6 1 = nI (i + 4) := by
          rw [← hg6, us_eq]
        obtain ⟨g7, e0, e1, e6, e3, e4, e5⟩ := c_num (τ := τ) hT (i := i + 4) (by omega) c1
        have hd : dP ch i = ((nP ch (i + 4)).1, ((nP ch (i + 4)).2.1, 63)) := by
          unfold dP
          rw [if_neg d1, if_neg d2, if_pos hA, if_pos h63, if_pos hs, if_pos h58]
        rw [hd, e0, Option.bind_some]
        dsimp only
        refine ⟨g7, ?_, e1, fun hok => ?_⟩
        · cases (nP ch (i + 4)).1 <;> rfl
        · have z3 : g7 3 = nI 63 := by
            rw [e3, ← hg6, us_ne _ _ (by omega), us_ne _ _ (by omega), b3, a3]
          have z4 : g7 4 = nI (ch i - 65) := by
            rw [e4, ← hg6, us_ne _ _ (by omega), us_ne _ _ (by omega), b4, a4]
          have z5 : g7 5 = nI (ch (i + 2) - 48) := by
            rw [e5, ← hg6, us_ne _ _ (by omega), us_ne _ _ (by omega), b5 hs]
          unfold fOK
          rw [hd]
          exact ⟨z3, fun z => absurd z (by show ¬ 63 = 115; omega), fun z => absurd z (by show ¬ 63 = 46; omega), fun _ _ => z4, fun _ => ⟨z5, e6 hok⟩⟩
      · have hd : dP ch i = (false, (i + 3, 63)) := by
          unfold dP
          rw [if_neg d1, if_neg d2, if_pos hA, if_pos h63, if_pos hs, if_neg h58]
        rw [if_neg h58, Option.bind_some, hd]
        exact ⟨g5, rfl, b1, fun z => Bool.noConfusion z⟩
    · have hs2 : sP ch (i + 2) = false := Bool.eq_false_iff.mpr hs
      rw [if_neg hs] at b1
      have hd : dP ch i = (false, (i + 2, 63)) := by
        unfold dP
        rw [if_neg d1, if_neg d2, if_pos hA, if_pos h63, if_neg hs]
      rw [hs2, hd]
      exact ⟨g5, rfl, b1, fun z => Bool.noConfusion z⟩
  · rw [r63, if_neg h63, Option.bind_some]
    dsimp only
    rw [if_pos rfl]
    have good : ∀ c, ch (i + 1) = c → (c = 112 ∨ c = 114 ∨ c = 97 ∨ c = 102) → dP ch i = (true, (i + 2, c)) := by
      intro c hc hor
      unfold dP
      rw [if_neg d1, if_neg d2, if_pos hA, if_neg h63, hc, if_pos hor]
    have fin : ∀ c, ch (i + 1) = c → (c = 112 ∨ c = 114 ∨ c = 97 ∨ c = 102) → ∃ g', (some ((1 : Int32), cm M τ (us (us (us g 3 (nI (ch (i + 1)))) 2 (nI (ch (i + 1)))) 1 (nI (i + 1 + 1)))) : Option (Int32 × xM)) = some (bI (dP ch i).1, cm M τ g') ∧ g' 1 = nI (dP ch i).2.1 ∧ ((dP ch i).1 = true → fOK ch i (g' 3) (g' 4) (g' 5) (g' 6)) := by
      intro c hc hor
      have hd := good c hc hor
      refine ⟨us (us (us g 3 (nI (ch (i + 1)))) 2 (nI (ch (i + 1)))) 1 (nI (i + 1 + 1)), ?_, ?_, fun _ => ?_⟩
      · rw [hd]
        rfl
      · rw [hd, us_eq]
      · unfold fOK
        rw [hd]
        refine ⟨?_, fun z => ?_, fun z => ?_, fun _ _ => ?_, fun z => ?_⟩
        · rw [us_ne _ _ (by omega), us_ne _ _ (by omega), us_eq, hc]
        · have z : c = 115 := z
          omega
        · have z : c = 46 := z
          omega
        · rw [us_ne _ _ (by omega), us_ne _ _ (by omega), us_ne _ _ (by omega), h4]
        · have z : c = 63 := z
          omega
    by_cases h112 : ch (i + 1) = 112
    · rw [r112, if_pos h112, Option.bind_some]
      exact fin 112 h112 (by omega)
    rw [r112, if_neg h112, Option.bind_some]
    dsimp only
    rw [if_pos rfl]
    by_cases h114 : ch (i + 1) = 114
    · rw [r114, if_pos h114, Option.bind_some]
      exact fin 114 h114 (by omega)
    rw [r114, if_neg h114, Option.bind_some]
    dsimp only
    rw [if_pos rfl]
    by_cases h97 : ch (i + 1) = 97
    · rw [r97, if_pos h97, Option.bind_some]
      exact fin 97 h97 (by omega)
    rw [r97, if_neg h97, Option.bind_some]
    dsimp only
    rw [if_pos rfl]
    by_cases h102 : ch (i + 1) = 102
    · rw [r102, if_pos h102, Option.bind_some]
      exact fin 102 h102 (by omega)
    rw [r102, if_neg h102, Option.bind_some]
    have hd : dP ch i = (false, (i + 1, 0)) := by
      unfold dP
      rw [if_neg d1, if_neg d2, if_pos hA, if_neg h63, if_neg (by omega)]
    rw [hd]
    exact ⟨_, rfl, hg3, fun z => Bool.noConfusion z⟩
theorem c_deed {M : xM} {L i : Nat} {ch : Nat → Nat} {τ : Nat → Nat → Int32} {g : Nat → Int32} (hT : cT M L ch) (hi : i ≤ 60) (hg : g 1 = nI i) : ∃ g', f_X1_readDeed (cm M τ g) = some (bI (dP ch i).1, cm M τ g') ∧ g' 1 = nI (dP ch i).2.1 ∧ ((dP ch i).1 = true → fOK ch i (g' 3) (g' 4) (g' 5) (g' 6)) := by
  have hr : f_X1_readFrom 65 84 (cm M τ g) = _ := c_rf (a := 65) (b := 84) hT (by omega) hg (by omega) (by omega)
  unfold f_X1_readDeed
  rw [hr]
  by_cases hA : 65 ≤ ch i ∧ ch i ≤ 84
  · rw [if_pos hA, Option.bind_some]
    dsimp only
    have e : nI (ch i) - (65 : Int32) = nI (ch i - 65) := sub_nI (b := 65) hA.1
    rw [if_neg (by decide), cm_79, cm_up, us_ne _ _ (by omega), us_eq, e]
    obtain ⟨g', p1, p2, p3⟩ := c_person (τ := τ) (g := us (us (us g 2 (nI (ch i))) 1 (nI (i + 1))) 4 (nI (ch i - 65))) hT hi (by rw [us_ne _ _ (by omega), us_eq]) (us_eq _ _ _) hA
    rw [p1, Option.bind_some]
    dsimp only
    rw [bI_nar]
    exact ⟨g', rfl, p2, p3⟩
  · rw [if_neg hA, Option.bind_some]
    dsimp only
    rw [if_pos rfl, cm_79, hg, c_at hT (by omega), Option.bind_some, cm_up]
    have hg3 : us g 3 (nI (ch i)) 1 = nI i := (us_ne _ _ (by omega)).trans hg
    have r115 : f_X1_readOne 115 (cm M τ (us g 3 (nI (ch i)))) = _ := c_ro (a := 115) hT (by omega) hg3 (by omega)
    have r46 : f_X1_readOne 46 (cm M τ (us g 3 (nI (ch i)))) = _ := c_ro (a := 46) hT (by omega) hg3 (by omega)
    rw [r115]
    by_cases h115 : ch i = 115
    · rw [if_pos h115, Option.bind_some]
      dsimp only
      rw [if_neg (by decide)]
      obtain ⟨g5, b0, b1, b5, b3, b4⟩ := c_shed (τ := τ) (g := us (us (us g 3 (nI (ch i))) 2 (nI (ch i))) 1 (nI (i + 1))) hT (i := i + 1) (by omega) (us_eq _ _ _)
      have hd : dP ch i = (sP ch (i + 1), (if sP ch (i + 1) = true then i + 2 else i + 1, 115)) := if_pos h115
      rw [b0, Option.bind_some, hd]
      dsimp only
      rw [bI_nar]
      refine ⟨g5, rfl, b1, fun hok => ?_⟩
      unfold fOK
      rw [hd]
      refine ⟨?_, fun _ => b5 hok, fun z => absurd z (by show ¬ 115 = 46; omega), fun z => absurd rfl z, fun z => absurd z (by show ¬ 115 = 63; omega)⟩
      rw [b3, us_ne _ _ (by omega), us_ne _ _ (by omega), us_eq, h115]
    · rw [if_neg h115, Option.bind_some]
      dsimp only
      rw [if_pos rfl, r46]
      by_cases h46 : ch i = 46
      · rw [if_pos h46, Option.bind_some]
        dsimp only
        rw [if_neg (by decide)]
        obtain ⟨g7, e0, e1, e6, e3, e4, e5⟩ := c_num (τ := τ) (g := us (us (us g 3 (nI (ch i))) 2 (nI (ch i))) 1 (nI (i + 1))) hT (i := i + 1) (by omega) (us_eq _ _ _)
        have hd : dP ch i = ((nP ch (i + 1)).1, ((nP ch (i + 1)).2.1, 46)) := (if_neg h115).trans (if_pos h46)
        rw [e0, Option.bind_some, hd]
        dsimp only
        refine ⟨g7, ?_, e1, fun hok => ?_⟩
        · rw [nar_0, nar_1]
          cases (nP ch (i + 1)).1 <;> rfl
        · unfold fOK
          rw [hd]
          refine ⟨?_, fun z => absurd z (by show ¬ 46 = 115; omega), fun _ => e6 hok, fun _ z => absurd rfl z, fun z => absurd z (by show ¬ 46 = 63; omega)⟩
          rw [e3, us_ne _ _ (by omega), us_ne _ _ (by omega), us_eq, h46]
      · have hd : dP ch i = (false, (i, 0)) := (if_neg h115).trans ((if_neg h46).trans (if_neg hA))
        rw [if_neg h46, Option.bind_some, hd]
        dsimp only
        rw [if_pos rfl, nar_0]
        exact ⟨_, rfl, hg3, fun z => Bool.noConfusion z⟩
