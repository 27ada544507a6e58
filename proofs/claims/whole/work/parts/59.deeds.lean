/-! a deed in both -/
def opOK (D T : Nat) (C : xM → Option (Int32 × xM)) (E : xM → Option Int32) (F : xM → Option (Int32 × xM)) : Prop := ∀ M M' : xM, gS D T (M.1 2) (M'.1 6 1) 0 → (∃ e, e < 0 ∧ C M = some (e, M) ∧ E M' = some e) ∨ (E M' = some 0 ∧ ∃ ans τ, ¬ ans < 0 ∧ C M = some (ans, put M 2 τ) ∧ ∀ M'' : xM, mAg (M'.1 6 1) (M''.1 6 1) 0 → ∃ t, F M'' = some (ans, sp M'' t) ∧ gS D T τ t 0 ∧ mFr (M''.1 6 1) t 0)
theorem i_neg1 : (-1 : Int32) < 0 := by decide
theorem i_neg2 : (-2 : Int32) < 0 := by decide
theorem i_neg3 : (-3 : Int32) < 0 := by decide
theorem i_neg4 : (-4 : Int32) < 0 := by decide
theorem i_neg5 : (-5 : Int32) < 0 := by decide
theorem i_zero : ¬ (0 : Int32) < 0 := by decide
/-- what the model reads of a person in row 0 -/
theorem row0 {σ : Nat → Nat → Int32} {s : Nat → Int32} {p f : Nat} (h : mP σ s 0) (hp : p < 20) (hf : f < 8) : s (14 + 8 * p + f) = σ (mF f) p := by
  have := h p f hp hf
  rw [Nat.zero_add] at this
  exact this
theorem row00 {σ : Nat → Nat → Int32} {s : Nat → Int32} {p : Nat} (h : mP σ s 0) (hp : p < 20) : s (14 + 8 * p) = σ 4 p := row0 (f := 0) h hp (by omega)
theorem fnd_6 {p : Nat} {l : List Nat} (hn : l.Nodup) (hl : l.length ≤ 20) : (fnd p l l.length = -6) = (p ∉ l) := by
  by_cases h : p ∈ l
  · refine (eq_false ?_).trans (eq_false (fun z => z h)).symm
    obtain ⟨i, hi⟩ := List.getElem?_of_mem h
    have hlt : i < l.length := by
      rcases Nat.lt_or_ge i l.length with z | z
      · exact z
      · rw [List.getElem?_eq_none z] at hi
        cases hi
    rw [fnd_in hn hi _ hlt]
    exact nI_ne6 (by omega)
  · exact (eq_true (fnd_out h _)).trans (eq_true h).symm
theorem rg3_perm {x : Int32} (h : x = -6 ∨ rg 3 x = true) : rg 3 x = !decide (x = -6) := by
  rcases h with h | h
  · rw [h, rg_6]
    rfl
  · rw [h, decide_eq_false (rg_not6 h)]
    rfl
theorem op_ask {D T : Nat} (hT : D + 99 ≤ T) (x y z : Int32) : opOK D T (f_X5_askFor 2 x y z) (f_X7_askError x y z) (f_X7_asksFor 0 x y z) := by
  rintro M M' ⟨W, U, sq, d, kp, nt, hR, hA⟩
  by_cases hx : rg 20 x = true
  · obtain ⟨p, hp, rfl⟩ := (rg_iff (by omega)).mp hx
    by_cases hy : rg 3 y = true
    · obtain ⟨sh, hs, rfl⟩ := (rg_iff (by omega)).mp hy
      by_cases hz : (!decide (z < 1) && !decide (99 < z)) = true
      · obtain ⟨a, ha, ha2, rfl⟩ := (frm_nI (a := 1) (b := 99) (by omega) (by omega)).mp hz
        have hw := (hA.1 sh hs).out hp
        have e4 := row00 hR.2.2.2 hp
        have hlen := (hA.1 sh hs).len
        have ep : f_X7_placeOf 0 (nI sh) (nI p) M' = some (fnd p (W sh) (W sh).length) := m_placeOf (b := 0) (p := p) (by omega) hs hlen hp (hA.1 sh hs).2.1 (hR.2.2.1.mL hs)
        by_cases h6 : M.1 2 4 p = -6
        · by_cases hm : p ∈ W sh
          · left
            refine ⟨-5, i_neg5, ?_, ?_⟩
            · unfold f_X5_askFor
              simp only [c_isPerson, c_isShed, c_isFrom, c_hasPermit hp, c_waitsFor hp hs, hx, hy, hz, h6, rg_6, decide_eq_false (fun e => absurd hm (hw.mp e)), Bool.not_false, Option.bind_some, ite_bI, if_true, Bool.false_eq_true, if_false]
            · unfold f_X7_askError
              simp only [m_isPerson, m_isShed, m_areDays, m_hasPermit hp, ep, hx, hy, hz, e4, h6, decide_true, Bool.not_true, Option.bind_some, ite_bI, if_true, Bool.false_eq_true, if_false, fnd_6 (hA.1 sh hs).1 hlen, hm, not_true_eq_false]
          · right
            refine ⟨?_, ?_⟩
            · unfold f_X7_askError
              simp only [m_isPerson, m_isShed, m_areDays, m_hasPermit hp, ep, hx, hy, hz, e4, h6, decide_true, Bool.not_true, Option.bind_some, ite_bI, if_true, Bool.false_eq_true, if_false, fnd_6 (hA.1 sh hs).1 hlen, hm, not_false_eq_true]
            · rw [c_askFor hA hp hs ha ha2 h6 hm]
              by_cases hc : cnt (fun p => decide (M.1 2 4 p = nI sh)) 20 < pcnt (U sh) + sq ∧ W sh = []
              · rw [if_pos hc]
                refine ⟨_, _, i_zero, rfl, fun M'' hg => ?_⟩
                obtain ⟨t, t1, t2, t3⟩ := (m_asksFor (b := 0) (p := p) (a := a) (M := M'') (by omega) (hR.agree hA.1 hg) hA hp hs hm).1 hc
                exact ⟨t, t1, ⟨_, _, _, _, _, _, t2, hA.give hT hp hs ha ha2⟩, t3⟩
              · rw [if_neg hc]
                refine ⟨_, _, nI_pos (by omega), rfl, fun M'' hg => ?_⟩
                obtain ⟨t, t1, t2, t3⟩ := (m_asksFor (b := 0) (p := p) (a := a) (M := M'') (by omega) (hR.agree hA.1 hg) hA hp hs hm).2 hc
                exact ⟨t, t1, ⟨_, _, _, _, _, _, t2, hA.queue hp hs ha ha2 h6 hm⟩, t3⟩
        · left
          have hr : rg 3 (M.1 2 4 p) = true := (hA.2.2.2.1.2.2.2.2.1 p hp).resolve_left h6
          refine ⟨-5, i_neg5, ?_, ?_⟩
          · unfold f_X5_askFor
            simp only [c_isPerson, c_isShed, c_isFrom, c_hasPermit hp, hx, hy, hz, hr, Option.bind_some, ite_bI, if_true]
          · unfold f_X7_askError
            simp only [m_isPerson, m_isShed, m_areDays, m_hasPermit hp, hx, hy, hz, e4, decide_eq_false h6, Bool.not_false, Option.bind_some, ite_bI, if_true]
      · left
        refine ⟨-2, i_neg2, ?_, ?_⟩
        · unfold f_X5_askFor
          simp only [c_isPerson, c_isShed, c_isFrom, hx, hy, hz, Option.bind_some, ite_bI, if_true, Bool.false_eq_true, if_false]
        · unfold f_X7_askError
          simp only [m_isPerson, m_isShed, m_areDays, hx, hy, hz, Option.bind_some, ite_bI, if_true, Bool.false_eq_true, if_false]
    · left
      refine ⟨-1, i_neg1, ?_, ?_⟩
      · unfold f_X5_askFor
        simp only [c_isPerson, c_isShed, hx, hy, Option.bind_some, ite_bI, if_true, Bool.false_eq_true, if_false]
      · unfold f_X7_askError
        simp only [m_isPerson, m_isShed, hx, hy, Option.bind_some, ite_bI, if_true, Bool.false_eq_true, if_false]
  · left
    refine ⟨-1, i_neg1, ?_, ?_⟩
    · unfold f_X5_askFor
      simp only [c_isPerson, hx, Option.bind_some, ite_bI, Bool.false_eq_true, if_false]
    · unfold f_X7_askError
      simp only [m_isPerson, hx, Option.bind_some, ite_bI, Bool.false_eq_true, if_false]
