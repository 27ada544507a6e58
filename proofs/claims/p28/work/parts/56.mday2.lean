/-! the model's days -/
theorem aI_1 (a : Nat) : nI a + (1 : Int32) = nI (a + 1) := nI_add a 1
theorem aI_2 (a : Nat) : nI a + (2 : Int32) = nI (a + 2) := nI_add a 2
theorem aI_3 (a : Nat) : nI a + (3 : Int32) = nI (a + 3) := nI_add a 3
theorem aI_4 (a : Nat) : nI a + (4 : Int32) = nI (a + 4) := nI_add a 4
theorem aI_5 (a : Nat) : nI a + (5 : Int32) = nI (a + 5) := nI_add a 5
theorem aI_6 (a : Nat) : nI a + (6 : Int32) = nI (a + 6) := nI_add a 6
theorem aI_7 (a : Nat) : nI a + (7 : Int32) = nI (a + 7) := nI_add a 7
theorem aI_8 (a : Nat) : nI a + (8 : Int32) = nI (a + 8) := nI_add a 8
theorem aI_11 (a : Nat) : nI a + (11 : Int32) = nI (a + 11) := nI_add a 11
theorem bI_8 (a : Nat) : (8 : Int32) + nI a = nI (8 + a) := nI_add 8 a
theorem bI_11 (a : Nat) : (11 : Int32) + nI a = nI (11 + a) := nI_add 11 a
theorem lt_3 {k : Nat} (h : k < 3) : (nI k < (3 : Int32)) = True := lt_nI (n := 3) h (by omega)
theorem lt_6 {k : Nat} (h : k < 6) : (nI k < (6 : Int32)) = True := lt_nI (n := 6) h (by omega)
theorem lt_8 {k : Nat} (h : k < 8) : (nI k < (8 : Int32)) = True := lt_nI (n := 8) h (by omega)
theorem lt_20 {k : Nat} (h : k < 20) : (nI k < (20 : Int32)) = True := lt_nI (n := 20) h (by omega)
theorem lt_60 {k : Nat} (h : k < 60) : (nI k < (60 : Int32)) = True := lt_nI (n := 60) h (by omega)
theorem lt_300 {k : Nat} (h : k < 300) : (nI k < (300 : Int32)) = True := lt_nI (n := 300) h (by omega)
theorem lt_354 {k : Nat} (h : k < 354) : (nI k < (354 : Int32)) = True := lt_nI (n := 354) h (by omega)
theorem zDF_at {σ : Nat → Nat → Int32} {k o : Nat} : zDF σ o k = (if o = 23 then (if ¬ σ 23 k = -6 ∧ ¬ σ 0 4 + 1 - σ 1 3 < σ 23 k then -6 else σ 23 k) else if o = 24 then (if ¬ σ 23 k = -6 ∧ ¬ σ 0 4 + 1 - σ 1 3 < σ 23 k then σ 24 k + 1 else σ 24 k) else if o = 4 then (if rg 3 (σ 4 k) = true ∧ σ 5 k < σ 0 4 + 1 then -6 else σ 4 k) else if o = 5 then (if rg 3 (σ 4 k) = true ∧ σ 5 k < σ 0 4 + 1 then -6 else σ 5 k) else ud σ 0 4 (σ 0 4 + 1) o k) := by
  have e23 : zEnd (σ 0 4 + 1) (ud σ 0 4 (σ 0 4 + 1)) 23 k = σ 23 k := by rw [zEnd_other (by omega) (by omega), ud_ne _ _ (by omega)]
  have e24 : zEnd (σ 0 4 + 1) (ud σ 0 4 (σ 0 4 + 1)) 24 k = σ 24 k := by rw [zEnd_other (by omega) (by omega), ud_ne _ _ (by omega)]
  have e4 : ud σ 0 4 (σ 0 4 + 1) 4 k = σ 4 k := ud_ne _ _ (by omega)
  have e5 : ud σ 0 4 (σ 0 4 + 1) 5 k = σ 5 k := ud_ne _ _ (by omega)
  by_cases h23 : o = 23
  · subst h23
    rw [if_pos rfl]
    unfold zDF zSell
    rw [e23, if_pos rfl]
  · rw [if_neg h23]
    by_cases h24 : o = 24
    · subst h24
      rw [if_pos rfl]
      unfold zDF zSell
      rw [e23, e24]
      by_cases h : ¬ σ 23 k = -6 ∧ ¬ σ 0 4 + 1 - σ 1 3 < σ 23 k
      · rw [if_pos h, if_pos h, if_neg (by omega), if_pos rfl]
      · rw [if_neg h, if_neg h]
    · rw [if_neg h24]
      have : zDF σ o k = zEnd (σ 0 4 + 1) (ud σ 0 4 (σ 0 4 + 1)) o k := zSell_other h23 h24
      rw [this]
      unfold zEnd
      rw [e4, e5]
      by_cases h4 : o = 4
      · subst h4
        rw [if_pos rfl, e4]
        by_cases h : rg 3 (σ 4 k) = true ∧ σ 5 k < σ 0 4 + 1
        · rw [if_pos ⟨Or.inl rfl, h⟩, if_pos h]
        · rw [if_neg (fun z => h z.2), if_neg h]
      · rw [if_neg h4]
        by_cases h5 : o = 5
        · subst h5
          rw [if_pos rfl, e5]
          by_cases h : rg 3 (σ 4 k) = true ∧ σ 5 k < σ 0 4 + 1
          · rw [if_pos ⟨Or.inr rfl, h⟩, if_pos h]
          · rw [if_neg (fun z => h z.2), if_neg h]
        · rw [if_neg h5, if_neg (fun z => by omega)]
/-- a person's permit, as a day begins -/
def zEnd1 (d : Int32) (τ : Nat → Nat → Int32) (p : Nat) : Nat → Nat → Int32 := if rg 3 (τ 4 p) = true ∧ τ 5 p < d then ud (ud τ 4 p (-6)) 5 p (-6) else τ
theorem zEnd1_other {d : Int32} {τ : Nat → Nat → Int32} {p o j : Nat} (h : ¬ (o = 4 ∧ j = p)) (h2 : ¬ (o = 5 ∧ j = p)) : zEnd1 d τ p o j = τ o j := by
  unfold zEnd1
  split
  · rw [ud_ne _ _ h2, ud_ne _ _ h]
  · rfl
theorem zDF_step {σ : Nat → Nat → Int32} {k : Nat} : zSell1 (σ 0 4 + 1 - σ 1 3) (zEnd1 (σ 0 4 + 1) (pm (ud σ 0 4 (σ 0 4 + 1)) (zDF σ) k) k) k = pm (ud σ 0 4 (σ 0 4 + 1)) (zDF σ) (k + 1) := by
  have at0 : ∀ o, o ≠ 0 → pm (ud σ 0 4 (σ 0 4 + 1)) (zDF σ) k o k = σ o k := fun o ho => by rw [pm_at, ud_ne _ _ (by omega)]
  have at1 : ∀ o, o ≠ 4 → o ≠ 5 → zEnd1 (σ 0 4 + 1) (pm (ud σ 0 4 (σ 0 4 + 1)) (zDF σ) k) k o k = pm (ud σ 0 4 (σ 0 4 + 1)) (zDF σ) k o k := fun o h4 h5 => zEnd1_other (fun z => h4 z.1) (fun z => h5 z.1)
  refine pm_next _ _ _ k (fun o => ?_) (fun o j hj => ?_)
  · rw [zDF_at]
    unfold zSell1
    rw [at1 23 (by omega) (by omega), at1 24 (by omega) (by omega), at0 23 (by omega), at0 24 (by omega)]
    by_cases h : ¬ σ 23 k = -6 ∧ ¬ σ 0 4 + 1 - σ 1 3 < σ 23 k
    · rw [if_pos h, if_pos h, if_pos h]
      by_cases h24 : o = 24
      · subst h24
        rw [ud_eq, if_neg (by omega), if_pos rfl]
      · rw [ud_ne _ _ (fun z => h24 z.1), if_neg h24]
        by_cases h23 : o = 23
        · subst h23
          rw [ud_eq, if_pos rfl]
        · rw [ud_ne _ _ (fun z => h23 z.1), if_neg h23]
          unfold zEnd1
          rw [at0 4 (by omega), at0 5 (by omega)]
          by_cases g : rg 3 (σ 4 k) = true ∧ σ 5 k < σ 0 4 + 1
          · rw [if_pos g, if_pos g, if_pos g]
            by_cases h5 : o = 5
            · subst h5
              rw [ud_eq, if_neg (by omega), if_pos rfl]
            · rw [ud_ne _ _ (fun z => h5 z.1), if_neg h5]
              by_cases h4 : o = 4
              · subst h4
                rw [ud_eq, if_pos rfl]
              · rw [ud_ne _ _ (fun z => h4 z.1), if_neg h4, pm_at]
          · rw [if_neg g, if_neg g, if_neg g, pm_at]
            by_cases h4 : o = 4
            · subst h4
              rw [if_pos rfl, ud_ne _ _ (by omega)]
            · rw [if_neg h4]
              by_cases h5 : o = 5
              · subst h5
                rw [if_pos rfl, ud_ne _ _ (by omega)]
              · rw [if_neg h5]
    · rw [if_neg h, if_neg h, if_neg h]
      have e : (if o = 23 then σ 23 k else if o = 24 then σ 24 k else if o = 4 then (if rg 3 (σ 4 k) = true ∧ σ 5 k < σ 0 4 + 1 then -6 else σ 4 k) else if o = 5 then (if rg 3 (σ 4 k) = true ∧ σ 5 k < σ 0 4 + 1 then -6 else σ 5 k) else ud σ 0 4 (σ 0 4 + 1) o k) = (if o = 4 then (if rg 3 (σ 4 k) = true ∧ σ 5 k < σ 0 4 + 1 then -6 else σ 4 k) else if o = 5 then (if rg 3 (σ 4 k) = true ∧ σ 5 k < σ 0 4 + 1 then -6 else σ 5 k) else ud σ 0 4 (σ 0 4 + 1) o k) := by
        by_cases h23 : o = 23
        · subst h23
          rw [if_pos rfl, if_neg (by omega), if_neg (by omega), ud_ne _ _ (by omega)]
        · rw [if_neg h23]
          by_cases h24 : o = 24
          · subst h24
            rw [if_pos rfl, if_neg (by omega), if_neg (by omega), ud_ne _ _ (by omega)]
          · rw [if_neg h24]
      rw [e]
      unfold zEnd1
      rw [at0 4 (by omega), at0 5 (by omega)]
      by_cases g : rg 3 (σ 4 k) = true ∧ σ 5 k < σ 0 4 + 1
      · rw [if_pos g, if_pos g, if_pos g]
        by_cases h5 : o = 5
        · subst h5
          rw [ud_eq, if_neg (by omega), if_pos rfl]
        · rw [ud_ne _ _ (fun z => h5 z.1), if_neg h5]
          by_cases h4 : o = 4
          · subst h4
            rw [ud_eq, if_pos rfl]
          · rw [ud_ne _ _ (fun z => h4 z.1), if_neg h4, pm_at]
      · rw [if_neg g, if_neg g, if_neg g, pm_at]
        by_cases h4 : o = 4
        · subst h4
          rw [if_pos rfl, ud_ne _ _ (by omega)]
        · rw [if_neg h4]
          by_cases h5 : o = 5
          · subst h5
            rw [if_pos rfl, ud_ne _ _ (by omega)]
          · rw [if_neg h5]
  · have e1 : zEnd1 (σ 0 4 + 1) (pm (ud σ 0 4 (σ 0 4 + 1)) (zDF σ) k) k o j = pm (ud σ 0 4 (σ 0 4 + 1)) (zDF σ) k o j := zEnd1_other (fun z => hj z.2) (fun z => hj z.2)
    unfold zSell1
    split
    · rw [ud_col _ _ _ _ hj, ud_col _ _ _ _ hj, e1]
    · exact e1
theorem pmDF_at {σ : Nat → Nat → Int32} {k o j : Nat} (h4 : o ≠ 4) (h5 : o ≠ 5) (h6 : o ≠ 23) (h7 : o ≠ 24) : pm (ud σ 0 4 (σ 0 4 + 1)) (zDF σ) k o j = ud σ 0 4 (σ 0 4 + 1) o j := pm_same (zDF_other h4 h5 h6 h7)
