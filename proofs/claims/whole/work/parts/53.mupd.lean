/-! one number changed on both sides -/
theorem mF_inj : ∀ f, f < 8 → ∀ g, g < 8 → mF f = mF g → f = g := by decide
theorem mF_far : ∀ f, f < 8 → mF f ≠ 0 ∧ mF f ≠ 1 ∧ mF f ≠ 2 ∧ mF f ≠ 3 ∧ mF f ≠ 18 ∧ ¬ (7 ≤ mF f ∧ mF f < 19) ∧ (mF f = 24 → f = 7) := by decide
theorem mLw.us {σ : Nat → Nat → Int32} {W : Nat → List Nat} {s : Nat → Int32} {b j : Nat} {v : Int32} (h : mLw σ W s b) (hl : ∀ k, k < 3 → (W k).length ≤ 20) (h1 : ∀ sh, sh < 3 → j ≠ b + 11 + sh) (h2 : j < b + 174) : mLw σ W (us s j v) b := by
  intro sh hs
  refine ⟨?_, fun k p hk => ?_⟩
  · rw [us_ne _ _ (Ne.symm (h1 sh hs))]
    exact (h sh hs).1
  · rw [us_ne _ _ (by omega), us_ne _ _ (by omega), us_ne _ _ (by omega)]
    exact (h sh hs).2 k p hk
theorem mLw.ud {σ τ : Nat → Nat → Int32} {W : Nat → List Nat} {s : Nat → Int32} {b : Nat} (h : mLw σ W s b) (e : ∀ o j, 11 ≤ o → o < 18 → τ o j = σ o j) : mLw τ W s b := by
  intro sh hs
  refine ⟨(h sh hs).1, fun k p hk => ?_⟩
  rw [e _ _ (by omega) (by omega), e _ _ (by omega) (by omega)]
  exact (h sh hs).2 k p hk
theorem mR.person {σ : Nat → Nat → Int32} {W : Nat → List Nat} {U : Nat → Nat} {s : Nat → Int32} {b p f : Nat} {v : Int32} (h : mR σ W U s b) (hc : cW σ W) (hp : p < 20) (hf : f < 7) : mR (ud σ (mF f) p v) W U (us s (b + 14 + 8 * p + f) v) b := by
  obtain ⟨⟨a1, a2, a3, a4, a5⟩, ho, hl, hP⟩ := h
  obtain ⟨f0, f1, f2, f3, f18, f7, f24⟩ := mF_far f (by omega)
  refine ⟨⟨fun k hk => ?_, ?_, ?_, ?_, ?_⟩, fun k hk => ?_, ?_, fun q g hq hg => ?_⟩
  · rw [us_ne _ _ (by omega), ud_ne _ _ (fun z => f1 z.1.symm)]
    exact a1 k hk
  · rw [us_ne _ _ (by omega), ud_ne _ _ (fun z => f0 z.1.symm)]
    exact a2
  · rw [us_ne _ _ (by omega)]
    have : ud σ (mF f) p v 24 = σ 24 := by
      funext j
      exact ud_ne _ _ (fun z => by have := f24 z.1.symm; omega)
    rw [this]
    exact a3
  · rw [us_ne _ _ (by omega), ud_ne _ _ (fun z => f18 z.1.symm)]
    exact a4
  · rw [us_ne _ _ (by omega), ud_ne _ _ (fun z => f3 z.1.symm)]
    exact a5
  · rw [us_ne _ _ (by omega)]
    exact ho k hk
  · refine (hl.us (fun k hk => (hc k hk).len) (fun k hk => by omega) (by omega)).ud (fun o j h1 h2 => ud_ne _ _ (fun z => by omega))
  · by_cases e : q = p ∧ g = f
    · obtain ⟨rfl, rfl⟩ := e
      rw [us_eq, ud_eq]
    · rw [us_ne _ _ (by omega), ud_ne _ _ (fun z => e ⟨z.2, mF_inj g hg f (by omega) z.1⟩)]
      exact hP q g hq hg
theorem sumI_ud {g : Nat → Int32} {p : Nat} {v : Int32} : ∀ n, sumI (fun j => if j = p then g p + v else g j) n = if p < n then sumI g n + v else sumI g n
  | 0 => by
    rw [if_neg (by omega)]
    rfl
  | n + 1 => by
    show sumI (fun j => if j = p then g p + v else g j) n + (if n = p then g p + v else g n) = if p < n + 1 then (sumI g n + g n) + v else sumI g n + g n
    rw [sumI_ud n]
    by_cases h : n = p
    · subst h
      rw [if_neg (by omega), if_pos rfl, if_pos (by omega), Int32.add_assoc]
    · rw [if_neg h]
      by_cases h2 : p < n
      · rw [if_pos h2, if_pos (by omega), Int32.add_assoc, Int32.add_comm v, Int32.add_assoc]
      · rw [if_neg h2, if_neg (by omega)]
theorem mR.lost {σ : Nat → Nat → Int32} {W : Nat → List Nat} {U : Nat → Nat} {s : Nat → Int32} {b p : Nat} (h : mR σ W U s b) (hc : cW σ W) (hp : p < 20) : mR (ud σ 24 p (σ 24 p + 1)) W U (us (us s (b + 14 + 8 * p + 7) (s (b + 14 + 8 * p + 7) + 1)) (b + 5) (s (b + 5) + 1)) b := by
  obtain ⟨⟨a1, a2, a3, a4, a5⟩, ho, hl, hP⟩ := h
  refine ⟨⟨fun k hk => ?_, ?_, ?_, ?_, ?_⟩, fun k hk => ?_, ?_, fun q g hq hg => ?_⟩
  · rw [us_ne _ _ (by omega), us_ne _ _ (by omega), ud_ne _ _ (by omega)]
    exact a1 k hk
  · rw [us_ne _ _ (by omega), us_ne _ _ (by omega), ud_ne _ _ (by omega)]
    exact a2
  · rw [us_eq, a3]
    have : ud σ 24 p (σ 24 p + 1) 24 = (fun j => if j = p then σ 24 p + 1 else σ 24 j) := by
      funext j
      by_cases e : j = p
      · subst e
        rw [ud_eq, if_pos rfl]
      · rw [ud_col _ _ _ _ e, if_neg e]
    rw [this, sumI_ud, if_pos hp]
  · rw [us_ne _ _ (by omega), us_ne _ _ (by omega), ud_ne _ _ (by omega)]
    exact a4
  · rw [us_ne _ _ (by omega), us_ne _ _ (by omega), ud_ne _ _ (by omega)]
    exact a5
  · rw [us_ne _ _ (by omega), us_ne _ _ (by omega)]
    exact ho k hk
  · refine ((hl.us (fun k hk => (hc k hk).len) (fun k hk => by omega) (by omega)).us (fun k hk => (hc k hk).len) (fun k hk => by omega) (by omega)).ud (fun o j h1 h2 => ud_ne _ _ (fun z => by omega))
  · rw [us_ne _ _ (by omega)]
    by_cases e : q = p ∧ g = 7
    · obtain ⟨rfl, rfl⟩ := e
      rw [us_eq]
      show s (b + 14 + 8 * q + 7) + 1 = ud σ 24 q (σ 24 q + 1) 24 q
      rw [ud_eq, hP q 7 hq (by omega)]
      rfl
    · have hne : ¬ (mF g = 24 ∧ q = p) := fun z => e ⟨z.2, mF_inj g hg 7 (by omega) z.1⟩
      rw [us_ne _ _ (by omega), ud_ne _ _ hne]
      exact hP q g hq hg
/-- numbers of the state itself -/
theorem mR.own {σ : Nat → Nat → Int32} {W : Nat → List Nat} {U : Nat → Nat} {s : Nat → Int32} {b k o f : Nat} {v : Int32} (h : mR σ W U s b) (hc : cW σ W) (hk : (k < 4 ∧ o = 1 ∧ f = k) ∨ (k = 4 ∧ o = 0 ∧ f = 4) ∨ (k = 6 ∧ o = 18 ∧ f = 6) ∨ (k = 7 ∧ o = 3 ∧ f = 5)) : mR (ud σ o f v) W U (us s (b + k) v) b := by
  obtain ⟨⟨a1, a2, a3, a4, a5⟩, ho, hl, hP⟩ := h
  refine ⟨⟨fun i hi => ?_, ?_, ?_, ?_, ?_⟩, fun i hi => ?_, ?_, fun q g hq hg => ?_⟩
  · by_cases e : i = k
    · subst e
      rw [us_eq]
      have : o = 1 ∧ f = i := by omega
      obtain ⟨rfl, rfl⟩ := this
      rw [ud_eq]
    · rw [us_ne _ _ (by omega), ud_ne _ _ (by omega)]
      exact a1 i hi
  · by_cases e : k = 4
    · subst e
      have : o = 0 ∧ f = 4 := by omega
      obtain ⟨rfl, rfl⟩ := this
      rw [us_eq, ud_eq]
    · rw [us_ne _ _ (by omega), ud_ne _ _ (by omega)]
      exact a2
  · rw [us_ne _ _ (by omega)]
    have : ud σ o f v 24 = σ 24 := by
      funext j
      exact ud_ne _ _ (by omega)
    rw [this]
    exact a3
  · by_cases e : k = 6
    · subst e
      have : o = 18 ∧ f = 6 := by omega
      obtain ⟨rfl, rfl⟩ := this
      rw [us_eq, ud_eq]
    · rw [us_ne _ _ (by omega), ud_ne _ _ (by omega)]
      exact a4
  · by_cases e : k = 7
    · subst e
      have : o = 3 ∧ f = 5 := by omega
      obtain ⟨rfl, rfl⟩ := this
      rw [us_eq, ud_eq]
    · rw [us_ne _ _ (by omega), ud_ne _ _ (by omega)]
      exact a5
  · rw [us_ne _ _ (by omega)]
    exact ho i hi
  · refine (hl.us (fun k hk => (hc k hk).len) (fun i hi => by omega) (by omega)).ud (fun o' j h1 h2 => ud_ne _ _ (fun z => by omega))
  · obtain ⟨f0, f1, f2, f3, f18, f7, f24⟩ := mF_far g hg
    rw [us_ne _ _ (by omega), ud_ne _ _ (fun z => by omega)]
    exact hP q g hq hg
