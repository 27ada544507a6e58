/-! a row of the model stands for a state -/
def mA (σ : Nat → Nat → Int32) (s : Nat → Int32) (b : Nat) : Prop := (∀ k, k < 4 → s (b + k) = σ 1 k) ∧ s (b + 4) = σ 0 4 ∧ s (b + 5) = sumI (σ 24) 20 ∧ s (b + 6) = σ 18 6 ∧ s (b + 7) = σ 3 5
def mO (U : Nat → Nat) (s : Nat → Int32) (b : Nat) : Prop := ∀ k, k < 3 → s (b + 8 + k) = nI (255 ^^^ U k)
/-- the place in a state of a person's field -/
def mF : Nat → Nat
  | 0 => 4
  | 1 => 5
  | 2 => 19
  | 3 => 20
  | 4 => 21
  | 5 => 22
  | 6 => 23
  | _ => 24
def mP (σ : Nat → Nat → Int32) (s : Nat → Int32) (b : Nat) : Prop := ∀ p f, p < 20 → f < 8 → s (b + 14 + 8 * p + f) = σ (mF f) p
def mR (σ : Nat → Nat → Int32) (W : Nat → List Nat) (U : Nat → Nat) (s : Nat → Int32) (b : Nat) : Prop := mA σ s b ∧ mO U s b ∧ mLw σ W s b ∧ mP σ s b
theorem m_getsPermit {b p sh : Nat} {d : Int32} {W : Nat → List Nat} {M : xM} (hb : b ≤ 3186) (hp : p < 20) (h : ∀ sh, sh < 3 → mL (M.1 6 1) b sh (W sh) ∧ (W sh).Nodup ∧ (W sh).length ≤ 20 ∧ ∀ q ∈ W sh, q < 20) : f_X7_getsPermit (nI b) (nI p) (nI sh) d M = some (sp M (mLvs b p W (us (us (us (M.1 6 1) (b + 14 + 8 * p) (nI sh)) (b + 14 + 8 * p + 1) ((M.1 6 1 (b + 4) + d) - 1)) (b + 7) (M.1 6 1 (b + 7) + 1)) 3)) := by
  unfold f_X7_getsPermit
  have e1 : ∀ k, k ≤ 353 → b + k < 3540 := fun k hk => by omega
  simp only [m_personAt, Option.bind_some, show (4 : Int32) = nI 4 from rfl, show (7 : Int32) = nI 7 from rfl, nI_add, up_1, in_nI (show b + 14 + 8 * p < 3540 by omega) (by omega), in_nI (show b + 14 + 8 * p + 1 < 3540 by omega) (by omega), in_nI (show b + 4 < 3540 by omega) (by omega), in_nI (show b + 7 < 3540 by omega) (by omega), if_true, cl_nI (show b + 14 + 8 * p < 2 ^ 31 by omega), cl_nI (show b + 14 + 8 * p + 1 < 2 ^ 31 by omega), cl_nI (show b + 4 < 2 ^ 31 by omega), cl_nI (show b + 7 < 2 ^ 31 by omega), up_sp, sp_get, sp_sp]
  rw [us_ne _ _ (show b + 4 ≠ b + 14 + 8 * p by omega), us_ne _ _ (show b + 7 ≠ b + 14 + 8 * p + 1 by omega), us_ne _ _ (show b + 7 ≠ b + 14 + 8 * p by omega)]
  rw [m_leavesLists (W := W) hb hp (fun s hs => by
    obtain ⟨h1, h2, h3, h4⟩ := h s hs
    refine ⟨?_, h2, h3, h4⟩
    rw [sp_get]
    refine h1.congr h3 ?_ (fun j z1 z2 => ?_)
    · rw [us_ne _ _ (by omega), us_ne _ _ (by omega), us_ne _ _ (by omega)]
    · rw [us_ne _ _ (by omega), us_ne _ _ (by omega), us_ne _ _ (by omega)])]
  simp only [Option.bind_some, sp_get, sp_sp]
theorem zGive_at {p : Nat} {sh d dy : Int32} {σ : Nat → Nat → Int32} {o j : Nat} (h7 : ¬ (7 ≤ o ∧ o < 10)) : zGive p sh d dy σ o j = ud (ud (ud σ 4 p sh) 5 p ((dy + d) - 1)) 3 5 (σ 3 5 + 1) o j := by
  unfold zGive zLv
  rw [if_neg (by omega)]
theorem mR.give {σ : Nat → Nat → Int32} {W : Nat → List Nat} {U : Nat → Nat} {s : Nat → Int32} {b p : Nat} {sh : Int32} {d : Int32} (h : mR σ W U s b) (hc : cW σ W) (hp : p < 20) : mR (zGive p sh d (σ 0 4) σ) (fun s => rmv p (W s)) U (mLvs b p W (us (us (us s (b + 14 + 8 * p) sh) (b + 14 + 8 * p + 1) ((s (b + 4) + d) - 1)) (b + 7) (s (b + 7) + 1)) 3) b := by
  obtain ⟨⟨a1, a2, a3, a4, a5⟩, ho, hl, hP⟩ := h
  have hW : ∀ k, k < 3 → (W k).length ≤ 20 := fun k hk => (hc k hk).len
  have ne : ∀ t j, j < b + 11 ∨ (b + 14 ≤ j ∧ j < b + 174) → mLvs b p W t 3 j = t j := fun t j hj => mLvs_ne hW 3 (Nat.le_refl _) (fun k hk => by omega)
  have low : ∀ j, j < b + 14 → j ≠ b + 7 → us (us (us s (b + 14 + 8 * p) sh) (b + 14 + 8 * p + 1) ((s (b + 4) + d) - 1)) (b + 7) (s (b + 7) + 1) j = s j := fun j hj hn => by
    rw [us_ne _ _ hn, us_ne _ _ (by omega), us_ne _ _ (by omega)]
  refine ⟨⟨fun k hk => ?_, ?_, ?_, ?_, ?_⟩, fun k hk => ?_, ?_, fun q f hq hf => ?_⟩
  · rw [ne _ _ (by omega), low _ (by omega) (by omega), zGive_other (by omega) (by omega) (by omega) (by omega)]
    exact a1 k hk
  · rw [ne _ _ (by omega), low _ (by omega) (by omega), zGive_other (by omega) (by omega) (by omega) (by omega)]
    exact a2
  · rw [ne _ _ (by omega), low _ (by omega) (by omega)]
    have : zGive p sh d (σ 0 4) σ 24 = σ 24 := by
      funext j
      exact zGive_other (by omega) (by omega) (by omega) (by omega)
    rw [this]
    exact a3
  · rw [ne _ _ (by omega), low _ (by omega) (by omega), zGive_other (by omega) (by omega) (by omega) (by omega)]
    exact a4
  · rw [ne _ _ (by omega), us_eq, zGive_at (by omega), ud_eq, a5]
  · rw [ne _ _ (by omega), low _ (by omega) (by omega)]
    exact ho k hk
  · refine mLw.leave (σ := σ) (fun k hk => ?_) hc (fun k q hk => ⟨zGive_other (by omega) (by omega) (by omega) (by omega), zGive_other (by omega) (by omega) (by omega) (by omega)⟩)
    refine ⟨?_, fun i q hi => ?_⟩
    · rw [low _ (by omega) (by omega)]
      exact (hl k hk).1
    · have := (List.getElem?_eq_some_iff.mp hi).1
      have := hW k hk
      have hh : ∀ j, b + 174 ≤ j → us (us (us s (b + 14 + 8 * p) sh) (b + 14 + 8 * p + 1) ((s (b + 4) + d) - 1)) (b + 7) (s (b + 7) + 1) j = s j := fun j hj => by
        rw [us_ne _ _ (by omega), us_ne _ _ (by omega), us_ne _ _ (by omega)]
      rw [hh _ (by omega), hh _ (by omega), hh _ (by omega)]
      exact (hl k hk).2 i q hi
  · rw [ne _ _ (by omega), us_ne _ _ (by omega)]
    have hbase := hP q f hq hf
    by_cases hf0 : f = 0
    · subst hf0
      show us (us s (b + 14 + 8 * p) sh) _ _ (b + 14 + 8 * q + 0) = zGive p sh d (σ 0 4) σ 4 q
      rw [us_ne _ _ (by omega), zGive_at (by omega), ud_ne _ _ (by omega), ud_ne _ _ (by omega)]
      by_cases hpq : q = p
      · subst hpq
        rw [ud_eq]
        exact us_eq _ _ _
      · rw [ud_col _ _ _ _ hpq, us_ne _ _ (by omega)]
        exact hbase
    · by_cases hf1 : f = 1
      · subst hf1
        show us (us s (b + 14 + 8 * p) sh) _ _ (b + 14 + 8 * q + 1) = zGive p sh d (σ 0 4) σ 5 q
        rw [zGive_at (by omega), ud_ne _ _ (by omega)]
        by_cases hpq : q = p
        · subst hpq
          rw [ud_eq, us_eq, a2]
        · rw [ud_col _ _ _ _ hpq, us_ne _ _ (by omega), us_ne _ _ (by omega), ud_ne _ _ (by omega)]
          exact hbase
      · have hmf : mF f ≠ 3 ∧ mF f ≠ 4 ∧ mF f ≠ 5 ∧ ¬ (7 ≤ mF f ∧ mF f < 10) := by
          have : ∀ f, f < 8 → f ≠ 0 → f ≠ 1 → mF f ≠ 3 ∧ mF f ≠ 4 ∧ mF f ≠ 5 ∧ ¬ (7 ≤ mF f ∧ mF f < 10) := by decide
          exact this f hf hf0 hf1
        rw [zGive_other hmf.1 hmf.2.1 hmf.2.2.1 hmf.2.2.2, us_ne _ _ (by omega), us_ne _ _ (by omega)]
        exact hbase
