/-! a day begins, in the model -/
theorem sub_toInt {a b : Nat} (ha : a < 2 ^ 30) (hb : b < 2 ^ 30) : (nI a - nI b).toInt = (a : Int) - b := by
  rw [Int32.toInt_sub, nI_toInt (by omega), nI_toInt (by omega)]
  rw [Int.bmod_eq_of_le (by omega) (by omega)]
theorem sub_lt {a b c : Nat} (ha : a < 2 ^ 30) (hb : b < 2 ^ 30) (hc : c < 2 ^ 30) : nI a - nI b < nI c ↔ (a : Int) - b < c := by
  rw [Int32.lt_iff_toInt_lt, sub_toInt ha hb, nI_toInt (by omega)]
/-- days, permits and the pound as they may stand; d the day, kp the days that the pound keeps -/
def cV (σ : Nat → Nat → Int32) (d kp : Nat) : Prop := σ 0 4 = nI d ∧ d ≤ 20000 ∧ σ 1 3 = nI kp ∧ kp ≤ 99 ∧ (∀ p, p < 20 → σ 4 p = -6 ∨ rg 3 (σ 4 p) = true) ∧ ∀ p, p < 20 → σ 23 p = -6 ∨ ∃ k, k ≤ d ∧ σ 23 p = nI k
theorem rg_not6 {x : Int32} (h : rg 3 x = true) : ¬ x = -6 := fun e => by
  rw [e, rg_6] at h
  cases h
def zDF (σ : Nat → Nat → Int32) (o j : Nat) : Int32 := zSell (σ 0 4 + 1 - σ 1 3) (zEnd (σ 0 4 + 1) (ud σ 0 4 (σ 0 4 + 1))) o j
theorem zDay0_pm (σ : Nat → Nat → Int32) : zDay0 σ = pm (ud σ 0 4 (σ 0 4 + 1)) (zDF σ) 20 := by
  funext o j
  unfold zDay0 zDF pm
  by_cases hj : j < 20
  · simp only [zSell, if_pos hj]
  · rw [if_neg hj, if_neg hj, if_neg hj]
theorem zDF_other {σ : Nat → Nat → Int32} {o j : Nat} (h4 : o ≠ 4) (h5 : o ≠ 5) (h6 : o ≠ 23) (h7 : o ≠ 24) : zDF σ o j = ud σ 0 4 (σ 0 4 + 1) o j := (zSell_other h6 h7).trans (zEnd_other h4 h5)
theorem zDay0_N {σ : Nat → Nat → Int32} {W : Nat → List Nat} (h : cN σ W) : cN (zDay0 σ) W := by
  intro sh hs q hq
  have h6 := h sh hs q hq
  have e1 : ud σ 0 4 (σ 0 4 + 1) 4 q = -6 := (ud_ne _ _ (by omega)).trans h6
  rw [zDay0_pm]
  unfold pm
  split
  · unfold zDF
    rw [zSell_other (by omega) (by omega)]
    unfold zEnd
    split
    · rfl
    · exact e1
  · exact e1
def zSell1 (ld : Int32) (τ : Nat → Nat → Int32) (p : Nat) : Nat → Nat → Int32 := if ¬ τ 23 p = -6 ∧ ¬ ld < τ 23 p then ud (ud τ 23 p (-6)) 24 p (τ 24 p + 1) else τ
