/-! what would be: the best shed, a sweep -/
def wv (b0 b1 b2 : Bool) : Int32 :=
  let x0 : Int32 := if b0 = true then 0 ||| ((1 : Int32) <<< (nI 0 &&& 31)) else 0
  let x1 : Int32 := if b1 = true then x0 ||| ((1 : Int32) <<< (nI 1 &&& 31)) else x0
  if b2 = true then x1 ||| ((1 : Int32) <<< (nI 2 &&& 31)) else x1
theorem wv_0 : ∀ b0 b1 b2, wv b0 b1 b2 = 0 → b0 = false ∧ b1 = false ∧ b2 = false := by decide +kernel
theorem zWait_0 {σ : Nat → Nat → Int32} {W : Nat → List Nat} {p : Nat} (hc : cW σ W) (hp : p < 20) (h : zWait σ p 3 = 0) : ∀ k, k < 3 → p ∉ W k := by
  have e : wv (!decide (σ (7 + 0) p = -6)) (!decide (σ (7 + 1) p = -6)) (!decide (σ (7 + 2) p = -6)) = 0 := h
  obtain ⟨h0, h1, h2⟩ := wv_0 _ _ _ e
  intro k hk
  refine ((hc k hk).out hp).mp ?_
  rcases (by omega : k = 0 ∨ k = 1 ∨ k = 2) with rfl | rfl | rfl
  · exact of_decide_eq_true (by rw [Bool.not_eq_false'] at h0; exact h0)
  · exact of_decide_eq_true (by rw [Bool.not_eq_false'] at h1; exact h1)
  · exact of_decide_eq_true (by rw [Bool.not_eq_false'] at h2; exact h2)
/-- the best so far -/
def bsN (w : Nat → Int32) : Nat → Int32 × Int32
  | 0 => (-6, -6)
  | k + 1 => if w k ≠ -6 ∧ ((bsN w k).1 = -6 ∨ w k < (bsN w k).2) then (nI k, w k) else bsN w k
