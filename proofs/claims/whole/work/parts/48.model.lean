/-! the model's memory -/
def us (s : Nat → Int32) (j : Nat) (v : Int32) : Nat → Int32 := fun j' => if j' = j then v else s j'
def sp (M : xM) (s : Nat → Int32) : xM := (fun r o => if r = 6 ∧ o = 1 then s else M.1 r o, M.2)
theorem up_sp (M : xM) (j : Nat) (v : Int32) : xd_up M 6 1 j v = sp M (us (M.1 6 1) j v) := by
  refine Prod.ext ?_ rfl
  funext r' o' j'
  show (if r' = 6 ∧ o' = 1 ∧ j' = j then v else M.1 r' o' j') = (if r' = 6 ∧ o' = 1 then us (M.1 6 1) j v else M.1 r' o') j'
  by_cases h : r' = 6 ∧ o' = 1
  · obtain ⟨rfl, rfl⟩ := h
    have e : (if (6 : Nat) = 6 ∧ (1 : Nat) = 1 then us (M.1 6 1) j v else M.1 6 1) = us (M.1 6 1) j v := if_pos ⟨rfl, rfl⟩
    rw [e]
    unfold us
    by_cases h2 : j' = j
    · rw [if_pos ⟨rfl, rfl, h2⟩, if_pos h2]
    · rw [if_neg (fun z => h2 z.2.2), if_neg h2]
  · rw [if_neg h, if_neg (fun z => h ⟨z.1, z.2.1⟩)]
theorem sp_get (M : xM) (s : Nat → Int32) : (sp M s).1 6 1 = s := by
  show (if (6 : Nat) = 6 ∧ (1 : Nat) = 1 then s else M.1 6 1) = s
  exact if_pos ⟨rfl, rfl⟩
theorem sp_sp (M : xM) (s t : Nat → Int32) : sp (sp M s) t = sp M t := by
  refine Prod.ext ?_ rfl
  funext r' o'
  show (if r' = 6 ∧ o' = 1 then t else if r' = 6 ∧ o' = 1 then s else M.1 r' o') = _
  by_cases h : r' = 6 ∧ o' = 1
  · rw [if_pos h]
    exact (if_pos h).symm
  · rw [if_neg h, if_neg h]
    exact (if_neg h).symm
theorem sp_self (M : xM) : sp M (M.1 6 1) = M := by
  refine Prod.ext ?_ rfl
  funext r' o'
  show (if r' = 6 ∧ o' = 1 then M.1 6 1 else M.1 r' o') = M.1 r' o'
  by_cases h : r' = 6 ∧ o' = 1
  · rw [if_pos h, h.1, h.2]
  · rw [if_neg h]
theorem us_eq (s : Nat → Int32) (j : Nat) (v : Int32) : us s j v j = v := if_pos rfl
theorem us_ne (s : Nat → Int32) {j j' : Nat} (v : Int32) (h : j' ≠ j) : us s j v j' = s j' := if_neg h
/-- the row from b on stands for the state σ with the wait lists W -/
def mR (σ : Nat → Nat → Int32) (W : Nat → List Nat) (s : Nat → Int32) (b : Nat) : Prop :=
  ((∀ k, k < 4 → s (b + k) = σ 1 k) ∧ s (b + 4) = σ 0 4 ∧ s (b + 5) = sumI (σ 24) 20 ∧ s (b + 6) = σ 18 6 ∧ s (b + 7) = σ 3 5) ∧
  (∀ k, k < 3 → ∃ u, u < 256 ∧ σ 2 k = nI u ∧ s (b + 8 + k) = nI (255 ^^^ u)) ∧
  (∀ sh, sh < 3 → s (b + 11 + sh) = nI (W sh).length ∧ ∀ k p, (W sh)[k]? = some p → s (b + 174 + 3 * (20 * sh + k)) = nI p ∧ s (b + 174 + 3 * (20 * sh + k) + 1) = σ (11 + sh) p ∧ s (b + 174 + 3 * (20 * sh + k) + 2) = σ (15 + sh) p) ∧
  (∀ p, p < 20 → s (b + 14 + 8 * p) = σ 4 p ∧ s (b + 14 + 8 * p + 1) = σ 5 p ∧ s (b + 14 + 8 * p + 2) = σ 19 p ∧ s (b + 14 + 8 * p + 3) = σ 20 p ∧ s (b + 14 + 8 * p + 4) = σ 21 p ∧ s (b + 14 + 8 * p + 5) = σ 22 p ∧ s (b + 14 + 8 * p + 6) = σ 23 p ∧ s (b + 14 + 8 * p + 7) = σ 24 p)
/-- the model's tests of numbers -/
theorem m_in {x : Int32} {a b : Nat} (M : xM) (ha : a < 2 ^ 31) (hb : b < 2 ^ 31) : f_X7_in x.toInt64 (nI a).toInt64 (nI b).toInt64 M = some (bI (!decide (x < nI a) && !decide (nI b < x))) := by
  sorry
