/-! the model's memory -/
def us (s : Nat → Int32) (j : Nat) (v : Int32) : Nat → Int32 := fun j' => if j' = j then v else s j'
def sp (M : xM) (s : Nat → Int32) : xM := (fun r o => if r = 6 ∧ o = 1 then s else M.1 r o, M.2)
theorem up_sp (M : xM) (j : Nat) (v : Int32) : xd_up M 6 1 j v = sp M (us (M.1 6 1) j v) := by
  refine Prod.ext ?_ rfl
  funext r' o' j'
  show (if r' = 6 ∧ o' = 1 ∧ j' = j then v else M.1 r' o' j') = (if r' = 6 ∧ o' = 1 then us (M.1 6 1) j v else M.1 r' o') j'
  by_cases h : r' = 6 ∧ o' = 1
  · obtain ⟨rfl, rfl⟩ := h
    have e : (if (6 : Nat) = 6 ∧ (1 : Nat) = 1 then us (M.1 6 1) j v else M.1 6 1) = us (M.1 6 1) j v := if_pos ⟨rfl, rfl⟩
    rw [e]
    unfold us
    by_cases h2 : j' = j
    · rw [if_pos ⟨rfl, rfl, h2⟩, if_pos h2]
    · rw [if_neg (fun z => h2 z.2.2), if_neg h2]
  · rw [if_neg h, if_neg (fun z => h ⟨z.1, z.2.1⟩)]
theorem sp_get (M : xM) (s : Nat → Int32) : (sp M s).1 6 1 = s := by
  show (if (6 : Nat) = 6 ∧ (1 : Nat) = 1 then s else M.1 6 1) = s
  exact if_pos ⟨rfl, rfl⟩
theorem sp_sp (M : xM) (s t : Nat → Int32) : sp (sp M s) t = sp M t := by
  refine Prod.ext ?_ rfl
  funext r' o'
  show (if r' = 6 ∧ o' = 1 then t else if r' = 6 ∧ o' = 1 then s else M.1 r' o') = _
  by_cases h : r' = 6 ∧ o' = 1
  · rw [if_pos h]
    exact (if_pos h).symm
  · rw [if_neg h, if_neg h]
    exact (if_neg h).symm
theorem sp_self (M : xM) : sp M (M.1 6 1) = M := by
  refine Prod.ext ?_ rfl
  funext r' o'
  show (if r' = 6 ∧ o' = 1 then M.1 6 1 else M.1 r' o') = M.1 r' o'
  by_cases h : r' = 6 ∧ o' = 1
  · rw [if_pos h, h.1, h.2]
  · rw [if_neg h]
theorem us_eq (s : Nat → Int32) (j : Nat) (v : Int32) : us s j v j = v := if_pos rfl
theorem us_ne (s : Nat → Int32) {j j' : Nat} (v : Int32) (h : j' ≠ j) : us s j v j' = s j' := if_neg h
/-! the model's tests of numbers -/
theorem lt_64 {x y : Int32} : (x.toInt64 < y.toInt64) ↔ x < y := by
  rw [Int64.lt_iff_toInt_lt, Int32.toInt_toInt64, Int32.toInt_toInt64, Int32.lt_iff_toInt_lt]
theorem m_in {x a b : Int32} (M : xM) : f_X7_in x.toInt64 a.toInt64 b.toInt64 M = some (bI (!decide (x < a) && !decide (b < x))) := by
  unfold f_X7_in
  rw [nar_0, nar_1]
  by_cases h1 : x < a
  · rw [if_pos ((lg_cmp_lt _ _).mpr (lt_64.mpr h1)), decide_eq_true h1]
    rfl
  · rw [if_neg (fun z => h1 (lt_64.mp ((lg_cmp_lt _ _).mp z))), decide_eq_false h1]
    by_cases h2 : b < x
    · rw [if_pos ((lg_cmp_gt _ _).mpr (lt_64.mpr h2)), decide_eq_true h2]
      rfl
    · rw [if_neg (fun z => h2 (lt_64.mp ((lg_cmp_gt _ _).mp z))), decide_eq_false h2]
      rfl
theorem rg_le {x : Int32} {n : Nat} (hn : n + 1 < 2 ^ 31) : (!decide (x < 0) && !decide (nI n < x)) = rg (n + 1) x := by
  have h := frm_nI (x := x) (a := 0) (b := n) (by omega) (by omega)
  rw [nI_0] at h
  rw [Bool.eq_iff_iff, h, rg_iff (by omega)]
  constructor
  · rintro ⟨k, -, h2, h3⟩
    exact ⟨k, by omega, h3⟩
  · rintro ⟨k, h2, h3⟩
    exact ⟨k, by omega, by omega, h3⟩
theorem m_isPerson (x : Int32) (M : xM) : f_X7_isPerson x M = some (bI (rg 20 x)) := by
  unfold f_X7_isPerson
  rw [show (0 : Int64) = (0 : Int32).toInt64 from rfl, show (19 : Int64) = (nI 19).toInt64 from rfl, m_in, rg_le (n := 19) (by omega)]
  simp only [Option.bind_some, bI_nar]
theorem m_isShed (x : Int32) (M : xM) : f_X7_isShed x M = some (bI (rg 3 x)) := by
  unfold f_X7_isShed
  rw [show (0 : Int64) = (0 : Int32).toInt64 from rfl, show (2 : Int64) = (nI 2).toInt64 from rfl, m_in, rg_le (n := 2) (by omega)]
  simp only [Option.bind_some, bI_nar]
theorem m_areDays (x : Int32) (M : xM) : f_X7_areDays x M = some (bI (!decide (x < 1) && !decide (99 < x))) := by
  unfold f_X7_areDays
  rw [show (1 : Int64) = (1 : Int32).toInt64 from rfl, show (99 : Int64) = (99 : Int32).toInt64 from rfl, m_in]
  simp only [Option.bind_some, bI_nar]
