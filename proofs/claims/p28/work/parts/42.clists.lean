/-! the class's wait lists -/
theorem c_who_some {r p sh : Nat} {x : Int32} {M : xM} (hp : p < 20) (hs : sh < 3) (hx : x ≠ -6) (h1 : M.1 r (7 + sh) p = x) (h2 : ∀ q, q < p → M.1 r (7 + sh) q ≠ x) : f_X4_whoIsAt r (nI sh) x M = some (nI p) := by
  unfold f_X4_whoIsAt
  refine xlp_for (body := f_X4_whoIsAt_l2 r (nI sh) x M) (q := nI p) (f := fun k => nI k) p 4000 (by omega) (fun k hk => ?_) ?_
  · unfold f_X4_whoIsAt_l2
    have hk20 : k < 20 := by omega
    simp only [show (20 : Int32) = nI 20 from rfl, lt_nI hk20 (by omega), in_nI hk20 (by omega), in_nI hs (by omega), cl_nI (show k < 2 ^ 31 by omega), cl_nI (show sh < 2 ^ 31 by omega), if_true, c_waitsFor hk20 hs, Option.bind_some, ite_bI, up_1]
    rw [if_neg (h2 k hk)]
    split <;> rfl
  · unfold f_X4_whoIsAt_l2
    simp only [show (20 : Int32) = nI 20 from rfl, lt_nI hp (by omega), in_nI hp (by omega), in_nI hs (by omega), cl_nI (show p < 2 ^ 31 by omega), cl_nI (show sh < 2 ^ 31 by omega), if_true, c_waitsFor hp hs, Option.bind_some, ite_bI, up_1]
    rw [if_pos h1, h1, decide_eq_false hx, if_pos (by decide)]
    rfl
theorem c_who_none {r sh : Nat} {x : Int32} {M : xM} (hs : sh < 3) (h : ∀ q, q < 20 → M.1 r (7 + sh) q = -6 ∨ M.1 r (7 + sh) q ≠ x) : f_X4_whoIsAt r (nI sh) x M = some (-6) := by
  unfold f_X4_whoIsAt
  refine xlp_for (body := f_X4_whoIsAt_l2 r (nI sh) x M) (q := -6) (f := fun k => nI k) 20 4000 (by omega) (fun k hk => ?_) rfl
  unfold f_X4_whoIsAt_l2
  simp only [show (20 : Int32) = nI 20 from rfl, lt_nI hk (by omega), in_nI hk (by omega), in_nI hs (by omega), cl_nI (show k < 2 ^ 31 by omega), cl_nI (show sh < 2 ^ 31 by omega), if_true, c_waitsFor hk hs, Option.bind_some, ite_bI, up_1]
  rcases h k hk with h | h
  · rw [h, decide_eq_true rfl, if_neg (by decide)]
  · rw [if_neg h]
    split <;> rfl
theorem c_queue {r p sh : Nat} {d dy : Int32} {M : xM} (hp : p < 20) (hs : sh < 3) : f_X4_queue r (nI p) (nI sh) d dy M = some (nI (cnt (fun p => !decide (M.1 r (7 + sh) p = -6)) 20 + 1), put M r (ud (ud (ud (M.1 r) (7 + sh) p (nI (cnt (fun p => !decide (M.1 r (7 + sh) p = -6)) 20))) (11 + sh) p d) (15 + sh) p dy)) := by
  unfold f_X4_queue
  rw [c_countWaiting hs]
  simp only [Option.bind_some, in_nI hp (by omega), in_nI hs (by omega), if_true, cl_nI (show p < 2 ^ 31 by omega), cl_nI (show sh < 2 ^ 31 by omega), up_put, put_get, put_put, up_1]
def zLv (p : Nat) (σ : Nat → Nat → Int32) (n o j : Nat) : Int32 := if 7 ≤ o ∧ o < 7 + n then (if j = p then -6 else if j < 20 ∧ ¬ σ o p = -6 ∧ σ o p < σ o j then σ o j - 1 else σ o j) else σ o j
def zRow (o0 : Nat) (pl : Int32) (τ : Nat → Nat → Int32) (o j : Nat) : Int32 := if o = o0 ∧ pl < τ o j then τ o j - 1 else τ o j
theorem zRow_at (o0 : Nat) (pl : Int32) (τ : Nat → Nat → Int32) (k : Nat) (h : pl < τ o0 k) : ud (pm τ (zRow o0 pl τ) k) o0 k (τ o0 k - 1) = pm τ (zRow o0 pl τ) (k + 1) := by
  refine pm_next _ _ _ k (fun o => ?_) (fun o j hj => ud_col _ _ _ _ hj)
  unfold zRow
  by_cases ho : o = o0
  · subst ho
    rw [ud_eq, if_pos ⟨rfl, h⟩]
  · rw [ud_ne _ _ (fun z => ho z.1), if_neg (fun z => ho z.1), pm_at]
theorem zRow_not (o0 : Nat) (pl : Int32) (τ : Nat → Nat → Int32) (k : Nat) (h : ¬ pl < τ o0 k) : pm τ (zRow o0 pl τ) k = pm τ (zRow o0 pl τ) (k + 1) := by
  refine pm_next _ _ _ k (fun o => ?_) (fun o j hj => rfl)
  rw [pm_at]
  refine (if_neg (fun z => h ?_)).symm
  rw [← z.1]
  exact z.2
theorem c_row {r p sh : Nat} {pl : Int32} {M : xM} (hs : sh < 3) : xlp (f_X4_leaveLists_l29_2 r (nI p) (nI sh) pl) 4000 (0, M) = some (.inl (nI (sh + 1), if pl = -6 then M else put M r (pm (M.1 r) (zRow (7 + sh) pl (M.1 r)) 20))) := by
  by_cases h : pl = -6
  · rw [if_pos h]
    refine xlp_out (n := 3999) ?_
    unfold f_X4_leaveLists_l29_2
    rw [if_pos h, up_1]
    rfl
  · rw [if_neg h]
    refine xlp_pm (r := r) (zRow (7 + sh) pl (M.1 r)) (fun k hk => ?_) ?_
    · unfold f_X4_leaveLists_l29_2
      simp only [h, show (20 : Int32) = nI 20 from rfl, lt_nI hk (by omega), in_nI hk (by omega), in_nI hs (by omega), cl_nI (show k < 2 ^ 31 by omega), cl_nI (show sh < 2 ^ 31 by omega), if_true, if_false, put_get, put_put, pm_at, up_1, up_put]
      by_cases h2 : pl < M.1 r (7 + sh) k
      · rw [if_pos h2]
        exact st_put (zRow_at _ _ _ _ h2)
      · rw [if_neg h2]
        exact st_put (zRow_not _ _ _ _ h2)
    · unfold f_X4_leaveLists_l29_2
      rw [if_neg h, if_neg (show ¬ nI 20 < 20 by decide), up_1]
      rfl
/-- what stands in a wait list's row -/
def okPl (x : Int32) : Prop := x = -6 ∨ ¬ x < 0
theorem c_leaveLists {r p : Nat} {M : xM} (hp : p < 20) (hok : ∀ sh, sh < 3 → okPl (M.1 r (7 + sh) p)) : f_X4_leaveLists r (nI p) M = some (put M r (zLv p (M.1 r) 3)) := by
  unfold f_X4_leaveLists
  have := xlp_for (body := f_X4_leaveLists_l2 r (nI p)) (q := put M r (zLv p (M.1 r) 3)) (f := fun k => (nI k, put M r (zLv p (M.1 r) k))) 3 4000 (by omega) (fun k hk => ?_) rfl
  · have e : zLv p (M.1 r) 0 = M.1 r := by
      funext o j
      exact if_neg (by omega)
    rw [e, put_self] at this
    exact this
  · unfold f_X4_leaveLists_l2
    have e1 : zLv p (M.1 r) k (7 + k) p = M.1 r (7 + k) p := if_neg (by omega)
    simp only [show (3 : Int32) = nI 3 from rfl, lt_nI hk (by omega), in_nI hp (by omega), in_nI hk (by omega), cl_nI (show k < 2 ^ 31 by omega), cl_nI (show p < 2 ^ 31 by omega), if_true, put_get, put_put, up_put, c_row hk, e1]
    congr 3
    have e2 : ∀ τ, (if M.1 r (7 + k) p = -6 then put M r (ud (zLv p (M.1 r) k) (7 + k) p (-6)) else put M r τ) = put M r (if M.1 r (7 + k) p = -6 then ud (zLv p (M.1 r) k) (7 + k) p (-6) else τ) := by
      intro τ
      split <;> rfl
    rw [e2]
    congr 1
    have hk2 := hok k hk
    generalize hpl : M.1 r (7 + k) p = pl at hk2 ⊢
    funext o j
    by_cases ho : o = 7 + k
    · subst ho
      have e3 : zLv p (M.1 r) (k + 1) (7 + k) j = if j = p then -6 else if j < 20 ∧ ¬ pl = -6 ∧ pl < M.1 r (7 + k) j then M.1 r (7 + k) j - 1 else M.1 r (7 + k) j := by
        rw [← hpl]
        exact if_pos (by omega)
      have e4 : ud (zLv p (M.1 r) k) (7 + k) p (-6) (7 + k) j = if j = p then -6 else M.1 r (7 + k) j := by
        by_cases hj : j = p
        · subst hj
          rw [ud_eq, if_pos rfl]
        · rw [ud_col _ _ _ _ hj, if_neg hj]
          exact if_neg (by omega)
      rw [e3]
      by_cases h6 : pl = -6
      · rw [if_pos h6, e4]
        by_cases hj : j = p
        · rw [if_pos hj, if_pos hj]
        · rw [if_neg hj, if_neg hj, if_neg (fun z => z.2.1 h6)]
      · rw [if_neg h6]
        have h0 : ¬ pl < 0 := by
          rcases hk2 with z | z
          · exact absurd z h6
          · exact z
        unfold pm zRow
        rw [e4]
        by_cases hj : j = p
        · have hp6 : ¬ pl < -6 := fun z => h0 (Int32.lt_trans z (by decide))
          simp only [if_pos hj]
          split
          · rw [if_neg (fun z => hp6 z.2)]
          · rfl
        · rw [if_neg hj, if_neg hj]
          by_cases h20 : j < 20
          · rw [if_pos h20]
            by_cases hl : pl < M.1 r (7 + k) j
            · rw [if_pos ⟨rfl, hl⟩, if_pos ⟨h20, h6, hl⟩]
            · rw [if_neg (fun z => hl z.2), if_neg (fun z => hl z.2.2)]
          · rw [if_neg h20, if_neg (fun z => h20 z.1)]
    · have e3 : zLv p (M.1 r) (k + 1) o j = zLv p (M.1 r) k o j := by
        unfold zLv
        by_cases h7 : 7 ≤ o ∧ o < 7 + k
        · rw [if_pos h7, if_pos (by omega)]
        · rw [if_neg h7, if_neg (by omega)]
      have e4 : ud (zLv p (M.1 r) k) (7 + k) p (-6) o j = zLv p (M.1 r) k o j := ud_ne _ _ (fun z => ho z.1)
      rw [e3]
      split
      · exact e4
      · unfold pm zRow
        rw [e4]
        split
        · rw [if_neg (fun z => ho z.1)]
        · rfl
