/-! sweeps in both -/
def zG (sh lt d : Int32) (σ : Nat → Nat → Int32) (o j : Nat) : Int32 := zTake sh lt d (zSweep sh σ) o j
def zSw (sh lt d : Int32) (σ : Nat → Nat → Int32) (n : Nat) : Nat → Nat → Int32 := ud (pm σ (zG sh lt d σ) n) 18 6 (σ 18 6 + nI (cnt (zDue sh lt (zSweep sh σ)) n))
theorem zSweep_at {sh : Int32} {σ : Nat → Nat → Int32} {o j : Nat} (hj : j < 20) : zSweep sh σ o j = zTag sh σ o j := if_pos hj
theorem zSweep_ne {sh : Int32} {σ : Nat → Nat → Int32} {o j : Nat} (ho : o ≠ 22) : zSweep sh σ o j = σ o j := pm_same (if_neg (fun z => ho z.1))
theorem zSweep_far {sh : Int32} {σ : Nat → Nat → Int32} {o j : Nat} (hj : ¬ j < 20) : zSweep sh σ o j = σ o j := if_neg hj
theorem zG_18 {sh lt d : Int32} {σ : Nat → Nat → Int32} {o j : Nat} (h : o < 19) : zG sh lt d σ o j = σ o j := by
  unfold zG zTake
  rw [zSweep_ne (by omega)]
  split
  · rw [if_neg (by omega), if_neg (by omega)]
  · rfl
theorem pm_in (σ F : Nat → Nat → Int32) {k o j : Nat} (h : j < k) : pm σ F k o j = F o j := if_pos h
theorem pm_out (σ F : Nat → Nat → Int32) {k o j : Nat} (h : ¬ j < k) : pm σ F k o j = σ o j := if_neg h
theorem pm_suc (σ F : Nat → Nat → Int32) {k o j : Nat} (h : j ≠ k) : pm σ F (k + 1) o j = pm σ F k o j := by
  by_cases h2 : j < k
  · rw [pm_in _ _ h2, pm_in _ _ (by omega)]
  · rw [pm_out _ _ h2, pm_out _ _ (by omega)]
theorem zSw_end {sh lt d : Int32} {σ : Nat → Nat → Int32} : ud (pm (zSweep sh σ) (zTake sh lt d (zSweep sh σ)) 20) 18 6 (zSweep sh σ 18 6 + nI (cnt (zDue sh lt (zSweep sh σ)) 20)) = zSw sh lt d σ 20 := by
  unfold zSw
  rw [zSweep_ne (by omega)]
  congr 1
  funext o j
  by_cases h : j < 20
  · rw [pm_in _ _ h, pm_in _ _ h]
    rfl
  · rw [pm_out _ _ h, pm_out _ _ h, zSweep_far h]
theorem c_sweep {r sh : Nat} {M : xM} (hs : sh < 3) : f_X5_sweepShed r (nI sh) M = some (nI (cnt (zDue (nI sh) (M.1 r 0 4 - M.1 r 1 2) (zSweep (nI sh) (M.1 r))) 20), put M r (zSw (nI sh) (M.1 r 0 4 - M.1 r 1 2) (M.1 r 0 4) (M.1 r) 20)) := by
  rw [c_sweepShed hs, c_takeTagged, put_get, put_put, Int32.add_zero, zSw_end]
/-- the tag behind the first half of a sweep -/
def zT (sh : Int32) (σ : Nat → Nat → Int32) (n : Nat) : Int32 := if σ 22 n = -6 ∧ zAb σ n = true then σ 0 4 else σ 22 n
theorem zT_eq {sh : Int32} {σ : Nat → Nat → Int32} {n : Nat} (hn : n < 20) (h : σ 19 n = sh) : zSweep sh σ 22 n = zT sh σ n := by
  rw [zSweep_at hn]
  unfold zTag zT
  by_cases h2 : σ 22 n = -6 ∧ zAb σ n = true
  · rw [if_pos ⟨rfl, h, h2⟩, if_pos h2]
  · rw [if_neg (fun z => h2 z.2.2), if_neg h2]
theorem zDue_at {sh lt : Int32} {σ : Nat → Nat → Int32} {n : Nat} (hn : n < 20) : zDue sh lt (zSweep sh σ) n = (decide (σ 19 n = sh) && (!decide (zT sh σ n = -6) && !decide (lt < zT sh σ n))) := by
  unfold zDue
  rw [zSweep_ne (o := 19) (by omega)]
  by_cases h : σ 19 n = sh
  · rw [zT_eq hn h]
  · rw [decide_eq_false h, Bool.false_and, Bool.false_and]
theorem zSw_2 {sh lt d : Int32} {σ : Nat → Nat → Int32} {n o j : Nat} (h : ¬ (o = 18 ∧ j = 6)) : zSw sh lt d σ n o j = pm σ (zG sh lt d σ) n o j := ud_ne _ _ h
theorem zG_at {sh lt d : Int32} {σ : Nat → Nat → Int32} {n o : Nat} (hn : n < 20) (h1 : σ 19 n = sh) : zG sh lt d σ o n = if zDue sh lt (zSweep sh σ) n = true then (if o = 23 then d else if o = 19 ∨ o = 20 ∨ o = 21 ∨ o = 22 then -6 else σ o n) else if o = 22 then zT sh σ n else σ o n := by
  unfold zG zTake
  by_cases h : zDue sh lt (zSweep sh σ) n = true
  · rw [if_pos h, if_pos h]
    by_cases h23 : o = 23
    · rw [if_pos h23, if_pos h23]
    · rw [if_neg h23, if_neg h23]
      by_cases h19 : o = 19 ∨ o = 20 ∨ o = 21 ∨ o = 22
      · rw [if_pos h19, if_pos h19]
      · rw [if_neg h19, if_neg h19, zSweep_ne (by omega)]
  · rw [if_neg h, if_neg h]
    by_cases h22 : o = 22
    · subst h22
      rw [if_pos rfl, zT_eq hn h1]
    · rw [if_neg h22, zSweep_ne h22]
theorem zSw_no {sh lt d : Int32} {σ : Nat → Nat → Int32} {n : Nat} (hn : n < 20) (h1 : ¬ σ 19 n = sh) : zSw sh lt d σ (n + 1) = zSw sh lt d σ n := by
  have hd : zDue sh lt (zSweep sh σ) n = false := by
    rw [zDue_at hn, decide_eq_false h1]
    rfl
  unfold zSw
  rw [cnt_succ, hd, if_neg (by decide)]
  congr 1
  refine (pm_next _ _ _ n (fun o => ?_) (fun o j hj => rfl)).symm
  rw [pm_at]
  unfold zG zTake
  rw [hd, if_neg (by decide), zSweep_at hn]
  unfold zTag
  rw [if_neg (fun z => h1 z.2.1)]
theorem zSw_keep {sh lt d : Int32} {σ : Nat → Nat → Int32} {n : Nat} (hn : n < 20) (h1 : σ 19 n = sh) (hd : zDue sh lt (zSweep sh σ) n = false) : zSw sh lt d σ (n + 1) = ud (zSw sh lt d σ n) 22 n (zT sh σ n) := by
  have ec : cnt (zDue sh lt (zSweep sh σ)) (n + 1) = cnt (zDue sh lt (zSweep sh σ)) n := by
    rw [cnt_succ, hd, if_neg (by decide)]
  funext o j
  by_cases h6 : o = 18 ∧ j = 6
  · rw [ud_ne _ _ (by omega)]
    unfold zSw
    rw [h6.1, h6.2, ud_eq, ud_eq, ec]
  · rw [zSw_2 h6]
    by_cases hj : j = n
    · subst hj
      rw [pm_in _ _ (by omega), zG_at hn h1, hd, if_neg (by decide)]
      by_cases h22 : o = 22
      · subst h22
        rw [if_pos rfl, ud_eq]
      · rw [if_neg h22, ud_ne _ _ (fun z => h22 z.1), zSw_2 h6, pm_at]
    · rw [pm_suc _ _ hj, ud_col _ _ _ _ hj, zSw_2 h6]
theorem zSw_take {sh lt d : Int32} {σ : Nat → Nat → Int32} {n : Nat} (hn : n < 20) (h1 : σ 19 n = sh) (hd : zDue sh lt (zSweep sh σ) n = true) : zSw sh lt d σ (n + 1) = ud (ud (zLR n (ud (zSw sh lt d σ n) 22 n (zT sh σ n))) 23 n d) 18 6 (zSw sh lt d σ n 18 6 + 1) := by
  have ec : cnt (zDue sh lt (zSweep sh σ)) (n + 1) = cnt (zDue sh lt (zSweep sh σ)) n + 1 := by
    rw [cnt_succ, hd, if_pos rfl]
  funext o j
  by_cases h6 : o = 18 ∧ j = 6
  · rw [h6.1, h6.2, ud_eq]
    unfold zSw
    rw [ud_eq, ud_eq, ec, ← aI_1, Int32.add_assoc]
  · rw [zSw_2 h6, ud_ne _ _ h6]
    by_cases hj : j = n
    · subst hj
      rw [pm_in _ _ (by omega), zG_at hn h1, hd, if_pos rfl]
      by_cases h23 : o = 23
      · subst h23
        rw [if_pos rfl, ud_eq]
      · rw [if_neg h23, ud_ne _ _ (fun z => h23 z.1)]
        obtain ⟨q1, q2, q3, q4⟩ := zLR_p (p := j) (σ := ud (zSw sh lt d σ j) 22 j (zT sh σ j))
        by_cases h19 : o = 19 ∨ o = 20 ∨ o = 21 ∨ o = 22
        · rw [if_pos h19]
          rcases h19 with rfl | rfl | rfl | rfl
          · exact q1.symm
          · exact q2.symm
          · exact q3.symm
          · exact q4.symm
        · rw [if_neg h19, zLR_other (by omega), ud_ne _ _ (by omega), zSw_2 h6, pm_at]
    · rw [pm_suc _ _ hj, ud_col _ _ _ _ hj, zLR_col hj, ud_col _ _ _ _ hj, zSw_2 h6]
