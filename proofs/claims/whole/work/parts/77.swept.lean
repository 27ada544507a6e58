/-! what a sweep would take; undo, save, restore -/
theorem zDays_other {U : Nat → Nat} {sp : Nat} {q : (Nat → Nat → Int32) × (Nat → List Nat)} {o j : Nat} (h0 : ¬ (o = 0 ∧ j = 4)) (h3 : o ≠ 3) (h4 : o ≠ 4) (h5 : o ≠ 5) (h6 : o ≠ 23) (h7 : o ≠ 24) (h8 : ¬ (7 ≤ o ∧ o < 10)) : ∀ n, (zDays U sp n q).1 o j = q.1 o j
  | 0 => rfl
  | n + 1 => by
    rw [zDays_s, zDay_other h0 h3 h4 h5 h6 h7 h8]
    exact zDays_other h0 h3 h4 h5 h6 h7 h8 n
theorem q_swept {T : Nat} (hT : 10398 ≤ T) (hT2 : T < 2 ^ 30) (x y : Int32) (M : xM) (hRel : Rel T M) : ∃ ans M2, f_X6_ifSwept x y M = some ans ∧ f_X7_ifSwept x y M = some (ans, M2) ∧ Rel T M2 := by
  have hRel' := hRel
  obtain ⟨n, R, -, -, -, -, -, ⟨W, U, sq, d, kp, nt, hR, hA⟩, -⟩ := hRel'
  have hiny : f_X7_in y.toInt64 0 99 M = some (bI (rg 100 y)) := by
    rw [show (0 : Int64) = (0 : Int32).toInt64 from rfl, show (99 : Int64) = (nI 99).toInt64 from rfl, m_in, rg_le (n := 99) (by omega)]
  have hfy : f_X6_isFrom 0 y 99 M = some (bI (rg 100 y)) := by
    rw [c_isFrom, show (99 : Int32) = nI 99 from rfl, rg_le (n := 99) (by omega)]
  by_cases hx : rg 3 x = true
  · obtain ⟨sh, hs, rfl⟩ := (rg_iff (by omega)).mp hx
    by_cases hy : rg 100 y = true
    · obtain ⟨a, ha, rfl⟩ := (rg_iff (by omega)).mp hy
      have hd := hA.2.2.2.2.1
      have hv := hA.2.2.2.1.1
      have hnt := hA.2.2.2.2.2.2.2.2
      have hAs : gA d T (M.1 2) W U sq d kp nt := hA.self
      have hAd := gA.days (q := (M.1 2, W)) hAs hT2 a (by omega) (by omega)
      obtain ⟨t1, c1, c2, c3⟩ := m_trial hR hA.1
      obtain ⟨t2, d1, d2, d3⟩ := m_days (b := 3186) (n := a) (M := sp M t1) (Nat.le_refl _) (by rw [sp_get]; exact c2) hAs hT2 (by omega) (by omega) (by omega)
      rw [sp_sp] at d1
      rw [sp_get] at d3
      obtain ⟨t3, e1, e2, e3⟩ := m_sweeps (b := 3186) (sh := sh) (M := sp M t2) (Nat.le_refl _) (by rw [sp_get]; exact d2) hAd
      rw [sp_sp] at e1
      rw [sp_get] at e3
      have d1 : f_X7_days 3186 (nI a) (sp M t1) = _ := d1
      have e1 : f_X7_sweeps 3186 (nI sh) (sp M t2) = _ := e1
      have ed : (zDays U sq a (M.1 2, W)).1 0 4 = nI (d + a) := hAd.2.2.2.1.1
      have ot : ∀ o j, o = 19 ∨ o = 22 ∨ o = 1 → (zDays U sq a (M.1 2, W)).1 o j = M.1 2 o j := fun o j ho => zDays_other (by omega) (by omega) (by omega) (by omega) (by omega) (by omega) (by omega) a
      have same : nI (cnt (zDue (nI sh) (M.1 2 0 4 + nI a - M.1 2 1 2) (M.1 2)) 20) = nI (cnt (zDue (nI sh) ((zDays U sq a (M.1 2, W)).1 0 4 - (zDays U sq a (M.1 2, W)).1 1 2) (zSweep (nI sh) (zDays U sq a (M.1 2, W)).1)) 20) := by
        refine cnt_eq (fun p hp => ?_)
        rw [zDue_at hp, ed, ot 1 2 (by omega), ot 19 p (by omega), hv, nI_add]
        unfold zDue
        by_cases h19 : M.1 2 19 p = nI sh
        · rw [decide_eq_true h19, Bool.true_and, Bool.true_and]
          unfold zT
          rw [ot 22 p (by omega), ed, hnt.1]
          by_cases h22 : M.1 2 22 p = -6
          · rw [decide_eq_true h22, Bool.not_true, Bool.false_and]
            by_cases hab : zAb (zDays U sq a (M.1 2, W)).1 p = true
            · rw [if_pos ⟨h22, hab⟩]
              have : nI (d + a) - nI nt < nI (d + a) := by
                rw [sub_lt (by omega) (by omega) (by omega)]
                omega
              rw [decide_eq_true this, Bool.not_true, Bool.and_false]
            · rw [if_neg (fun z => hab z.2), decide_eq_true h22, Bool.not_true, Bool.false_and]
          · rw [if_neg (fun z => h22 z.1)]
        · rw [decide_eq_false h19, Bool.false_and, Bool.false_and]
      refine ⟨nI (cnt (zDue (nI sh) (M.1 2 0 4 + nI a - M.1 2 1 2) (M.1 2)) 20), sp M t3, ?_, ?_, hRel.row (fun j hj => ((c3.trans d3).trans e3) j (by omega))⟩
      · unfold f_X6_ifSwept f_X5_latestDueTag
        simp only [c_isShed, hfy, hx, hy, Option.bind_some, ite_bI, if_true, c_countTagged]
      · unfold f_X7_ifSwept
        simp only [m_isShed, hiny, hx, hy, Option.bind_some, ite_bI, if_true, c1, d1, e1, same]
    · refine ⟨-2, M, ?_, ?_, hRel⟩
      · unfold f_X6_ifSwept
        simp only [c_isShed, hfy, hx, hy, Option.bind_some, ite_bI, if_true, Bool.false_eq_true, if_false]
      · unfold f_X7_ifSwept
        simp only [m_isShed, hiny, hx, hy, Option.bind_some, ite_bI, if_true, Bool.false_eq_true, if_false]
  · refine ⟨-1, M, ?_, ?_, hRel⟩
    · unfold f_X6_ifSwept
      simp only [c_isShed, hx, Option.bind_some, ite_bI, Bool.false_eq_true, if_false]
    · unfold f_X7_ifSwept
      simp only [m_isShed, hx, Option.bind_some, ite_bI, Bool.false_eq_true, if_false]
theorem q_undo {T : Nat} : callOK T T (f_X6_undo) (f_X7_undo) := by
  intro M hRel
  have hRel' := hRel
  obtain ⟨n, R, h1, h2, h3, h4, h5, h6, h7⟩ := hRel'
  have hn := h1.1
  by_cases h0 : n = 0
  · subst h0
    refine ⟨-5, M, M, ?_, ?_, hRel⟩
    · unfold f_X6_undo f_X2_takeBack
      rw [if_pos (show M.1 5 76 1 = (0 : Int32) from h1.2.1), nar_0]
      rfl
    · unfold f_X7_undo
      rw [if_pos (show M.1 6 0 1 = (0 : Int32) from h2)]
  · obtain ⟨m, rfl⟩ : ∃ m, n = m + 1 := ⟨n - 1, by omega⟩
    have hne : ¬ nI (m + 1) = (0 : Int32) := fun z => by
      have := (nI_eq (b := 0) (by omega) (by omega)).mp z
      omega
    have hRm := h1.2.2.2.2.2.2.2 m (by omega)
    have hRlt := h1.R_lt (j := m) (by omega)
    have hb := h1.big (j := m) (by omega) hRm
    have es : nI (m + 1) - (1 : Int32) = nI m := sub_nI (a := m + 1) (b := 1) (by omega)
    have e5 : ∀ o, (xe_cp 2 (R m) M).1 5 o = M.1 5 o := fun o => by rw [cp_ne M (by omega)]
    have c : f_X6_undo M = some (nI m, xd_up (xe_cp 2 (R m) M) 5 76 1 (nI m)) := by
      unfold f_X6_undo f_X2_takeBack
      rw [h1.2.1, if_neg hne, es, if_pos (in_nI (by omega) (by omega)), cl_nI (by omega), h1.2.2.1 m (by omega), cl_nI (by omega)]
      have hnl : xd_nul (20, R m, 0) = false := by
        show (20 == 20 && R m == 0) = false
        rw [beq_eq_false_iff_ne.mpr hRm, Bool.and_false]
      rw [hnl, if_neg (by decide), if_pos (by rw [bne_iff_ne]; exact hRm), nar_1, e5, h1.2.1, es]
      rw [Option.bind_some]
      dsimp only
      rw [if_neg (by decide), xu_eq]
    generalize hN : xd_up (xe_cp 2 (R m) M) 5 76 1 (nI m) = N at c
    have n6 : N.1 6 = M.1 6 := by
      rw [← hN]
      funext o
      rw [xu_ne _ _ _ (by omega), cp_ne M (by omega)]
    have n2 : N.1 2 = M.1 (R m) := by
      rw [← hN, ← cp_to M 2 (R m)]
      funext o
      exact xu_ne _ _ _ (by omega)
    have nr : ∀ r, 7 ≤ r → N.1 r = M.1 r := fun r hr => by
      rw [← hN, ← cp_ne M (a := 2) (b := R m) (show r ≠ 2 by omega)]
      funext o
      exact xu_ne _ _ _ (by omega)
    have n5 : ∀ o, o ≠ 76 → N.1 5 o = M.1 5 o := fun o ho => by
      rw [← hN, xu_ne _ _ _ (by omega), e5]
    have hc := m_copies (a := m + 1) (c := 0) (M := N) (by omega) (by omega) (by omega)
    have hc : f_X7_copies (nI (m + 1)) 0 N = _ := hc
    rw [n6] at hc
    have e1 : (sp N (cpR (M.1 6 1) (m + 1) 0 354)).1 6 0 1 = nI (m + 1) := by
      rw [sp_ne _ _ (by omega), n6, h2]
    refine ⟨nI m, N, xd_up (sp N (cpR (M.1 6 1) (m + 1) 0 354)) 6 0 1 (nI m), c, ?_, m, R, ⟨by omega, ?_, fun j hj => ?_, fun k hk => ?_, ?_, ?_, h1.2.2.2.2.2.2.1, fun j hj => h1.2.2.2.2.2.2.2 j (by omega)⟩, xu_eq _ _ _ _ _, fun k hk => ?_, fun j hj => ?_, fun k hk h0 => ?_, ?_, ?_⟩
    · unfold f_X7_undo
      rw [n6, h2, if_neg hne, hc, Option.bind_some, e1, es, xu_eq]
    · rw [xu_ne _ _ _ (by omega), sp_ne _ _ (by omega), ← hN, xu_eq]
    · rw [xu_ne _ _ _ (by omega), sp_ne _ _ (by omega), n5 77 (by omega)]
      exact h1.2.2.1 j hj
    · rw [xu_ne _ _ _ (by omega), sp_ne _ _ (by omega), n5 78 (by omega)]
      exact h1.2.2.2.1 k hk
    · show N.2 = _
      rw [← hN]
      exact h1.2.2.2.2.1
    · show ∀ j, j < 8 → R j = 0 ∨ (7 ≤ R j ∧ R j < N.2)
      rw [← hN]
      exact h1.2.2.2.2.2.1
    · rw [xu_ne _ _ _ (by omega), sp_ne _ _ (by omega), n6]
      exact h3 k hk
    · have := h1.big (j := j) (by omega) (h1.2.2.2.2.2.2.2 j (by omega))
      have reg : (xd_up (sp N (cpR (M.1 6 1) (m + 1) 0 354)) 6 0 1 (nI m)).1 (R j) = M.1 (R j) := by
        rw [← nr (R j) this, ← sp_reg N (cpR (M.1 6 1) (m + 1) 0 354) (show R j ≠ 6 by omega)]
        funext o
        exact xu_ne _ _ _ (by omega)
      rw [reg, xu_ne _ _ _ (by omega), sp_get]
      exact (h4 j (by omega)).agree (fun i a1 a2 => cpR_out (by omega))
    · have := h1.big (j := 6 + k) (by omega) h0
      have reg : (xd_up (sp N (cpR (M.1 6 1) (m + 1) 0 354)) 6 0 1 (nI m)).1 (R (6 + k)) = M.1 (R (6 + k)) := by
        rw [← nr (R (6 + k)) this, ← sp_reg N (cpR (M.1 6 1) (m + 1) 0 354) (show R (6 + k) ≠ 6 by omega)]
        funext o
        exact xu_ne _ _ _ (by omega)
      rw [reg, xu_ne _ _ _ (by omega), sp_get]
      exact (h5 k hk h0).agree (fun i a1 a2 => cpR_out (by omega))
    · have reg : (xd_up (sp N (cpR (M.1 6 1) (m + 1) 0 354)) 6 0 1 (nI m)).1 2 = M.1 (R m) := by
        rw [← n2, ← sp_reg N (cpR (M.1 6 1) (m + 1) 0 354) (show 2 ≠ 6 by omega)]
        funext o
        exact xu_ne _ _ _ (by omega)
      rw [reg, xu_ne _ _ _ (by omega), sp_get]
      exact (h4 m (by omega)).shift (fun i hi => cpR_in (c := 0) hi)
    · refine h7.congr ?_ ?_ ?_ ?_
      · rw [xu_ne _ _ _ (by omega), sp_ne _ _ (by omega), n5 80 (by omega)]
      · rw [xu_ne _ _ _ (by omega), sp_ne _ _ (by omega), n5 81 (by omega)]
      · rw [up_rp, rp_get, us_ne _ _ (by omega), sp_ne _ _ (by omega), n6]
      · rw [xu_ne _ _ _ (by omega), sp_ne _ _ (by omega), n6]
