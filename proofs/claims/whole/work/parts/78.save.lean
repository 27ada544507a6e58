/-! save, restore, wipe -/
theorem m_isSlot {x : Int32} {M : xM} : f_X7_isSlot x M = some (bI (rg 2 x)) := by
  unfold f_X7_isSlot
  rw [nar_0, nar_1]
  by_cases h : rg 2 x = true
  · rw [h]
    obtain ⟨k, hk, rfl⟩ := (rg_iff (by omega)).mp h
    rcases (by omega : k = 0 ∨ k = 1) with rfl | rfl
    · rfl
    · rw [if_neg (by decide), if_pos (show nI 1 = 1 from rfl)]
      rfl
  · have n0 : ¬ x = 0 := fun e => h (by rw [e]; exact rg_nI (k := 0) (by omega) (by omega))
    have n1 : ¬ x = 1 := fun e => h (by rw [e]; exact rg_nI (k := 1) (by omega) (by omega))
    rw [if_neg n0, if_neg n1, Bool.eq_false_iff.mpr h]
    rfl
theorem isFrom_01 {x : Int32} {M : xM} : f_X6_isFrom 0 x 1 M = some (bI (rg 2 x)) := by
  rw [c_isFrom, show (1 : Int32) = nI 1 from rfl, rg_le (n := 1) (by omega)]
theorem c_slot {M : xM} {n k : Nat} {R : Nat → Nat} (h : hC M n R) (hk : k < 2) : ∃ M1 q, f_X6_save (nI k) M = some (M1.1 2 0 4, M1) ∧ hC M1 n (fun j => if j = 6 + k then q else R j) ∧ 7 ≤ q ∧ (∀ j, j < 8 → j ≠ 6 + k → R j ≠ q) ∧ M1.1 q = M.1 2 ∧ (∀ r, r ≠ q → r ≠ 5 → M1.1 r = M.1 r) ∧ ∀ o, o ≠ 78 → M1.1 5 o = M.1 5 o := by
  obtain ⟨h1, h2, h3, h4, h5, h6, h7, h8⟩ := h
  have hsz := hC.sz ⟨h1, h2, h3, h4, h5, h6, h7, h8⟩
  have hRn : R (6 + k) < 15 := hC.R_lt ⟨h1, h2, h3, h4, h5, h6, h7, h8⟩ (by omega)
  have key : ∀ (q : Nat) (N : xM), xe_ci (R (6 + k)) 2 M = some (q, N) → 7 ≤ q → q < 100 → N.2 = 7 + cnt (fun j => decide ((if j = 6 + k then q else R j) ≠ 0)) 8 → q < N.2 → M.2 ≤ N.2 → (∀ j, j < 8 → j ≠ 6 + k → R j ≠ q) → N.1 q = M.1 2 → (∀ r, r ≠ q → N.1 r = M.1 r) → ∃ M1 q, f_X6_save (nI k) M = some (M1.1 2 0 4, M1) ∧ hC M1 n (fun j => if j = 6 + k then q else R j) ∧ 7 ≤ q ∧ (∀ j, j < 8 → j ≠ 6 + k → R j ≠ q) ∧ M1.1 q = M.1 2 ∧ (∀ r, r ≠ q → r ≠ 5 → M1.1 r = M.1 r) ∧ ∀ o, o ≠ 78 → M1.1 5 o = M.1 5 o := by
    intro q N hci q7 q100 hN2 hqN hMN hdis hNq hNr
    have e5 : ∀ o, N.1 5 o = M.1 5 o := fun o => by rw [hNr 5 (by omega)]
    refine ⟨rp N 5 78 (us (N.1 5 78) k (nI q)), q, ?_, ⟨h1, ?_, fun j hj => ?_, fun i hi => ?_, ?_, fun j hj => ?_, fun i j hi hj hij hi0 => ?_, fun j hj => ?_⟩, q7, hdis, ?_, fun r hr hr5 => ?_, fun o ho => ?_⟩
    · unfold f_X6_save
      rw [isFrom_01, rg_nI hk (by omega), Option.bind_some, ite_bI, if_pos rfl, if_pos (in_nI hk (by omega)), cl_nI (by omega), h4 k hk, cl_nI (by omega), hci, Option.bind_some, if_pos (in_nI hk (by omega)), up_rp]
      rfl
    · rw [rp_ne _ _ (by omega), e5]
      exact h2
    · rw [rp_ne _ _ (by omega), e5]
      dsimp only
      rw [if_neg (by omega)]
      exact h3 j hj
    · rw [rp_get]
      dsimp only
      by_cases e : i = k
      · subst e
        rw [us_eq, if_pos rfl]
      · rw [us_ne _ _ e, if_neg (by omega), e5]
        exact h4 i hi
    · exact hN2
    · dsimp only
      by_cases e : j = 6 + k
      · rw [if_pos e]
        exact Or.inr ⟨q7, hqN⟩
      · rw [if_neg e]
        rcases h6 j hj with z | z
        · exact Or.inl z
        · exact Or.inr ⟨z.1, Nat.lt_of_lt_of_le z.2 hMN⟩
    · dsimp only at hi0 ⊢
      by_cases e : i = 6 + k
      · rw [if_pos e, if_neg (by omega)]
        exact fun z => hdis j hj (by omega) z.symm
      · rw [if_neg e] at hi0 ⊢
        by_cases e2 : j = 6 + k
        · rw [if_pos e2]
          exact hdis i hi e
        · rw [if_neg e2]
          exact h7 i j hi hj hij hi0
    · dsimp only
      rw [if_neg (by omega)]
      exact h8 j hj
    · rw [← hNq]
      funext o
      exact rp_ne _ _ (by omega)
    · rw [← hNr r hr]
      funext o
      exact rp_ne _ _ (by omega)
    · rw [rp_ne _ _ (by omega), e5]
  by_cases h0 : R (6 + k) = 0
  · refine key M.2 (fun r o j => if r = M.2 then M.1 2 o j else M.1 r o j, M.2 + 1) ?_ (by omega) (by omega) ?_ (Nat.lt_succ_self _) (Nat.le_succ _) (fun j hj hjn => ?_) ?_ (fun r hr => ?_)
    · unfold xe_ci
      rw [if_pos h0, if_pos (by omega)]
    · show M.2 + 1 = _
      have ec := cnt_add (fun j => decide (R j ≠ 0)) (6 + k) (by rw [h0]; rfl) 8
      rw [if_pos (by omega)] at ec
      have : cnt (fun j => decide ((if j = 6 + k then M.2 else R j) ≠ 0)) 8 = cnt (fun j => decide (R j ≠ 0)) 8 + 1 := by
        rw [← ec]
        refine cnt_congr 8 (fun j hj => ?_)
        by_cases e : j = 6 + k
        · subst e
          rw [if_pos rfl, beq_self_eq_true, Bool.or_true]
          exact decide_eq_true (by omega)
        · rw [if_neg e, beq_eq_false_iff_ne.mpr e, Bool.or_false]
      rw [this, h5]
      omega
    · rcases h6 j hj with z | z <;> omega
    · funext o j
      exact if_pos rfl
    · funext o j
      exact if_neg hr
  · have hR7 : 7 ≤ R (6 + k) ∧ R (6 + k) < M.2 := (h6 (6 + k) (by omega)).resolve_left h0
    refine key (R (6 + k)) (xe_cp (R (6 + k)) 2 M) ?_ hR7.1 (by omega) ?_ hR7.2 (Nat.le_refl _) (fun j hj hjn e => ?_) ?_ (fun r hr => ?_)
    · unfold xe_ci
      rw [if_neg h0]
    · show M.2 = _
      rw [h5]
      congr 1
      refine cnt_congr 8 (fun j hj => ?_)
      by_cases e : j = 6 + k
      · rw [if_pos e, e]
      · rw [if_neg e]
    · exact h7 (6 + k) j (by omega) hj (fun z => hjn z.symm) h0 e.symm
    · funext o j
      exact if_pos rfl
    · funext o j
      exact if_neg hr
theorem bI_7 (a : Nat) : (7 : Int32) + nI a = nI (7 + a) := nI_add 7 a
theorem q_save {T : Nat} (x : Int32) : callOK T T (f_X6_save x) (f_X7_save x) := by
  intro M hRel
  by_cases hx : rg 2 x = true
  · obtain ⟨k, hk, rfl⟩ := (rg_iff (by omega)).mp hx
    obtain ⟨n, R, h1, h2, h3, h4, h5, h6, h7⟩ := hRel
    have hn := h1.1
    obtain ⟨M1, q, c, c1, c2, c3, c4, c5, c6⟩ := c_slot h1 hk
    have r6 : M1.1 6 = M.1 6 := c5 6 (by omega) (by omega)
    have r2 : M1.1 2 = M.1 2 := c5 2 (by omega) (by omega)
    have hc := m_copies (a := 0) (c := 7 + k) (M := M1) (by omega) (by omega) (by omega)
    have hc : f_X7_copies 0 (nI (7 + k)) M1 = _ := hc
    rw [r6] at hc
    obtain ⟨W, U, sq, d, kp, nt, hR, hA⟩ := h6
    have e4 : M.1 6 1 4 = M.1 2 0 4 := hR.1.2.1
    refine ⟨M1.1 2 0 4, M1, xd_up (sp M1 (cpR (M.1 6 1) 0 (7 + k) 354)) 6 2 k 1, c, ?_, n, fun j => if j = 6 + k then q else R j, c1.congr ?_ ?_ ?_ rfl, ?_, fun i hi => ?_, fun j hj => ?_, fun i hi h0 => ?_, ?_, ?_⟩
    · unfold f_X7_save
      rw [m_isSlot, hx, Option.bind_some, ite_bI, if_pos rfl, bI_7, hc, Option.bind_some, if_pos (in_nI hk (by omega)), cl_nI (by omega), nar_1, xu_ne _ _ _ (by omega), sp_get, cpR_out (by omega), r2, e4]
    · rw [xu_ne _ _ _ (by omega), sp_ne _ _ (by omega)]
    · rw [xu_ne _ _ _ (by omega), sp_ne _ _ (by omega)]
    · rw [xu_ne _ _ _ (by omega), sp_ne _ _ (by omega)]
    · rw [xu_ne _ _ _ (by omega), sp_ne _ _ (by omega), r6]
      exact h2
    · dsimp only
      rw [up_rp, rp_get, sp_ne _ _ (by omega), r6]
      by_cases e : i = k
      · subst e
        rw [us_eq]
        show bI true = _
        exact (congrArg bI (decide_eq_true (by rw [if_pos rfl]; omega))).symm
      · rw [us_ne _ _ e, h3 i hi]
        exact congrArg bI (decide_eq_decide.mpr (by rw [if_neg (show ¬ 6 + i = 6 + k by omega)]))
    · dsimp only
      rw [if_neg (by omega), xu_ne _ _ _ (by omega), sp_get]
      have := h1.big (j := j) (by omega) (h1.2.2.2.2.2.2.2 j hj)
      have reg : (xd_up (sp M1 (cpR (M.1 6 1) 0 (7 + k) 354)) 6 2 k 1).1 (R j) = M.1 (R j) := by
        rw [← c5 (R j) (c3 j (by omega) (by omega)) (by omega), ← sp_reg M1 (cpR (M.1 6 1) 0 (7 + k) 354) (show R j ≠ 6 by omega)]
        funext o
        exact xu_ne _ _ _ (by omega)
      rw [reg]
      exact (h4 j hj).agree (fun i a1 a2 => cpR_out (by omega))
    · dsimp only at h0 ⊢
      rw [xu_ne _ _ _ (by omega), sp_get]
      by_cases e : i = k
      · subst e
        rw [if_pos rfl]
        have reg : (xd_up (sp M1 (cpR (M.1 6 1) 0 (7 + i) 354)) 6 2 i 1).1 q = M.1 2 := by
          rw [← c4, ← sp_reg M1 (cpR (M.1 6 1) 0 (7 + i) 354) (show q ≠ 6 by omega)]
          funext o
          exact xu_ne _ _ _ (by omega)
        rw [reg]
        exact gS.shift (b := 0) ⟨W, U, sq, d, kp, nt, hR, hA⟩ (fun j hj => cpR_in (c := 7 + i) hj)
      · rw [if_neg (by omega)] at h0 ⊢
        have := h1.big (j := 6 + i) (by omega) h0
        have reg : (xd_up (sp M1 (cpR (M.1 6 1) 0 (7 + k) 354)) 6 2 k 1).1 (R (6 + i)) = M.1 (R (6 + i)) := by
          rw [← c5 (R (6 + i)) (c3 (6 + i) (by omega) (by omega)) (by omega), ← sp_reg M1 (cpR (M.1 6 1) 0 (7 + k) 354) (show R (6 + i) ≠ 6 by omega)]
          funext o
          exact xu_ne _ _ _ (by omega)
        rw [reg]
        exact (h5 i hi h0).agree (fun j a1 a2 => cpR_out (by omega))
    · have reg : (xd_up (sp M1 (cpR (M.1 6 1) 0 (7 + k) 354)) 6 2 k 1).1 2 = M.1 2 := by
        rw [← r2, ← sp_reg M1 (cpR (M.1 6 1) 0 (7 + k) 354) (show 2 ≠ 6 by omega)]
        funext o
        exact xu_ne _ _ _ (by omega)
      rw [reg, xu_ne _ _ _ (by omega), sp_get]
      exact gS.agree (b := 0) ⟨W, U, sq, d, kp, nt, hR, hA⟩ (fun j a1 a2 => cpR_out (by omega))
    · refine h7.congr ?_ ?_ ?_ ?_
      · rw [xu_ne _ _ _ (by omega), sp_ne _ _ (by omega), c6 80 (by omega)]
      · rw [xu_ne _ _ _ (by omega), sp_ne _ _ (by omega), c6 81 (by omega)]
      · rw [xu_ne _ _ _ (by omega), sp_ne _ _ (by omega), r6]
      · rw [xu_ne _ _ _ (by omega), sp_ne _ _ (by omega), r6]
  · refine ⟨-2, M, M, ?_, ?_, hRel⟩
    · unfold f_X6_save
      rw [isFrom_01, Bool.eq_false_iff.mpr hx]
      rfl
    · unfold f_X7_save
      rw [m_isSlot, Bool.eq_false_iff.mpr hx]
      rfl
theorem q_restore {T : Nat} (x : Int32) : callOK T T (f_X6_restore x) (f_X7_restore x) := by
  intro M hRel
  by_cases hx : rg 2 x = true
  · obtain ⟨k, hk, rfl⟩ := (rg_iff (by omega)).mp hx
    have hRel' := hRel
    obtain ⟨n, R, h1, h2, h3, h4, h5, h6, h7⟩ := hRel'
    have hn := h1.1
    have hR15 := h1.R_lt (j := 6 + k) (by omega)
    by_cases h0 : R (6 + k) = 0
    · refine ⟨-5, M, M, ?_, ?_, hRel⟩
      · unfold f_X6_restore
        rw [isFrom_01, hx, Option.bind_some, ite_bI, if_pos rfl, if_pos (in_nI hk (by omega)), cl_nI (by omega), h1.2.2.2.1 k hk, h0, cl_nI (by omega)]
        rfl
      · unfold f_X7_restore
        rw [m_isSlot, hx, Option.bind_some, ite_bI, if_pos rfl, if_pos (in_nI hk (by omega)), cl_nI (by omega), h3 k hk, h0]
        rfl
    · have hb := h1.big (j := 6 + k) (by omega) h0
      have hsl := h5 k hk h0
      have hsl' := hsl
      obtain ⟨W, U, sq, d, kp, nt, hR, hA⟩ := hsl'
      have hd := hA.2.2.2.1.1
      have hd2 := hA.2.2.2.1.2.1
      generalize hP : xe_cp 2 (R (6 + k)) (xe_cp 3 2 M) = P
      have p6 : P.1 6 = M.1 6 := by rw [← hP, cp_ne _ (by omega), cp_ne _ (by omega)]
      have p5 : P.1 5 = M.1 5 := by rw [← hP, cp_ne _ (by omega), cp_ne _ (by omega)]
      have p3 : P.1 3 = M.1 2 := by rw [← hP, cp_ne _ (by omega), cp_to]
      have p2 : P.1 2 = M.1 (R (6 + k)) := by rw [← hP, cp_to, cp_ne _ (by omega)]
      have pr : ∀ r, 7 ≤ r → P.1 r = M.1 r := fun r hr => by rw [← hP, cp_ne _ (by omega), cp_ne _ (by omega)]
      have hPC : hC P n R := h1.congr (by rw [p5]) (by rw [p5]) (by rw [p5]) (by rw [← hP]; rfl)
      obtain ⟨M1, R', r1, c1, c2, c3, c4, c5, c6, c7, c8⟩ := c_record hPC
      have r6 : M1.1 6 = M.1 6 := (c7 6 (by
        have := c1.R_lt (j := n - drp n) (by unfold drp; split <;> omega)
        omega) (by omega)).trans p6
      have ed : P.1 2 0 4 = nI d := by
        rw [p2]
        exact hd
      obtain ⟨M2, m1, m2⟩ := rec_both (T := T) (T' := T) (M := P) (M1 := M1) (τ := M.1 (R (6 + k))) (ans := nI d) (F := fun q4 => (f_X7_copies ((7 : Int32) + nI k) (0 : Int32) q4).bind (fun q6 => some ((q6.1 6 1 4, q6)))) (Nat.le_refl T) hPC (by rw [p6]; exact h2) (by rw [p6]; exact h3) (fun j hj => by
        have := h1.big (j := j) (by omega) (h1.2.2.2.2.2.2.2 j hj)
        rw [p6, pr _ this]
        exact h4 j hj) (fun i hi hi0 => by
        have := h1.big (j := 6 + i) (by omega) hi0
        rw [p6, pr _ this]
        exact h5 i hi hi0) (by rw [p3, p6]; exact h6) (h7.congr (by rw [p5]) (by rw [p5]) (by rw [p6]) (by rw [p6])) p2 c1 c2 c3 c4 c5 c6 c7 c8 (fun M'' hag hfar => by
        have hc := m_copies (a := 7 + k) (c := 0) (M := M'') (by omega) (by omega) (by omega)
        have hc : f_X7_copies (nI (7 + k)) 0 M'' = _ := hc
        have hnow : gS 9999 T (M.1 (R (6 + k))) (cpR (M''.1 6 1) (7 + k) 0 354) 0 := by
          refine hsl.shift (fun i hi => ?_)
          have : cpR (M''.1 6 1) (7 + k) 0 354 (0 + i) = M''.1 6 1 (354 * (7 + k) + i) := cpR_in (c := 0) hi
          rw [this, hfar _ (by omega), r6]
        obtain ⟨W', U', sq', d', kp', nt', hR', hA'⟩ := hnow
        refine ⟨cpR (M''.1 6 1) (7 + k) 0 354, ?_, ⟨W', U', sq', d', kp', nt', hR', hA'⟩, fun j hj => cpR_out (by omega)⟩
        rw [bI_7, hc, Option.bind_some, sp_get]
        have e4 : cpR (M''.1 6 1) (7 + k) 0 354 4 = M.1 (R (6 + k)) 0 4 := hR'.1.2.1
        rw [e4, hd])
      refine ⟨nI d, M1, M2, ?_, ?_, m2⟩
      · unfold f_X6_restore
        have hnl : xd_nul (20, R (6 + k), 0) = false := by
          show (20 == 20 && R (6 + k) == 0) = false
          rw [beq_eq_false_iff_ne.mpr h0, Bool.and_false]
        rw [isFrom_01, hx, Option.bind_some, ite_bI, if_pos rfl, if_pos (in_nI hk (by omega)), cl_nI (by omega), h1.2.2.2.1 k hk, cl_nI (by omega), hnl, if_neg (by decide), if_pos (by rw [bne_iff_ne]; exact h0), hP, ed, recorded_pos (nI_pos (by omega)) r1]
        rfl
      · unfold f_X7_restore
        rw [m_isSlot, hx, Option.bind_some, ite_bI, if_pos rfl, if_pos (in_nI hk (by omega)), cl_nI (by omega), r6, h3 k hk, decide_eq_true h0, if_neg (by decide), m1]
  · refine ⟨-2, M, M, ?_, ?_, hRel⟩
    · unfold f_X6_restore
      rw [isFrom_01, Bool.eq_false_iff.mpr hx]
      rfl
    · unfold f_X7_restore
      rw [m_isSlot, Bool.eq_false_iff.mpr hx]
      rfl
