/-! run, in both -/
theorem q_run {T : Nat} (hT : 10398 ≤ T) (hT2 : T < 2 ^ 30) : callOK T T (f_X6_run) (f_X7_run) := by
  intro M hRel
  have hRel' := hRel
  obtain ⟨n, R, h1, h2, h3, h4, h5, h6, h7⟩ := hRel'
  obtain ⟨L, ch, hc, hm, hL4⟩ := pad_T h7
  have h0 := hc.2.2.1
  have hL := hc.1
  have hn := h1.1
  obtain ⟨g, c1⟩ := c_fault (τ := M.1 2) (g := M.1 5 79) hc
  rw [cm_self] at c1
  have mf : ∀ N : xM, N.1 6 = M.1 6 → ∃ h', f_X7_fault N = some (fF ch L 21 0, mm N h' (N.1 6 1)) ∧ h' 1 = nI n ∧ h' 4 = nI L := by
    intro N hN
    have hm' : mT N L ch := by
      obtain ⟨a, b, c, d, e⟩ := hm
      exact ⟨a, b, c, d, by rw [hN]; exact e⟩
    obtain ⟨h', d1, d2, d3⟩ := m_fault (h := N.1 6 0) (t := N.1 6 1) hm' (by rw [hN]; exact hL4)
    rw [mm_self] at d1
    exact ⟨h', d1, by rw [d2, hN, h2], d3⟩
  have e6 : (cm M (M.1 2) g).1 6 = M.1 6 := cm_r _ _ _ (by omega) (by omega)
  by_cases hF : fF ch L 21 0 = -6
  · rw [hF] at c1
    generalize hN2 : xe_cp 3 2 (cm M (M.1 2) g) = N2
    have n22 : N2.1 2 = M.1 2 := by rw [← hN2, cp_ne _ (by omega), cm_2]
    have n23 : N2.1 3 = M.1 2 := by rw [← hN2, cp_to, cm_2]
    have n25 : ∀ o, o ≠ 79 → N2.1 5 o = M.1 5 o := fun o ho => by rw [← hN2, cp_ne _ (by omega), cm_5 _ _ _ ho]
    have n2r : ∀ r, r ≠ 2 → r ≠ 3 → r ≠ 5 → N2.1 r = M.1 r := fun r a b c => by rw [← hN2, cp_ne _ b, cm_r _ _ _ c a]
    have n2s : N2.2 = M.2 := by rw [← hN2]; rfl
    have hc2 : cT N2 L ch := by
      obtain ⟨a, b, c, d, e⟩ := hc
      exact ⟨a, b, c, by rw [n25 80 (by omega)]; exact d, by rw [n25 81 (by omega)]; exact e⟩
    obtain ⟨v, g', τ', v1, v2, v3⟩ := run_both hT hT2 hL h0 21 0 0 4000 (N2.1 2) (us (N2.1 5 79) 1 0) (M.1 6 1) N2 0 hc2 hF (by omega) (by omega) (by omega) (by rw [n22]; exact h6) (us_eq _ _ _) (by omega)
    generalize hP : xd_up (cm N2 τ' g') 5 80 1 0 = P at *
    have p2 : P.1 2 = τ' := by
      rw [← hP, ← cm_2 N2 τ' g']
      funext o
      exact xu_ne _ _ _ (by omega)
    have pr : ∀ r, r ≠ 2 → r ≠ 3 → r ≠ 5 → P.1 r = M.1 r := fun r a b c => by
      rw [← hP, ← n2r r a b c, ← cm_r N2 τ' g' c a]
      funext o
      exact xu_ne _ _ _ (by omega)
    have p3 : P.1 3 = M.1 2 := by
      rw [← hP, ← n23, ← cm_r N2 τ' g' (r := 3) (by omega) (by omega)]
      funext o
      exact xu_ne _ _ _ (by omega)
    have p5 : ∀ o, o ≠ 79 → o ≠ 80 → P.1 5 o = M.1 5 o := fun o a b => by rw [← hP, xu_ne _ _ _ (by omega), cm_5 _ _ _ a, n25 o a]
    have p80 : P.1 5 80 1 = 0 := by rw [← hP, xu_eq]
    have ps : P.2 = M.2 := by rw [← hP, ← n2s]; rfl
    have p6 : P.1 6 = M.1 6 := pr 6 (by omega) (by omega) (by omega)
    have hPC : hC P n R := h1.congr (p5 76 (by omega) (by omega)) (p5 77 (by omega) (by omega)) (p5 78 (by omega) (by omega)) ps
    obtain ⟨M1, R', r1, k1, k2, k3, k4, k5, k6, k7, k8⟩ := c_record hPC
    have hdn : n - drp n ≤ 5 := by
      unfold drp
      split <;> omega
    have r6 : M1.1 6 = M.1 6 := (k7 6 (by have := k1.R_lt (j := n - drp n) (by omega); omega) (by omega)).trans p6
    obtain ⟨h', d1, d2, d3⟩ := mf M1 r6
    rw [hF] at d1
    obtain ⟨M2, m1, m2⟩ := rec_both2 (T := T) (T' := T) (M := P) (M1 := mm M1 h' (M1.1 6 1)) (τ := τ') (ans := nI v) (v4 := 0) (F := fun q3 => xlp (f_X7_run_l25) 4000 ((0 : Int32), (1 : Int32), xd_up q3 6 0 5 (0 : Int32))) (Nat.le_refl T) hPC (by rw [p6]; exact h3) (fun j hj => by
      have := h1.big (j := j) (by omega) (h1.2.2.2.2.2.2.2 j hj)
      rw [p6, pr _ (by omega) (by omega) (by omega)]
      exact h4 j hj) (fun i hi hi0 => by
      have := h1.big (j := 6 + i) (by omega) hi0
      rw [p6, pr _ (by omega) (by omega) (by omega)]
      exact h5 i hi hi0) (by rw [p3, p6]; exact h6) ⟨0, by omega, p80, rfl, fun i hi => by omega⟩ p2 (k1.congr (by rw [mm_reg _ _ _ (by omega)]) (by rw [mm_reg _ _ _ (by omega)]) (by rw [mm_reg _ _ _ (by omega)]) rfl) k2 k3 k4 (by rw [mm_reg _ _ _ (by omega)]; exact k6) (fun r a b c => by rw [mm_reg _ _ _ c]; exact k7 r a b) (fun o a b => by rw [mm_reg _ _ _ (by omega)]; exact k8 o a b) (by rw [mm_0]; exact d2) (by rw [mm_1, r6, p6]) (by rw [mm_o _ _ _ (by omega) (by omega), r6, p6]) (by rw [mm_o _ _ _ (by omega) (by omega), r6, p6]) (fun M'' ag e3 e4 => by
      rw [mm_1] at ag
      rw [mm_o _ _ _ (by omega) (by omega), r6] at e3
      rw [mm_0, d3] at e4
      have hm' : mT M'' L ch := by
        obtain ⟨a, b, c, d, e⟩ := hm
        exact ⟨a, b, c, d, by rw [e3]; exact e⟩
      obtain ⟨t', h'', w1, w2, w3, w4, w5⟩ := v3 4000 M'' (us (M''.1 6 0) 5 0) (M''.1 6 1) hm' (by omega) (by
        rw [n22]
        rw [r6] at ag
        exact h6.agree ag) (us_eq _ _ _) ((us_ne _ _ (by omega)).trans e4)
      rw [← mm_up, mm_self] at w1
      exact ⟨t', h'', w1, w3.trans (us_ne _ _ (by omega)), w4, w2, w5⟩)
    refine ⟨nI v, M1, M2, ?_, ?_, m2⟩
    · unfold f_X6_run
      rw [c1, Option.bind_some]
      dsimp only
      rw [if_pos rfl, hN2]
      have eg : f_X1_goToStart N2 = some (cm N2 (N2.1 2) (us (N2.1 5 79) 1 0)) := by
        unfold f_X1_goToStart
        rw [← cm_up, cm_self]
      rw [eg, Option.bind_some]
      refine Eq.trans v2 ?_
      unfold f_X6_run_j77 f_X3_clear
      rw [Option.bind_some]
      dsimp only
      rw [hP, recorded_pos (nI_pos (by omega)) r1]
      rfl
    · unfold f_X7_run
      rw [d1, Option.bind_some]
      dsimp only
      rw [if_pos rfl]
      exact m1
  · obtain ⟨h', d1, d2, d3⟩ := mf (cm M (M.1 2) g) e6
    refine ⟨-3, cm M (M.1 2) g, mm (cm M (M.1 2) g) h' ((cm M (M.1 2) g).1 6 1), ?_, ?_, (hRel.cm g).mm (by rw [d2, e6, h2]) (by rw [d3, e6, hL4])⟩
    · unfold f_X6_run
      rw [c1, Option.bind_some]
      dsimp only
      rw [if_neg hF]
    · unfold f_X7_run
      rw [d1, Option.bind_some]
      dsimp only
      rw [if_neg hF]
