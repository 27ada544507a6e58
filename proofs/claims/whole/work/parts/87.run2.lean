/-! the deeds of a text done, in both -/
theorem run_both {T L : Nat} {ch : Nat → Nat} (hT : 10398 ≤ T) (hT2 : T < 2 ^ 30) (hL : L ≤ 60) (h0 : ∀ i, L ≤ i → ch i = 0) : ∀ (n k i fc : Nat) (τ : Nat → Nat → Int32) (g t0 : Nat → Int32) (MC : xM) (done : Nat), cT MC L ch → fF ch L n i = -6 → i ≤ L → 3 * k ≤ i → n + 2 ≤ fc → gS 9999 T τ t0 0 → g 1 = nI i → done + n ≤ 10000 → ∃ v g' τ', v ≤ done + n ∧ xlp (f_X6_run_l37) fc (nI done, nI k, cm MC τ g) = f_X6_run_j77 (nI v) (cm MC τ' g') ∧ ∀ (fm : Nat) (MM : xM) (h t : Nat → Int32), mT MM L ch → n + 2 ≤ fm → gS 9999 T τ t 0 → h 5 = nI i → h 4 = nI L → ∃ t' h', xlp (f_X7_run_l25) fm (nI done, (1, mm MM h t)) = some (nI v, mm MM h' t') ∧ gS 9999 T τ' t' 0 ∧ h' 1 = h 1 ∧ h' 4 = 0 ∧ mFr t t' 0
  | 0, k, i, fc, τ, g, t0, MC, done, hc, hf, hi, hk, hfc, hS, hg, hd => by
    have hf : nI i = -6 := hf
    exact absurd hf (nI_ne6 (by omega))
  | n + 1, k, i, fc, τ, g, t0, MC, done, hc, hf, hi, hk, hfc, hS, hg, hd => by
    obtain ⟨fc, rfl⟩ : ∃ f, fc = f + 1 := ⟨fc - 1, by omega⟩
    rw [fF_s] at hf
    have hok : (dP ch i).1 = true := by
      cases hq : (dP ch i).1
      · rw [hq, if_neg (by decide)] at hf
        have := (dP_le h0 hi).1
        exact absurd hf (nI_ne6 (by omega))
      · rfl
    rw [if_pos hok] at hf
    obtain ⟨l1, l2⟩ := dP_le h0 hi
    have l3 := l2 hok
    obtain ⟨g1, d1, d2, d3⟩ := c_deed (τ := τ) hc (by omega) hg
    rw [hok] at d1
    obtain ⟨C, E, F, hop, hC, hEF⟩ := deed_op (T := T) hT hT2 hok
    have hCN := hC (cm MC τ g1) (by rw [cm_79]; exact d3 hok)
    have det := op_det hop (N := cm MC τ g1) (t0 := t0) (by rw [cm_2]; exact hS)
    -- what is left to do behind the deed
    have rest : ∀ (τ1 : Nat → Nat → Int32) (done1 : Nat) (t1 : Nat → Int32), done1 ≤ done + 1 → gS 9999 T τ1 t1 0 → ∃ v g' τ', v ≤ done1 + n ∧ (∀ b, (f_X1_readSemicolon (cm MC τ1 g1)).bind (fun q13 => some (Sum.inl (nI done1, nI k + (1 : Int32), q13.2))) = b → b = f_X6_run_l37 (nI done, nI k, cm MC τ g) → xlp (f_X6_run_l37) (fc + 1) (nI done, nI k, cm MC τ g) = f_X6_run_j77 (nI v) (cm MC τ' g')) ∧ ∀ (fm : Nat) (MM : xM) (h t : Nat → Int32), mT MM L ch → n + 2 ≤ fm → gS 9999 T τ1 t 0 → h 5 = nI (dP ch i).2.1 → h 4 = nI L → ∃ t' h', (∀ s, (f_X7_reads (59 : Int32) (59 : Int32) (mm MM h t)).bind (fun q9 => if q9.1 = (-6 : Int32) then (some (Sum.inl (nI done1, (0 : Int32), q9.2))) else (some (Sum.inl (nI done1, (1 : Int32), q9.2)))) = f_X7_run_l25 s → xlp (f_X7_run_l25) (fm + 1) s = some (nI v, mm MM h' t')) ∧ gS 9999 T τ' t' 0 ∧ h' 1 = h 1 ∧ h' 4 = 0 ∧ mFr t t' 0 := by
      intro τ1 done1 t1 hd1 hS1
      by_cases h59 : ch (dP ch i).2.1 = 59
      · rw [if_pos h59] at hf
        have lt := nz_lt h0 (show ch (dP ch i).2.1 ≠ 0 by omega)
        obtain ⟨v, g', τ', v1, v2, v3⟩ := run_both hT hT2 hL h0 n (k + 1) ((dP ch i).2.1 + 1) fc τ1 (us (us g1 2 (nI (ch (dP ch i).2.1))) 1 (nI ((dP ch i).2.1 + 1))) t1 MC done1 hc hf (by omega) (by omega) (by omega) hS1 (us_eq _ _ _) (by omega)
        refine ⟨v, g', τ', v1, fun b hb hb2 => ?_, fun fm MM h t hm hfm hSt h5 h4 => ?_⟩
        · rw [c_semi hc (by omega) d2, if_pos h59, Option.bind_some, aI_1] at hb
          rw [← v2]
          exact xlp_in (hb2.symm.trans hb.symm)
        · obtain ⟨t', h', w1, w2, w3, w4, w5⟩ := v3 fm MM (us h 5 (nI ((dP ch i).2.1 + 1))) t hm hfm hSt (us_eq _ _ _) ((us_ne _ _ (by omega)).trans h4)
          refine ⟨t', h', fun s hs => ?_, w2, w3.trans (us_ne _ _ (by omega)), w4, w5⟩
          have r : f_X7_reads 59 59 (mm MM h t) = _ := m_reads (a := 59) (b := 59) hm h5 h4 (by omega) (by omega) (by omega) (by omega)
          rw [r, if_pos (by omega), Option.bind_some] at hs
          dsimp only at hs
          rw [if_neg (nI_ne6 (by have := hc.2.1 (dP ch i).2.1; omega))] at hs
          rw [← w1]
          exact xlp_in hs.symm
      · rw [if_neg h59] at hf
        have hpL : (dP ch i).2.1 = L := by
          by_cases z : (dP ch i).2.1 = L
          · exact z
          · rw [if_neg z] at hf
            exact absurd hf (nI_ne6 (by omega))
        have hdL : dP ch L = (false, (L, 0)) := by
          have z := h0 L (Nat.le_refl L)
          unfold dP
          rw [if_neg (by omega), if_neg (by omega), if_neg (by omega)]
        obtain ⟨g2, e1, e2, -⟩ := c_deed (τ := τ1) hc (i := L) hL (d2.trans (by rw [hpL]))
        rw [hdL] at e1
        refine ⟨done1, g2, τ1, by omega, fun b hb hb2 => ?_, fun fm MM h t hm hfm hSt h5 h4 => ?_⟩
        · rw [c_semi hc (by omega) d2, if_neg h59, Option.bind_some, aI_1] at hb
          refine (xlp_in (hb2.symm.trans hb.symm)).trans ?_
          obtain ⟨f2, rfl⟩ : ∃ f, fc = f + 1 := ⟨fc - 1, by omega⟩
          refine xlp_opt ?_
          unfold f_X6_run_l37
          dsimp only
          by_cases hk60 : k + 1 < 60
          · rw [if_pos (lt_60 hk60 ▸ trivial), e1, Option.bind_some]
            dsimp only
            rw [if_pos (by rfl)]
          · omega
        · refine ⟨t, us h 4 0, fun s hs => ?_, hSt, us_ne _ _ (by omega), us_eq _ _ _, mFr.refl _ _⟩
          have r : f_X7_reads 59 59 (mm MM h t) = _ := m_reads (a := 59) (b := 59) hm h5 h4 (by omega) (by omega) (by omega) (by omega)
          rw [r, if_neg (by omega), Option.bind_some] at hs
          dsimp only at hs
          rw [if_pos rfl] at hs
          refine (xlp_in hs.symm).trans ?_
          obtain ⟨f2, rfl⟩ : ∃ f, fm = f + 1 := ⟨fm - 1, by omega⟩
          refine xlp_out ?_
          unfold f_X7_run_l25
          dsimp only
          rw [if_pos rfl, mm_up]
          rfl
    have cbody : f_X6_run_l37 (nI done, nI k, cm MC τ g) = (C (cm MC τ g1)).bind (fun q11 => if q11.1 < (0 : Int32) then (f_X6_run_j63_37 (nI done) (nI k) q11.2) else (f_X6_run_j63_37 (nI done + (1 : Int32)) (nI k) q11.2)) := by
      unfold f_X6_run_l37
      dsimp only
      rw [if_pos (lt_60 (show k < 60 by omega) ▸ trivial), d1, Option.bind_some]
      dsimp only
      rw [if_neg (by decide), hCN]
    have mbody : ∀ (MM : xM) (h t : Nat → Int32), mT MM L ch → h 5 = nI i → h 4 = nI L → ∃ h1, h1 5 = nI (dP ch i).2.1 ∧ h1 1 = h 1 ∧ h1 4 = nI L ∧ f_X7_run_l25 (nI done, (1, mm MM h t)) = (E (mm MM h1 t)).bind (fun q15 => if q15 = (0 : Int32) then (F (mm MM h1 t)).bind (fun q12 => f_X7_run_j62_25 (nI done) 1 q12.1 q12.2) else (f_X7_run_j62_25 (nI done) 0 (-6) (mm MM h1 t))) := by
      intro MM h t hm h5 h4
      obtain ⟨h1, m1, m5, m2, m4, m3⟩ := m_deed (t := t) hm (by omega) h5 h4
      rw [hok] at m1
      obtain ⟨x1, x2⟩ := hEF (mm MM h1 t) (by rw [mm_0]; exact m3 hok)
      refine ⟨h1, m5, m2, m4.trans h4, ?_⟩
      unfold f_X7_run_l25
      dsimp only
      rw [if_neg (show ¬ (1 : Int32) = 0 by decide), m1, Option.bind_some]
      dsimp only
      rw [if_neg (show ¬ bI true = 0 by decide), x1]
      unfold f_X7_run_j47_25 f_X7_run_j48_25
      rw [x2]
      congr 1
    rcases det with ⟨e, e1, e2, e3⟩ | ⟨ans, τ1, t1, e1, e2, e4, e3⟩
    · obtain ⟨v, g', τ', v1, v2, v3⟩ := rest τ done t0 (by omega) hS
      refine ⟨v, g', τ', by omega, ?_, fun fm MM h t hm hfm hSt h5 h4 => ?_⟩
      · refine v2 _ rfl ?_
        rw [cbody, e2, Option.bind_some]
        dsimp only
        rw [if_pos e1]
        rfl
      · obtain ⟨h1, m5, m2, m4, mb⟩ := mbody MM h t hm h5 h4
        obtain ⟨fm, rfl⟩ : ∃ f, fm = f + 1 := ⟨fm - 1, by omega⟩
        obtain ⟨t', h', w1, w2, w3, w4, w5⟩ := v3 fm MM h1 t hm (by omega) hSt m5 m4
        refine ⟨t', h', w1 _ ?_, w2, w3.trans m2, w4, w5⟩
        have hE := e3 (mm MM h1 t) (by rw [cm_2, mm_1]; exact hSt)
        have ne : ¬ e = 0 := fun z => by
          rw [z] at e1
          exact i_zero e1
        rw [mb, hE, Option.bind_some, if_neg ne]
        unfold f_X7_run_j62_25
        rw [m_flag0, Option.bind_some, Int32.add_zero]
    · rw [cm_put] at e2
      obtain ⟨v, g', τ', v1, v2, v3⟩ := rest τ1 (done + 1) t1 (by omega) e4
      refine ⟨v, g', τ', by omega, ?_, fun fm MM h t hm hfm hSt h5 h4 => ?_⟩
      · refine v2 _ rfl ?_
        rw [cbody, e2, Option.bind_some]
        dsimp only
        rw [if_neg e1, show nI done + (1 : Int32) = nI (done + 1) from aI_1 done]
        rfl
      · obtain ⟨h1, m5, m2, m4, mb⟩ := mbody MM h t hm h5 h4
        obtain ⟨fm, rfl⟩ : ∃ f, fm = f + 1 := ⟨fm - 1, by omega⟩
        obtain ⟨hE, t2, hF1, hF2, hF3⟩ := e3 (mm MM h1 t) (by rw [cm_2, mm_1]; exact hSt)
        rw [mm_sp] at hF1
        rw [mm_1] at hF3
        obtain ⟨t', h', w1, w2, w3, w4, w5⟩ := v3 fm MM h1 t2 hm (by omega) hF2 m5 m4
        refine ⟨t', h', w1 _ ?_, w2, w3.trans m2, w4, hF3.trans w5⟩
        rw [mb, hE, Option.bind_some, if_pos rfl, hF1, Option.bind_some]
        unfold f_X7_run_j62_25
        rw [m_flag1, Option.bind_some, aI_1]
theorem rec_both2 {T T' : Nat} {M M1 : xM} {n : Nat} {R R' : Nat → Nat} {τ : Nat → Nat → Int32} {ans v4 : Int32} {F : xM → Option (Int32 × xM)} (hT : T ≤ T') (h1 : hC M n R) (h3 : ∀ k, k < 2 → M.1 6 2 k = bI (decide (R (6 + k) ≠ 0))) (h4 : ∀ j, j < n → gS 9999 T (M.1 (R j)) (M.1 6 1) (354 * (j + 1))) (h5 : ∀ k, k < 2 → R (6 + k) ≠ 0 → gS 9999 T (M.1 (R (6 + k))) (M.1 6 1) (354 * (7 + k))) (h6 : gS 9999 T (M.1 3) (M.1 6 1) 0) (h7 : ∃ L, L ≤ 60 ∧ M.1 5 80 1 = nI L ∧ v4 = nI L ∧ ∀ i, i < L → ∃ c, 33 ≤ c ∧ c ≤ 126 ∧ M.1 5 81 i = nI c ∧ M.1 6 3 i = nI c) (hτ : M.1 2 = τ)
    (c1 : hC M1 (n - drp n + 1) R') (c2 : ∀ k, k < n - drp n → R' k = R (k + drp n)) (c3 : R' 6 = R 6) (c4 : R' 7 = R 7) (c6 : M1.1 (R' (n - drp n)) = M.1 3) (c7 : ∀ r, r ≠ R' (n - drp n) → r ≠ 5 → r ≠ 6 → M1.1 r = M.1 r) (c8 : ∀ o, o ≠ 76 → o ≠ 77 → M1.1 5 o = M.1 5 o) (s0 : M1.1 6 0 1 = nI n) (s1 : M1.1 6 1 = M.1 6 1) (s2 : M1.1 6 2 = M.1 6 2) (s3 : M1.1 6 3 = M.1 6 3)
    (hF : ∀ M'' : xM, mAg (M1.1 6 1) (M''.1 6 1) 0 → M''.1 6 3 = M1.1 6 3 → M''.1 6 0 4 = M1.1 6 0 4 → ∃ t h, F M'' = some (ans, mm M'' h t) ∧ h 1 = M''.1 6 0 1 ∧ h 4 = v4 ∧ gS 9999 T' τ t 0 ∧ mFr (M''.1 6 1) t 0) : ∃ M2, (f_X7_changes M1).bind F = some (ans, M2) ∧ Rel T' M2 := by
  have hn := h1.1
  have hdn : n - drp n ≤ 5 := by
    unfold drp
    split <;> omega
  have hdn2 : n - drp n + drp n = n := by
    unfold drp
    split <;> omega
  have hch := m_changes (n := n) (M := M1) hn s0
  generalize hN : sp (xd_up M1 6 0 1 (nI (n - drp n + 1))) (chR (M1.1 6 1) n) = N at hch
  have n1 : N.1 6 1 = chR (M1.1 6 1) n := by rw [← hN, sp_get]
  have n3 : ∀ o, o ≠ 0 → o ≠ 1 → N.1 6 o = M1.1 6 o := fun o a b => by rw [← hN, sp_ne _ _ (by omega), xu_ne _ _ _ (by omega)]
  have n01 : N.1 6 0 1 = nI (n - drp n + 1) := by rw [← hN, sp_ne _ _ (by omega), xu_eq]
  have n04 : N.1 6 0 4 = M1.1 6 0 4 := by rw [← hN, sp_ne _ _ (by omega), up_rp, rp_get, us_ne _ _ (by omega)]
  have nr : ∀ r, r ≠ 6 → N.1 r = M1.1 r := fun r hr => by
    rw [← hN, sp_reg _ _ hr]
    funext o
    exact xu_ne _ _ _ (by omega)
  have n2 : N.2 = M1.2 := by rw [← hN]; rfl
  obtain ⟨t, h, t1, t2, t3, t4, t5⟩ := hF N (fun j _ hj => by rw [n1]; exact chR_0 (by omega)) (n3 3 (by omega) (by omega)) n04
  rw [n1] at t5
  have reg : ∀ r, r ≠ 6 → (mm N h t).1 r = M1.1 r := fun r hr => (mm_reg _ _ _ hr).trans (nr r hr)
  refine ⟨mm N h t, ?_, n - drp n + 1, R', ?_, ?_, fun k hk => ?_, fun j hj => ?_, fun k hk h0 => ?_, ?_, ?_⟩
  · rw [hch, Option.bind_some, t1]
  · exact c1.congr (by rw [reg 5 (by omega)]) (by rw [reg 5 (by omega)]) (by rw [reg 5 (by omega)]) n2
  · rw [mm_0, t2, n01]
  · rw [mm_o _ _ _ (by omega) (by omega), n3 2 (by omega) (by omega), s2, h3 k hk]
    have : R' (6 + k) = R (6 + k) := by
      rcases (by omega : k = 0 ∨ k = 1) with rfl | rfl
      · exact c3
      · exact c4
    rw [this]
  · have hb := c1.big (j := j) (by omega) (c1.2.2.2.2.2.2.2 j hj)
    rw [reg _ (by omega), mm_1]
    by_cases e : j = n - drp n
    · rw [e, c6]
      refine ((h6.mono hT).shift (b' := 354 * (n - drp n + 1)) (fun i hi => ?_))
      rw [t5 _ (by omega), chR_new hi, s1, Nat.zero_add]
    · have hj2 : j < n - drp n := by omega
      rw [c7 _ (fun z => c1.2.2.2.2.2.2.1 j (n - drp n) (by omega) (by omega) e (c1.2.2.2.2.2.2.2 j hj) z) (by omega) (by omega), c2 j hj2]
      refine (((h4 (j + drp n) (by omega)).mono hT).shift (fun i hi => ?_))
      rw [t5 _ (by omega), chR_old hn hj2 hi, s1]
  · have eR : R' (6 + k) = R (6 + k) := by
      rcases (by omega : k = 0 ∨ k = 1) with rfl | rfl
      · exact c3
      · exact c4
    have hb := c1.big (j := 6 + k) (by omega) h0
    rw [reg _ (by omega), mm_1, c7 _ (fun z => c1.2.2.2.2.2.2.1 (6 + k) (n - drp n) (by omega) (by omega) (by omega) h0 z) (by omega) (by omega), eR]
    refine (((h5 k hk (by rw [← eR]; exact h0)).mono hT).shift (fun i hi => ?_))
    rw [t5 _ (by omega), chR_far hn (by omega), s1]
  · have hb : R' (n - drp n) ≠ 2 := by
      have := c1.big (j := n - drp n) (by omega) (c1.2.2.2.2.2.2.2 (n - drp n) (by omega))
      omega
    rw [reg 2 (by omega), c7 2 (fun z => hb z.symm) (by omega) (by omega), hτ, mm_1]
    exact t4
  · obtain ⟨L, p1, p2, p3, p4⟩ := h7
    refine ⟨L, p1, ?_, ?_, fun i hi => ?_⟩
    · rw [reg 5 (by omega), c8 80 (by omega) (by omega)]
      exact p2
    · rw [mm_0, t3]
      exact p3
    · rw [reg 5 (by omega), c8 81 (by omega) (by omega), mm_o _ _ _ (by omega) (by omega), n3 3 (by omega) (by omega), s3]
      exact p4 i hi
