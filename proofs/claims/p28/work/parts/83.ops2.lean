/-! bicycles -/
theorem c_rackNo {σ : Nat → Nat → Int32} {x : Int32} {C : Nat → xM → Option (Int32 × xM)} (h1 : rg 20 x = false → ∀ r M, C r M = some (-1, M)) (h2 : ∀ p, p < 20 → x = nI p → σ 19 p = -6 → ∀ r M, M.1 r = σ → C r M = some (-5, M)) : (∃ e, e < 0 ∧ ∀ r M, M.1 r = σ → C r M = some (e, M)) ∨ ∃ p, p < 20 ∧ x = nI p ∧ σ 19 p ≠ -6 := by
  by_cases hx : rg 20 x = true
  · obtain ⟨p, hp, rfl⟩ := (rg_iff (by omega)).mp hx
    by_cases h6 : σ 19 p = -6
    · exact Or.inl ⟨-5, i_neg5, h2 p hp rfl h6⟩
    · exact Or.inr ⟨p, hp, rfl, h6⟩
  · exact Or.inl ⟨-1, i_neg1, fun r M _ => h1 (Bool.eq_false_iff.mpr hx) r M⟩
/-- changes of bicycles alone -/
theorem sZ.bikes {D T Bg Bt : Nat} {σ τ : Nat → Nat → Int32} {W : Nat → List Nat} {U : Nat → Nat} {sq d kp nt : Nat} (hA : gA d T σ W U sq d kp nt) (hY : cY Bg Bt σ W d) (hF : cF σ W U sq) (hd : d ≤ D) (e : ∀ o j, o < 19 → τ o j = σ o j) (hB : cB τ d) (hP : cP τ) (h23 : ∀ p, p < 20 → τ 23 p = σ 23 p ∨ τ 23 p = -6) (h24 : ∀ p, τ 24 p = σ 24 p) : sZ (D + 6) (T + 99) (Bg + 1000) (Bt + 20) τ := by
  have hA' : gA d T τ W U sq d kp nt := hA.bikes (fun o j ho => e o j (by omega)) hB (fun p hp => by
    rcases h23 p hp with z | z
    · rw [z]
      exact hA.2.2.2.1.2.2.2.2.2 p hp
    · exact Or.inl z)
  refine sZ.make (Bg := Bg) (Bt := Bt) hA' ⟨hY.1.congr (fun o j h1 h2 => e o j (by omega)) (Nat.le_refl d), hP, hY.2.2.1.congr (fun o j h1 => e o j (by omega)), hY.2.2.2.1.congr (e 3 5 (by omega)) (fun q _ z => by rw [e 4 q (by omega)] at z; exact z) (Nat.le_refl _), ?_⟩ (hF.congr (fun j => e 4 j (by omega))) (by omega) (by omega) (by omega) (by omega)
  obtain ⟨t, s, h1, h2, h3, h4⟩ := hY.2.2.2.2
  refine ⟨t, s, (e 18 6 (by omega)).trans h1, fun p hp => (h24 p).trans (h2 p hp), Nat.le_trans (Nat.add_le_add_right (cnt_mono 20 (fun p hp z => ?_)) _) h3, h4⟩
  simp only [Bool.not_eq_true', decide_eq_false_iff_not] at z ⊢
  rcases h23 p hp with w | w
  · rw [← w]
    exact z
  · exact absurd w z
theorem p_ride {D T Bg Bt : Nat} {σ : Nat → Nat → Int32} (h : sZ D T Bg Bt σ) (x : Int32) : opS D T Bg Bt σ (fun r => f_X5_rideAway r x) := by
  obtain ⟨W, U, sq, d, kp, nt, hA, hY, hF, hd⟩ := h
  rcases c_rackNo (σ := σ) (x := x) (C := fun r => f_X5_rideAway r x) (fun hx r M => by
    show f_X5_rideAway r _ M = _
    unfold f_X5_rideAway
    simp only [c_isPerson, hx, Option.bind_some, ite_bI, Bool.false_eq_true, if_false]) (fun p hp e h6 r M hM => by
    subst e hM
    show f_X5_rideAway r _ M = _
    unfold f_X5_rideAway
    simp only [c_isPerson, c_isInRack hp, rg_nI hp (show 20 < 2 ^ 31 by omega), h6, decide_true, Bool.not_true, Option.bind_some, ite_bI, if_true, Bool.false_eq_true, if_false]) with z | ⟨p, hp, rfl, h6⟩
  · exact Or.inl z
  · rcases hA.2.2.2.2.2.1.1 p hp with b | ⟨sh, k, pk, b1, b2, b3, b4, b5, b6, b7⟩
    · exact absurd b.1 h6
    · have v1 := hA.2.2.2.1.1
      have v2 := hA.2.2.2.1.2.1
      refine Or.inr ⟨nI (d - pk), zLR p σ, nI_pos (by omega), fun r M hM => ?_, sZ.bikes hA hY hF hd (fun o j ho => zLR_other (by omega)) (hA.2.2.2.2.2.1.leave) (fun q hq h19 => ?_) (fun q _ => Or.inl (zLR_other (by omega))) (fun q => zLR_other (by omega))⟩
      · subst hM
        show f_X5_rideAway r _ M = _
        unfold f_X5_rideAway
        simp (disch := omega) only [c_isPerson, c_isInRack hp, rg_nI hp (show 20 < 2 ^ 31 by omega), decide_eq_false h6, Bool.not_false, Option.bind_some, ite_bI, if_true, in_nI, cl_nI, c_leaveRack hp, b6, v1, sub_nI b3]
        rfl
      · rw [zLR_other (by omega)]
        by_cases e : q = p
        · subst e
          exact absurd zLR_p.1 h19
        · rw [zLR_col e] at h19
          exact hY.2.1 q hq h19
theorem p_answer {D T Bg Bt : Nat} {σ : Nat → Nat → Int32} (h : sZ D T Bg Bt σ) (x : Int32) : opS D T Bg Bt σ (fun r => f_X5_answerFor r x) := by
  obtain ⟨W, U, sq, d, kp, nt, hA, hY, hF, hd⟩ := h
  rcases c_rackNo (σ := σ) (x := x) (C := fun r => f_X5_answerFor r x) (fun hx r M => by
    show f_X5_answerFor r _ M = _
    unfold f_X5_answerFor
    simp only [c_isPerson, hx, Option.bind_some, ite_bI, Bool.false_eq_true, if_false]) (fun p hp e h6 r M hM => by
    subst e hM
    show f_X5_answerFor r _ M = _
    unfold f_X5_answerFor
    simp only [c_isPerson, c_isInRack hp, rg_nI hp (show 20 < 2 ^ 31 by omega), h6, decide_true, Bool.not_true, Option.bind_some, ite_bI, if_true, Bool.false_eq_true, if_false]) with z | ⟨p, hp, rfl, h6⟩
  · exact Or.inl z
  · rcases hA.2.2.2.2.2.1.1 p hp with b | ⟨sh, k, pk, b1, b2, b3, b4, b5, b6, b7⟩
    · exact absurd b.1 h6
    · have v1 := hA.2.2.2.1.1
      have v2 := hA.2.2.2.1.2.1
      have hcol : ∀ o j, ¬ (o = 21 ∧ j = p) → ¬ (o = 22 ∧ j = p) → ud (ud σ 21 p (σ 0 4)) 22 p (-6) o j = σ o j := fun o j a1 a2 => (ud_ne _ _ a2).trans (ud_ne _ _ a1)
      refine Or.inr ⟨bI (!decide (σ 22 p = -6)), ud (ud σ 21 p (σ 0 4)) 22 p (-6), bI_ge _, fun r M hM => ?_, sZ.bikes hA hY hF hd (fun o j ho => hcol o j (by omega) (by omega)) ⟨fun q hq => ?_, fun q q' hq hq' hn => ?_⟩ (hY.2.1.congr (fun o j h1 => hcol o j (by omega) (by omega))) (fun q _ => Or.inl (hcol 23 q (by omega) (by omega))) (fun q => hcol 24 q (by omega) (by omega))⟩
      · subst hM
        show f_X5_answerFor r _ M = _
        unfold f_X5_answerFor f_X5_answerFor_j39
        simp (disch := omega) only [c_isPerson, c_isInRack hp, c_isTagged hp, rg_nI hp (show 20 < 2 ^ 31 by omega), decide_eq_false h6, Bool.not_false, Option.bind_some, ite_bI, if_true, in_nI, cl_nI, up_put, put_get, put_put]
        by_cases h22 : M.1 r 22 p = -6
        · simp only [h22, decide_true, Bool.not_true, Bool.false_eq_true, if_false]
          rfl
        · simp only [decide_eq_false h22, Bool.not_false, if_true]
          rfl
      · by_cases e : q = p
        · subst e
          right
          refine ⟨sh, k, d, b1, b2, Nat.le_refl d, (hcol _ _ (by omega) (by omega)).trans b4, (hcol _ _ (by omega) (by omega)).trans b5, ?_, Or.inl (ud_eq _ _ _ _)⟩
          rw [ud_ne _ _ (by omega), ud_eq, v1]
        · rw [hcol 19 q (by omega) (by omega), hcol 20 q (by omega) (by omega), hcol 21 q (by omega) (by omega), hcol 22 q (by omega) (by omega)]
          exact hA.2.2.2.2.2.1.1 q hq
      · rw [hcol 19 q (by omega) (by omega), hcol 19 q' (by omega) (by omega), hcol 20 q (by omega) (by omega), hcol 20 q' (by omega) (by omega)]
        exact hA.2.2.2.2.2.1.2 q q' hq hq' hn
theorem p_fetch {D T Bg Bt : Nat} {σ : Nat → Nat → Int32} (h : sZ D T Bg Bt σ) (x : Int32) : opS D T Bg Bt σ (fun r => f_X5_fetchFromPound r x) := by
  obtain ⟨W, U, sq, d, kp, nt, hA, hY, hF, hd⟩ := h
  by_cases hx : rg 20 x = true
  · obtain ⟨p, hp, rfl⟩ := (rg_iff (by omega)).mp hx
    rcases hA.2.2.2.1.2.2.2.2.2 p hp with h6 | ⟨k, k1, k2⟩
    · refine Or.inl ⟨-5, i_neg5, fun r M hM => ?_⟩
      subst hM
      show f_X5_fetchFromPound r _ M = _
      unfold f_X5_fetchFromPound
      simp only [c_isPerson, c_isInPound hp, hx, h6, decide_true, Bool.not_true, Option.bind_some, ite_bI, if_true, Bool.false_eq_true, if_false]
    · have v1 := hA.2.2.2.1.1
      have v2 := hA.2.2.2.1.2.1
      have h6 : ¬ nI k = -6 := nI_ne6 (by omega)
      have ot : ∀ o j, o ≠ 23 → ud σ 23 p (-6) o j = σ o j := fun o j ho => ud_ne _ _ (fun z => ho z.1)
      have o23 : ∀ q, ud σ 23 p (-6) 23 q = σ 23 q ∨ ud σ 23 p (-6) 23 q = -6 := fun q => by
        by_cases e : q = p
        · subst e
          exact Or.inr (ud_eq _ _ _ _)
        · exact Or.inl (ud_col _ _ _ _ e)
      refine Or.inr ⟨nI (d - k), ud σ 23 p (-6), nI_pos (by omega), fun r M hM => ?_, sZ.bikes hA hY hF hd (fun o j ho => ot o j (by omega)) (hA.2.2.2.2.2.1.congr (fun o j h1 h2 => ot o j (by omega))) (fun q hq h19 => ?_) (fun q _ => o23 q) (fun q => ot 24 q (by omega))⟩
      · subst hM
        show f_X5_fetchFromPound r _ M = _
        unfold f_X5_fetchFromPound
        simp (disch := omega) only [c_isPerson, c_isInPound hp, hx, k2, decide_eq_false h6, Bool.not_false, Option.bind_some, ite_bI, if_true, in_nI, cl_nI, v1, sub_nI k1, up_put]
      · rw [ot 19 q (by omega)] at h19
        rcases o23 q with z | z
        · rw [z]
          exact hY.2.1 q hq h19
        · exact z
  · refine Or.inl ⟨-1, i_neg1, fun r M hM => ?_⟩
    show f_X5_fetchFromPound r _ M = _
    unfold f_X5_fetchFromPound
    simp only [c_isPerson, hx, Option.bind_some, ite_bI, Bool.false_eq_true, if_false]
theorem p_park {D T Bg Bt : Nat} {σ : Nat → Nat → Int32} (h : sZ D T Bg Bt σ) (x : Int32) : opS D T Bg Bt σ (fun r => f_X5_parkBicycle r x) := by
  obtain ⟨W, U, sq, d, kp, nt, hA, hY, hF, hd⟩ := h
  by_cases hx : rg 20 x = true
  · obtain ⟨p, hp, rfl⟩ := (rg_iff (by omega)).mp hx
    have hperm := hA.2.2.2.1.2.2.2.2.1 p hp
    by_cases h4 : σ 4 p = -6
    · refine Or.inl ⟨-5, i_neg5, fun r M hM => ?_⟩
      subst hM
      show f_X5_parkBicycle r _ M = _
      unfold f_X5_parkBicycle
      simp only [c_isPerson, c_hasPermit hp, hx, h4, rg_6, Option.bind_some, ite_bI, if_true, Bool.false_eq_true, if_false]
    · obtain ⟨sh, hs, hsh⟩ := (rg_iff (by omega)).mp (hperm.resolve_left h4)
      by_cases h19 : σ 19 p = -6
      · rcases hA.2.2.2.1.2.2.2.2.2 p hp with h23 | ⟨k, k1, k2⟩
        · have hUs := hA.2.2.1.2.2 sh hs
          have hlow : ∀ r (M : xM), M.1 r = σ → f_X5_lowestFreeRack r (nI sh) M = some (low (fun k => (U sh).testBit k && decide (own σ sh k 20 = -6)) 8) := by
            intro r M hM
            subst hM
            exact c_lowestFree hA.2.2.2.2.2.1 hs hUs.1 hUs.2
          rcases low_cases (fun k => (U sh).testBit k && decide (own σ sh k 20 = -6)) with hl | ⟨k, k1, k2, k3⟩
          · refine Or.inl ⟨-4, i_neg4, fun r M hM => ?_⟩
            have hlow := hlow r M hM
            subst hM
            show f_X5_parkBicycle r _ M = _
            unfold f_X5_parkBicycle
            simp (disch := omega) only [c_isPerson, c_hasPermit hp, c_isInRack hp, c_isInPound hp, hx, rg3_nI hs, h19, h23, decide_true, Bool.not_true, Bool.not_false, Option.bind_some, ite_bI, if_true, Bool.false_eq_true, if_false, in_nI, cl_nI, hsh, hlow, hl]
          · have hk6 : ¬ nI k = -6 := nI_ne6 (by omega)
            have hkb := Bool.and_eq_true_iff.mp k2
            have hfree := of_decide_eq_true hkb.2
            rw [own_none (Nat.le_refl 20)] at hfree
            have ot : ∀ o j, ¬ (19 ≤ o ∧ o < 22 ∧ j = p) → zPk p sh k (σ 0 4) σ o j = σ o j := by
              intro o j h
              unfold zPk
              rw [ud_ne _ _ (by omega), ud_ne _ _ (by omega), ud_ne _ _ (by omega)]
            have z19 : zPk p sh k (σ 0 4) σ 19 p = nI sh := by
              unfold zPk
              rw [ud_ne _ _ (by omega), ud_ne _ _ (by omega), ud_eq]
            have z20 : zPk p sh k (σ 0 4) σ 20 p = nI k := by
              unfold zPk
              rw [ud_ne _ _ (by omega), ud_eq]
            have h22 : σ 22 p = -6 := by
              rcases hA.2.2.2.2.2.1.1 p hp with z | ⟨sh', k', pk, b1, b2, b3, b4, b5, b6, b7⟩
              · exact z.2.2.2
              · exact absurd (b4.symm.trans h19) (nI_ne6 (by omega))
            refine Or.inr ⟨nI k, zPk p sh k (σ 0 4) σ, nI_pos (by omega), fun r M hM => ?_, sZ.bikes hA hY hF hd (fun o j ho => ot o j (by omega)) ⟨fun q hq => ?_, fun q q' hq hq' hn h19' => ?_⟩ (fun q hq h19' => ?_) (fun q _ => Or.inl (ot 23 q (by omega))) (fun q => ot 24 q (by omega))⟩
            · have hlow := hlow r M hM
              subst hM
              show f_X5_parkBicycle r _ M = _
              unfold f_X5_parkBicycle
              simp (disch := omega) only [c_isPerson, c_hasPermit hp, c_isInRack hp, c_isInPound hp, hx, rg3_nI hs, h19, h23, decide_true, Bool.not_true, Bool.not_false, Option.bind_some, ite_bI, if_true, Bool.false_eq_true, if_false, in_nI, cl_nI, hsh, hlow, k3, hk6, c_placeInRack hp]
              rfl
            · by_cases e : q = p
              · subst e
                refine Or.inr ⟨sh, k, d, hs, k1, Nat.le_refl d, z19, z20, ?_, Or.inl ?_⟩
                · unfold zPk
                  rw [ud_eq]
                  exact hA.2.2.2.1.1
                · rw [ot 22 q (by omega), h22]
              · rw [ot 19 q (by omega), ot 20 q (by omega), ot 21 q (by omega), ot 22 q (by omega)]
                exact hA.2.2.2.2.2.1.1 q hq
            · by_cases e : q = p
              · subst e
                rw [z19, z20, ot 19 q' (by omega), ot 20 q' (by omega)]
                exact fun a1 a2 => hfree q' hq' ⟨a1.symm, a2.symm⟩
              · by_cases e' : q' = p
                · subst e'
                  rw [z19, z20, ot 19 q (by omega), ot 20 q (by omega)]
                  exact fun a1 a2 => hfree q hq ⟨a1, a2⟩
                · rw [ot 19 q (by omega)] at h19'
                  rw [ot 19 q (by omega), ot 19 q' (by omega), ot 20 q (by omega), ot 20 q' (by omega)]
                  exact hA.2.2.2.2.2.1.2 q q' hq hq' hn h19'
            · rw [ot 23 q (by omega)]
              by_cases e : q = p
              · rw [e]
                exact h23
              · rw [ot 19 q (by omega)] at h19'
                exact hY.2.1 q hq h19'
        · refine Or.inl ⟨-5, i_neg5, fun r M hM => ?_⟩
          subst hM
          show f_X5_parkBicycle r _ M = _
          have hk6 : ¬ nI k = -6 := nI_ne6 (by have := hA.2.2.2.1.2.1; omega)
          unfold f_X5_parkBicycle
          simp (disch := omega) only [c_isPerson, c_hasPermit hp, c_isInRack hp, c_isInPound hp, hx, rg3_nI hs, hsh, h19, k2, decide_eq_false hk6, decide_true, Bool.not_true, Bool.not_false, Option.bind_some, ite_bI, if_true, Bool.false_eq_true, if_false]
      · refine Or.inl ⟨-5, i_neg5, fun r M hM => ?_⟩
        subst hM
        show f_X5_parkBicycle r _ M = _
        unfold f_X5_parkBicycle
        simp (disch := omega) only [c_isPerson, c_hasPermit hp, c_isInRack hp, hx, rg3_nI hs, hsh, decide_eq_false h19, Bool.not_false, Option.bind_some, ite_bI, if_true]
  · refine Or.inl ⟨-1, i_neg1, fun r M hM => ?_⟩
    show f_X5_parkBicycle r _ M = _
    unfold f_X5_parkBicycle
    simp only [c_isPerson, hx, Option.bind_some, ite_bI, Bool.false_eq_true, if_false]
/-! sweeps, settings, racks, days -/
theorem sweep_ok {D T Bg Bt sh sq d kp nt : Nat} {σ : Nat → Nat → Int32} {W : Nat → List Nat} {U : Nat → Nat} (hA : gA d T σ W U sq d kp nt) (hY : cY Bg Bt σ W d) (hF : cF σ W U sq) (hd : d ≤ D) (hs : sh < 3) : sZ D T Bg (Bt + 20) (zSw (nI sh) (σ 0 4 - σ 1 2) (σ 0 4) σ 20) :=
  sZ.make (hA.sweep hs) (hY.sweep hs hA.2.2.2.1.1 hA.2.2.2.1.2.1) (hF.congr (fun j => (zSw_2 (fun z => by omega)).trans (pm_same (zG_18 (by omega))))) hd (Nat.le_refl _) (Nat.le_refl _) (Nat.le_refl _)
theorem p_sweep {D T Bg Bt : Nat} {σ : Nat → Nat → Int32} (h : sZ D T Bg Bt σ) (x : Int32) : opS D T Bg Bt σ (fun r => f_X5_sweepShed r x) := by
  obtain ⟨W, U, sq, d, kp, nt, hA, hY, hF, hd⟩ := h
  by_cases hx : rg 3 x = true
  · obtain ⟨sh, hs, rfl⟩ := (rg_iff (by omega)).mp hx
    have hcl := cnt_le (zDue (nI sh) (σ 0 4 - σ 1 2) (zSweep (nI sh) σ)) 20
    refine Or.inr ⟨nI (cnt (zDue (nI sh) (σ 0 4 - σ 1 2) (zSweep (nI sh) σ)) 20), _, nI_pos (by omega), fun r M hM => ?_, (sweep_ok hA hY hF hd hs).mono (by omega) (by omega) (by omega) (by omega)⟩
    subst hM
    exact c_sweep hs
  · refine Or.inl ⟨-1, i_neg1, fun r M hM => ?_⟩
    show f_X5_sweepShed r _ M = _
    unfold f_X5_sweepShed
    simp only [c_isShed, hx, Option.bind_some, ite_bI, Bool.false_eq_true, if_false]
/-- a setting, changed -/
theorem set_ok {T Bg Bt k v sq d kp nt : Nat} {σ : Nat → Nat → Int32} {W : Nat → List Nat} {U : Nat → Nat} (hA : gA d T σ W U sq d kp nt) (hY : cY Bg Bt σ W d) (hT : d + 99 ≤ T) (hk : k < 4) (h1 : sLo k ≤ v) (h2 : v ≤ sHi k) : ∃ τ W' sq' kp' nt', (∀ r M, M.1 r = σ → f_X5_changeSetting r (nI k) (nI v) M = some (σ 1 k, put M r τ)) ∧ gA d T τ W' U sq' d kp' nt' ∧ cY (Bg + 39) Bt τ W' d ∧ cF τ W' U sq' ∧ (τ 2 = σ 2) := by
  obtain ⟨sq', kp', nt', hA'⟩ := hA.set hk h1 h2
  have hy : (!decide (nI v < nI (sLo k)) && !decide (nI (sHi k) < nI v)) = true := frm_in h1 h2 (by have := sHi_le k; omega)
  have hk4 : (!decide (nI k < 0) && !decide ((3 : Int32) < nI k)) = true := frm_in (a := 0) (b := 3) (by omega) (by omega) (by omega)
  have hY' : cY Bg Bt (ud σ 1 k (nI v)) W d := hY.congr (fun o j ho => ud_ne _ _ (fun z => by omega))
  refine ⟨(zUp U sq' 3 (ud σ 1 k (nI v), W)).1, _, sq', kp', nt', fun r M hM => ?_, gA.up (q := (ud σ 1 k (nI v), W)) hA' hT 3 (Nat.le_refl 3), cY.up (q := (ud σ 1 k (nI v), W)) hY' hA'.1 hA'.2.1 hA'.2.2.1.2.1 3 (Nat.le_refl 3), cF.up (q := (ud σ 1 k (nI v), W)) hA'.1 hA'.2.1, ?_⟩
  · subst hM
    have hm := c_moveUp (r := r) (M := put M r (ud (M.1 r) 1 k (nI v))) (W := W) (U := U) (sp := sq') (by rw [put_get]; exact hA'.1) (by rw [put_get]; exact hA'.2.2.1)
    rw [put_get, put_put] at hm
    unfold f_X5_changeSetting
    simp (disch := omega) only [hk4, Option.bind_some, ite_bI, if_true, in_nI, cl_nI, sLo_at k hk, sHi_at k hk, c_isFrom, hy, up_put, hm]
  · funext j
    exact (zUp_other (o := 2) (j := j) (by omega) (by omega) (by omega) (by omega) 3).trans (ud_ne (o := 1) (j := k) (o' := 2) (j' := j) σ (nI v) (fun z => by have := z.1; omega))
theorem p_set {D T Bg Bt : Nat} {σ : Nat → Nat → Int32} (h : sZ D T Bg Bt σ) (hT : D + 99 ≤ T) (x y : Int32) : opS D T Bg Bt σ (fun r => f_X5_changeSetting r x y) := by
  obtain ⟨W, U, sq, d, kp, nt, hA, hY, hF, hd⟩ := h
  by_cases hx : rg 4 x = true
  · obtain ⟨k, hk, rfl⟩ := (rg_iff (by omega)).mp hx
    have hk4 : (!decide (nI k < 0) && !decide ((3 : Int32) < nI k)) = true := frm_in (a := 0) (b := 3) (by omega) (by omega) (by omega)
    by_cases hy : (!decide (y < nI (sLo k)) && !decide (nI (sHi k) < y)) = true
    · have hi := sHi_le k
      have hlo : sLo k ≤ 1 := by
        rcases (by omega : k = 0 ∨ k = 1 ∨ k = 2 ∨ k = 3) with rfl | rfl | rfl | rfl <;> decide
      obtain ⟨v, hv1, hv2, rfl⟩ := (frm_nI (a := sLo k) (b := sHi k) (by omega) (by omega)).mp hy
      obtain ⟨v0, v01, v02⟩ := hA.2.2.2.2.2.2.2.1 k hk
      obtain ⟨τ, W', sq', kp', nt', c1, c2, c3, c4, -⟩ := set_ok hA hY (by omega) hk hv1 hv2
      exact Or.inr ⟨σ 1 k, τ, by rw [v02]; exact nI_pos (by omega), c1, sZ.make c2 c3 c4 (by omega) (by omega) (by omega) (by omega)⟩
    · refine Or.inl ⟨-2, i_neg2, fun r M hM => ?_⟩
      show f_X5_changeSetting r _ _ M = _
      unfold f_X5_changeSetting
      simp (disch := omega) only [hk4, Option.bind_some, ite_bI, if_true, in_nI, cl_nI, sLo_at k hk, sHi_at k hk, c_isFrom, hy, Bool.false_eq_true, if_false]
  · refine Or.inl ⟨-2, i_neg2, fun r M hM => ?_⟩
    show f_X5_changeSetting r _ _ M = _
    unfold f_X5_changeSetting
    simp only [isFrom_rg, hx, Option.bind_some, ite_bI, Bool.false_eq_true, if_false]
/-- a rack, put out of use or into use -/
theorem use_ok {T Bg Bt sh k sq d kp nt : Nat} {is : Bool} {σ : Nat → Nat → Int32} {W : Nat → List Nat} {U : Nat → Nat} (hA : gA d T σ W U sq d kp nt) (hY : cY Bg Bt σ W d) (hT : d + 99 ≤ T) (hs : sh < 3) (hk : k < 8) (hne : (U sh).testBit k ≠ is) : ∃ τ W', (∀ r M, M.1 r = σ → f_X5_changeUse r (nI sh) (nI k) (bI is) M = some (nI (pcnt (U sh ^^^ 2 ^ k)), put M r τ)) ∧ gA d T τ W' (uX U sh k) sq d kp nt ∧ cY (Bg + 39) Bt τ W' d ∧ cF τ W' (uX U sh k) sq := by
  have hUs := hA.2.2.1.2.2 sh hs
  have hbit := bit_nI (U sh) hUs.1 k hk
  have hA' := hA.racks hs hk
  have hY' : cY Bg Bt (ud σ 2 sh (nI (U sh ^^^ 2 ^ k))) W d := hY.congr (fun o j ho => ud_ne _ _ (fun z => by omega))
  have hAu := gA.up (q := (ud σ 2 sh (nI (U sh ^^^ 2 ^ k)), W)) hA' hT 3 (Nat.le_refl 3)
  refine ⟨(zUp (uX U sh k) sq 3 (ud σ 2 sh (nI (U sh ^^^ 2 ^ k)), W)).1, _, fun r M hM => ?_, hAu, cY.up (q := (ud σ 2 sh (nI (U sh ^^^ 2 ^ k)), W)) hY' hA'.1 hA'.2.1 hA'.2.2.1.2.1 3 (Nat.le_refl 3), cF.up (q := (ud σ 2 sh (nI (U sh ^^^ 2 ^ k)), W)) hA'.1 hA'.2.1⟩
  subst hM
  have hm := c_moveUp (r := r) (M := put M r (ud (M.1 r) 2 sh (nI (U sh ^^^ 2 ^ k)))) (W := W) (U := uX U sh k) (sp := sq) (by rw [put_get]; exact hA'.1) (by rw [put_get]; exact hA'.2.2.1)
  rw [put_get, put_put] at hm
  have huX : uX U sh k sh = U sh ^^^ 2 ^ k := if_pos rfl
  have hlt : U sh ^^^ 2 ^ k < 256 := xor_lt_256 hUs.1 (pow_lt_256 hk)
  have hup2 := (hAu.2.2.1.2.2 sh hs).2
  rw [huX] at hup2
  have cC : f_X5_changeUse r (nI sh) (nI k) (bI is) M = f_X5_changeUse_j35 r (nI sh) (nI k) (bI is) (bI ((U sh).testBit k)) M := by
    unfold f_X5_changeUse
    simp (disch := omega) only [c_isShed, c_isRack, rg3_nI hs, rg_nI hk (show 8 < 2 ^ 31 by omega), Option.bind_some, ite_bI, if_true, in_nI, cl_nI, hUs.2, hbit, ite_bI1]
    cases (U sh).testBit k <;> rfl
  rw [cC]
  unfold f_X5_changeUse_j35
  rw [if_neg (by rw [bI_eq]; exact hne)]
  simp (disch := omega) only [in_nI, cl_nI, if_true, hUs.2, shl_1 k hk]
  rw [xor_nI (by omega) (by have := pow_lt_256 hk; omega), up_put, hm, Option.bind_some, put_get, hup2, c_bits _ hlt]
  rfl
theorem p_use {D T Bg Bt : Nat} {σ : Nat → Nat → Int32} (h : sZ D T Bg Bt σ) (hT : D + 99 ≤ T) (x y : Int32) (is : Bool) : opS D T Bg Bt σ (fun r => f_X5_changeUse r x y (bI is)) := by
  obtain ⟨W, U, sq, d, kp, nt, hA, hY, hF, hd⟩ := h
  by_cases hx : rg 3 x = true
  · obtain ⟨sh, hs, rfl⟩ := (rg_iff (by omega)).mp hx
    by_cases hy : rg 8 y = true
    · obtain ⟨k, hk, rfl⟩ := (rg_iff (by omega)).mp hy
      have hUs := hA.2.2.1.2.2 sh hs
      have hbit := bit_nI (U sh) hUs.1 k hk
      by_cases hsame : (U sh).testBit k = is
      · refine Or.inl ⟨-5, i_neg5, fun r M hM => ?_⟩
        subst hM
        have cC : f_X5_changeUse r (nI sh) (nI k) (bI is) M = f_X5_changeUse_j35 r (nI sh) (nI k) (bI is) (bI ((U sh).testBit k)) M := by
          unfold f_X5_changeUse
          simp (disch := omega) only [c_isShed, c_isRack, hx, hy, Option.bind_some, ite_bI, if_true, in_nI, cl_nI, hUs.2, hbit, ite_bI1]
          cases (U sh).testBit k <;> rfl
        show f_X5_changeUse r (nI sh) (nI k) (bI is) M = _
        rw [cC]
        unfold f_X5_changeUse_j35
        rw [hsame, if_pos rfl]
      · obtain ⟨τ, W', c1, c2, c3, c4⟩ := use_ok hA hY (by omega) hs hk hsame
        have hp := pcnt_le (U sh ^^^ 2 ^ k)
        exact Or.inr ⟨_, τ, nI_pos (by omega), c1, sZ.make c2 c3 c4 (by omega) (by omega) (by omega) (by omega)⟩
    · refine Or.inl ⟨-1, i_neg1, fun r M hM => ?_⟩
      show f_X5_changeUse r _ _ _ M = _
      unfold f_X5_changeUse
      simp only [c_isShed, c_isRack, hx, hy, Option.bind_some, ite_bI, if_true, Bool.false_eq_true, if_false]
  · refine Or.inl ⟨-1, i_neg1, fun r M hM => ?_⟩
    show f_X5_changeUse r _ _ _ M = _
    unfold f_X5_changeUse
    simp only [c_isShed, hx, Option.bind_some, ite_bI, Bool.false_eq_true, if_false]
/-- days that pass -/
theorem pass_ok {T a sq d kp nt : Nat} {σ : Nat → Nat → Int32} {W : Nat → List Nat} {U : Nat → Nat} (hA : gA d T σ W U sq d kp nt) (hT2 : T < 2 ^ 30) (ha : 1 ≤ a) (ha2 : a ≤ 99) (hl : d + a ≤ 9999) (hT : d + a + 99 ≤ T) : ∃ m, m ≤ 60 * a ∧ (zDays U sq a (σ, W)).1 3 5 = σ 3 5 + nI m ∧ ∀ r M, M.1 r = σ → f_X5_letPass r (nI a) M = some (nI m, put M r (zDays U sq a (σ, W)).1) := by
  have hd := hA.2.2.2.1.1
  obtain ⟨m, m1, m2⟩ := zDays_cnt (q := (σ, W)) hA hT2 a (by omega) (by omega)
  refine ⟨m, m1, m2, fun r M hM => ?_⟩
  subst hM
  have hlt : ¬ (9999 : Int32) < nI (d + a) := nI_nlt (a := 9999) hl (by omega)
  unfold f_X5_letPass
  simp only [c_isFrom, frm_1_99 ha ha2, Option.bind_some, ite_bI, if_true, hd, nI_add, hlt, if_false]
  rw [c_days ha2 hA.1 hA.2.2.1, m2]
  show some ((M.1 r 3 5 + nI m) - M.1 r 3 5, _) = _
  rw [add_sub_nI]
theorem p_pass {D T Bg Bt a : Nat} {σ : Nat → Nat → Int32} (h : sZ D T Bg Bt σ) (hT2 : T < 2 ^ 30) (hT : D + 105 ≤ T) (hD : D + 6 ≤ 9999) (ha : 1 ≤ a) (ha2 : a ≤ 6) : opS D T Bg Bt σ (fun r => f_X5_letPass r (nI a)) := by
  obtain ⟨W, U, sq, d, kp, nt, hA, hY, hF, hd⟩ := h
  obtain ⟨m, m1, m2, m3⟩ := pass_ok (a := a) hA hT2 ha (by omega) (by omega) (by omega)
  exact Or.inr ⟨nI m, _, nI_pos (by omega), m3, sZ.make (gA.days (q := (σ, W)) hA hT2 a (by omega) (by omega)) (cY.days (q := (σ, W)) hY hA hT2 a (by omega) (by omega)) (cF.days (q := (σ, W)) hF hA hT2 a (by omega) (by omega)) (by omega) (by omega) (by omega) (by omega)⟩
