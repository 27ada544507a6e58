/-! what each deed makes of a state, in any region -/
def sZ (D T Bg Bt : Nat) (σ : Nat → Nat → Int32) : Prop := ∃ W U sq d kp nt, gA d T σ W U sq d kp nt ∧ cY Bg Bt σ W d ∧ cF σ W U sq ∧ d ≤ D
def opS (D T Bg Bt : Nat) (σ : Nat → Nat → Int32) (C : Nat → xM → Option (Int32 × xM)) : Prop := (∃ e, e < 0 ∧ ∀ r M, M.1 r = σ → C r M = some (e, M)) ∨ ∃ ans τ, ¬ ans < 0 ∧ (∀ r M, M.1 r = σ → C r M = some (ans, put M r τ)) ∧ sZ (D + 6) (T + 99) (Bg + 1000) (Bt + 20) τ
theorem sZ.make {D T T' Bg Bt Bg' Bt' sq d kp nt : Nat} {σ : Nat → Nat → Int32} {W : Nat → List Nat} {U : Nat → Nat} (hA : gA d T σ W U sq d kp nt) (hY : cY Bg Bt σ W d) (hF : cF σ W U sq) (hd : d ≤ D) (h1 : T ≤ T') (h2 : Bg ≤ Bg') (h3 : Bt ≤ Bt') : sZ D T' Bg' Bt' σ := ⟨W, U, sq, d, kp, nt, hA.mono (Nat.le_refl d) h1, hY.mono h2 h3, hF, hd⟩
theorem sZ.mono {D D' T T' Bg Bt Bg' Bt' : Nat} {σ : Nat → Nat → Int32} (h : sZ D T Bg Bt σ) (h0 : D ≤ D') (h1 : T ≤ T') (h2 : Bg ≤ Bg') (h3 : Bt ≤ Bt') : sZ D' T' Bg' Bt' σ := by
  obtain ⟨W, U, sq, d, kp, nt, hA, hY, hF, hd⟩ := h
  exact sZ.make hA hY hF (by omega) h1 h2 h3
theorem cF.congr {σ τ : Nat → Nat → Int32} {W : Nat → List Nat} {U : Nat → Nat} {sq : Nat} (h : cF σ W U sq) (e : ∀ j, τ 4 j = σ 4 j) : cF τ W U sq := by
  intro sh hs hw
  have : τ 4 = σ 4 := funext e
  rw [this]
  exact h sh hs hw
theorem cF.give {σ : Nat → Nat → Int32} {W : Nat → List Nat} {U : Nat → Nat} {sq p sh : Nat} {a dy : Int32} (h : cF σ W U sq) (h6 : σ 4 p = -6) (hw : W sh = []) : cF (zGive p (nI sh) a dy σ) (fun s => rmv p (W s)) U sq := by
  intro k hk hne
  refine Nat.le_trans (h k hk (sub_ne (rmv_sub _) hne)) (cnt_mono 20 (fun q _ z => ?_))
  have z := of_decide_eq_true z
  refine decide_eq_true ?_
  rw [zGive_4, if_neg (fun e => nI_ne6 (k := k) (by omega) (by
    rw [← z, e]
    exact h6)), z]
theorem cF.queue {σ : Nat → Nat → Int32} {W : Nat → List Nat} {U : Nat → Nat} {sq p sh l : Nat} {a dy : Int32} (h : cF σ W U sq) (hs : sh < 3) (hc : ¬ (cnt (fun p => decide (σ 4 p = nI sh)) 20 < pcnt (U sh) + sq ∧ W sh = [])) : cF (zQ p sh l a dy σ) (zQW p sh W) U sq := by
  refine cF.congr (σ := σ) (fun k hk hne => ?_) (fun j => zQ_other hs (by omega))
  unfold zQW at hne
  by_cases e : k = sh
  · subst e
    by_cases hw : W k = []
    · rcases Nat.lt_or_ge (cnt (fun p => decide (σ 4 p = nI k)) 20) (pcnt (U k) + sq) with z | z
      · exact absurd ⟨z, hw⟩ hc
      · exact z
    · exact h k hk hw
  · rw [if_neg e] at hne
    exact h k hk hne
/-- asking, where nothing bars it -/
theorem ask_ok {T Bg Bt p sh a sq d kp nt : Nat} {σ : Nat → Nat → Int32} {W : Nat → List Nat} {U : Nat → Nat} (hA : gA d T σ W U sq d kp nt) (hY : cY Bg Bt σ W d) (hF : cF σ W U sq) (hT : d + 99 ≤ T) (hp : p < 20) (hs : sh < 3) (ha : 1 ≤ a) (ha2 : a ≤ 99) (h6 : σ 4 p = -6) (hm : p ∉ W sh) :
    ∃ ans τ W', ¬ ans < 0 ∧ (∀ r M, M.1 r = σ → f_X5_askFor r (nI p) (nI sh) (nI a) M = some (ans, put M r τ)) ∧ gA d T τ W' U sq d kp nt ∧ cY (Bg + 1) Bt τ W' d ∧ cF τ W' U sq ∧ τ 0 4 = σ 0 4 ∧ ((ans = 0 ∧ τ 4 p = nI sh ∧ τ 5 p = (σ 0 4 + nI a) - 1) ∨ (0 < ans ∧ p ∈ W' sh)) := by
  have v1 := hA.2.2.2.1.1
  have v2 := hA.2.2.2.1.2.1
  by_cases hc : cnt (fun p => decide (σ 4 p = nI sh)) 20 < pcnt (U sh) + sq ∧ W sh = []
  · refine ⟨0, _, _, i_zero, fun r M hM => ?_, hA.give hT hp hs ha ha2, hY.give hp hs h6, hF.give h6 hc.2, ?_, Or.inl ⟨rfl, ?_, ?_⟩⟩
    · subst hM
      rw [c_askFor hA hp hs ha ha2 h6 hm, if_pos hc]
    · exact zGive_other (by omega) (by omega) (by omega) (by omega)
    · rw [zGive_4, if_pos rfl]
    · rw [zGive_5, if_pos rfl]
  · refine ⟨nI ((W sh).length + 1), zQ p sh (W sh).length (nI a) (σ 0 4) σ, zQW p sh W, ?_, fun r M hM => ?_, hA.queue hp hs ha ha2 h6 hm, (hY.queue hs hm v1 v2).mono (by omega) (Nat.le_refl _), hF.queue hs hc, zQ_other hs (by omega), Or.inr ⟨?_, ?_⟩⟩
    · have := (hA.1 sh hs).len
      exact nI_pos (by omega)
    · subst hM
      rw [c_askFor hA hp hs ha ha2 h6 hm, if_neg hc]
    · have := (hA.1 sh hs).len
      exact nI_lt (a := 0) (by omega) (by omega)
    · unfold zQW
      rw [if_pos rfl]
      exact List.mem_append_right _ (List.mem_singleton.mpr rfl)
theorem p_ask {D T Bg Bt : Nat} {σ : Nat → Nat → Int32} (h : sZ D T Bg Bt σ) (hT : D + 99 ≤ T) (x y z : Int32) : opS D T Bg Bt σ (fun r => f_X5_askFor r x y z) := by
  obtain ⟨W, U, sq, d, kp, nt, hA, hY, hF, hd⟩ := h
  by_cases hx : rg 20 x = true
  · obtain ⟨p, hp, rfl⟩ := (rg_iff (by omega)).mp hx
    by_cases hy : rg 3 y = true
    · obtain ⟨sh, hs, rfl⟩ := (rg_iff (by omega)).mp hy
      by_cases hz : (!decide (z < 1) && !decide (99 < z)) = true
      · obtain ⟨a, ha, ha2, rfl⟩ := (frm_nI (a := 1) (b := 99) (by omega) (by omega)).mp hz
        have hw := (hA.1 sh hs).out hp
        by_cases h6 : σ 4 p = -6
        · by_cases hm : p ∈ W sh
          · refine Or.inl ⟨-5, i_neg5, fun r M hM => ?_⟩
            subst hM
            show f_X5_askFor r _ _ _ M = _
            unfold f_X5_askFor
            simp only [c_isPerson, c_isShed, c_isFrom, c_hasPermit hp, c_waitsFor hp hs, hx, hy, hz, h6, rg_6, decide_eq_false (fun e => absurd hm (hw.mp e)), Bool.not_false, Option.bind_some, ite_bI, if_true, Bool.false_eq_true, if_false]
          · obtain ⟨ans, τ, W', a1, a2, a3, a4, a5, -⟩ := ask_ok hA hY hF (by omega) hp hs ha ha2 h6 hm
            exact Or.inr ⟨ans, τ, a1, a2, sZ.make a3 a4 a5 (by omega) (by omega) (by omega) (by omega)⟩
        · have hr : rg 3 (σ 4 p) = true := (hA.2.2.2.1.2.2.2.2.1 p hp).resolve_left h6
          refine Or.inl ⟨-5, i_neg5, fun r M hM => ?_⟩
          subst hM
          show f_X5_askFor r _ _ _ M = _
          unfold f_X5_askFor
          simp only [c_isPerson, c_isShed, c_isFrom, c_hasPermit hp, hx, hy, hz, hr, Option.bind_some, ite_bI, if_true]
      · refine Or.inl ⟨-2, i_neg2, fun r M hM => ?_⟩
        show f_X5_askFor r _ _ _ M = _
        unfold f_X5_askFor
        simp only [c_isPerson, c_isShed, c_isFrom, hx, hy, hz, Option.bind_some, ite_bI, if_true, Bool.false_eq_true, if_false]
    · refine Or.inl ⟨-1, i_neg1, fun r M hM => ?_⟩
      show f_X5_askFor r _ _ _ M = _
      unfold f_X5_askFor
      simp only [c_isPerson, c_isShed, hx, hy, Option.bind_some, ite_bI, if_true, Bool.false_eq_true, if_false]
  · refine Or.inl ⟨-1, i_neg1, fun r M hM => ?_⟩
    show f_X5_askFor r _ _ _ M = _
    unfold f_X5_askFor
    simp only [c_isPerson, hx, Option.bind_some, ite_bI, Bool.false_eq_true, if_false]
theorem p_giveUp {D T Bg Bt : Nat} {σ : Nat → Nat → Int32} (h : sZ D T Bg Bt σ) (hT : D + 99 ≤ T) (hT2 : T < 2 ^ 30) (x : Int32) : opS D T Bg Bt σ (fun r => f_X5_giveUpAll r x) := by
  obtain ⟨W, U, sq, d, kp, nt, hA, hY, hF, hd⟩ := h
  by_cases hx : rg 20 x = true
  · obtain ⟨p, hp, rfl⟩ := (rg_iff (by omega)).mp hx
    have hperm := hA.2.2.2.1.2.2.2.2.1 p hp
    have hAq := hA.quit hp
    have hYq : cY Bg Bt (zQt p σ) (fun s => rmv p (W s)) d := hY.quit
    have cj : ∀ (v : Int32) r (M : xM), M.1 r = σ → f_X5_giveUpAll_j65 r (nI p) v M = some (v, put M r (zUp U sq 3 (zQt p σ, fun k => rmv p (W k))).1) := by
      intro v r M hM
      subst hM
      have hcq := c_end_leave (r := r) (M := M) hp hA.1
      have hm := c_moveUp (r := r) (M := put M r (zQt p (M.1 r))) (W := fun k => rmv p (W k)) (U := U) (sp := sq) (by rw [put_get]; exact hAq.1) (by rw [put_get]; exact hAq.2.2.1)
      rw [put_get, put_put] at hm
      unfold f_X5_giveUpAll_j65
      have : ∀ F : xM → Option (Int32 × xM), (f_X4_end r (nI p) M).bind (fun q9 => (f_X4_leaveLists r (nI p) q9).bind F) = ((f_X4_end r (nI p) M).bind (fun q => f_X4_leaveLists r (nI p) q)).bind F := fun F => by
        rw [Option.bind_assoc]
      rw [this, hcq]
      show (f_X5_moveUp r (put M r (zQt p (M.1 r)))).bind _ = _
      rw [hm]
      rfl
    have fin : sZ (D + 6) (T + 99) (Bg + 1000) (Bt + 20) (zUp U sq 3 (zQt p σ, fun k => rmv p (W k))).1 := sZ.make (gA.up (q := (zQt p σ, fun k => rmv p (W k))) hAq (by omega) 3 (Nat.le_refl 3)) (cY.up (q := (zQt p σ, fun k => rmv p (W k))) hYq hAq.1 hAq.2.1 hA.2.2.1.2.1 3 (Nat.le_refl 3)) (cF.up (q := (zQt p σ, fun k => rmv p (W k))) hAq.1 hAq.2.1) (by omega) (by omega) (by omega) (by omega)
    by_cases h4 : σ 4 p = -6
    · by_cases hw : zWait σ p 3 = 0
      · refine Or.inl ⟨-5, i_neg5, fun r M hM => ?_⟩
        subst hM
        show f_X5_giveUpAll r _ M = _
        unfold f_X5_giveUpAll
        simp only [c_isPerson, c_hasPermit hp, c_waitsForSome hp, hx, h4, rg_6, hw, decide_true, Bool.not_true, Option.bind_some, ite_bI, if_true, Bool.false_eq_true, if_false]
      · refine Or.inr ⟨0, _, i_zero, fun r M hM => ?_, fin⟩
        have cj := cj 0 r M hM
        subst hM
        show f_X5_giveUpAll r _ M = _
        unfold f_X5_giveUpAll f_X5_giveUpAll_j34
        simp only [c_isPerson, c_hasPermit hp, c_waitsForSome hp, hx, h4, rg_6, decide_eq_false hw, Bool.not_false, Option.bind_some, ite_bI, if_true, Bool.false_eq_true, if_false, cj]
    · have hr := hperm.resolve_left h4
      obtain ⟨l, l1, l2, l3⟩ := hA.2.2.2.2.2.2.1.1 p hp hr
      have v1 := hA.2.2.2.1.1
      have v2 := hA.2.2.2.1.2.1
      refine Or.inr ⟨nI (l - d + 1), _, nI_pos (by omega), fun r M hM => ?_, fin⟩
      have cj := cj (nI (l - d + 1)) r M hM
      subst hM
      show f_X5_giveUpAll r _ M = _
      unfold f_X5_giveUpAll f_X5_giveUpAll_j34
      simp (disch := omega) only [c_isPerson, c_hasPermit hp, hx, hr, Option.bind_some, ite_bI, if_true, in_nI, cl_nI, l3, v1, sub_nI l1, aI_1, cj]
  · refine Or.inl ⟨-1, i_neg1, fun r M hM => ?_⟩
    show f_X5_giveUpAll r _ M = _
    unfold f_X5_giveUpAll
    simp only [c_isPerson, hx, Option.bind_some, ite_bI, Bool.false_eq_true, if_false]
theorem gA.longer {D T : Nat} {σ : Nat → Nat → Int32} {W : Nat → List Nat} {U : Nat → Nat} {sq d kp nt p l a : Nat} (hA : gA D T σ W U sq d kp nt) (l1 : d ≤ l) (l2 : l ≤ T) (ha2 : a ≤ 99) : gA D (T + 99) (ud σ 5 p (nI (l + a))) W U sq d kp nt := by
  obtain ⟨hW, hN, hU, ⟨v1, v2, v3, v4, v5, v6⟩, hd, hB, ⟨b1, b2⟩, hS⟩ := hA
  have ot : ∀ o j, o ≠ 5 → ud σ 5 p (nI (l + a)) o j = σ o j := fun o j ho => ud_ne _ _ (fun z => ho z.1)
  refine ⟨hW.congr (fun o j h1 h2 => ot o j (by omega)), fun s hs q hq => ?_, hU.congr (fun j => ot 1 j (by omega)) (fun j => ot 2 j (by omega)), ⟨?_, v2, ?_, v4, fun q hq => ?_, fun q hq => ?_⟩, hd, hB.congr (fun o j h1 h2 => ot o j (by omega)), ⟨fun q hq hr => ?_, fun s hs q hq => ?_⟩, hS.congr (fun j => ot 1 j (by omega))⟩
  · rw [ot 4 q (by omega)]
    exact hN s hs q hq
  · rw [ot 0 4 (by omega)]
    exact v1
  · rw [ot 1 3 (by omega)]
    exact v3
  · rw [ot 4 q (by omega)]
    exact v5 q hq
  · rw [ot 23 q (by omega)]
    exact v6 q hq
  · rw [ot 4 q (by omega)] at hr
    by_cases e : q = p
    · subst e
      rw [ud_eq]
      exact ⟨l + a, by omega, by omega, rfl⟩
    · rw [ud_col _ _ _ _ e]
      obtain ⟨l', c1, c2, c3⟩ := b1 q hq hr
      exact ⟨l', c1, by omega, c3⟩
  · rw [ot _ q (by omega)]
    exact b2 s hs q hq
theorem p_prolong {D T Bg Bt : Nat} {σ : Nat → Nat → Int32} (h : sZ D T Bg Bt σ) (hT2 : T < 2 ^ 30) (x y : Int32) : opS D T Bg Bt σ (fun r => f_X5_lengthen r x y) := by
  obtain ⟨W, U, sq, d, kp, nt, hA, hY, hF, hd⟩ := h
  by_cases hx : rg 20 x = true
  · obtain ⟨p, hp, rfl⟩ := (rg_iff (by omega)).mp hx
    by_cases hz : (!decide (y < 1) && !decide (99 < y)) = true
    · obtain ⟨a, ha, ha2, rfl⟩ := (frm_nI (a := 1) (b := 99) (by omega) (by omega)).mp hz
      have hperm := hA.2.2.2.1.2.2.2.2.1 p hp
      by_cases h4 : σ 4 p = -6
      · refine Or.inl ⟨-5, i_neg5, fun r M hM => ?_⟩
        subst hM
        show f_X5_lengthen r _ _ M = _
        unfold f_X5_lengthen
        simp only [c_isPerson, c_isFrom, c_hasPermit hp, hx, hz, h4, rg_6, Option.bind_some, ite_bI, if_true, Bool.false_eq_true, if_false]
      · obtain ⟨sh, hs, hsh⟩ := (rg_iff (by omega)).mp (hperm.resolve_left h4)
        have hlen := (hA.1 sh hs).len
        have hcw := (hA.1 sh hs).cnt
        by_cases hw : 0 < (W sh).length
        · refine Or.inl ⟨-5, i_neg5, fun r M hM => ?_⟩
          subst hM
          show f_X5_lengthen r _ _ M = _
          unfold f_X5_lengthen
          simp (disch := omega) only [c_isPerson, c_isFrom, c_hasPermit hp, hx, hz, hsh, rg3_nI hs, Option.bind_some, ite_bI, if_true, in_nI, cl_nI, c_countWaiting hs, hcw, lt0_nI, hw]
        · obtain ⟨l, l1, l2, l3⟩ := hA.2.2.2.2.2.2.1.1 p hp (hperm.resolve_left h4)
          refine Or.inr ⟨nI (l + a), ud σ 5 p (nI (l + a)), nI_pos (by omega), fun r M hM => ?_, ?_⟩
          · subst hM
            show f_X5_lengthen r _ _ M = _
            unfold f_X5_lengthen
            simp (disch := omega) only [c_isPerson, c_isFrom, c_hasPermit hp, hx, hz, hsh, rg3_nI hs, Option.bind_some, ite_bI, if_true, in_nI, cl_nI, c_countWaiting hs, hcw, lt0_nI, hw, if_false, up_put, put_get, ud_eq, l3, nI_add]
          · have ot : ∀ o j, o ≠ 5 → ud σ 5 p (nI (l + a)) o j = σ o j := fun o j ho => ud_ne _ _ (fun z => ho z.1)
            have hY' : cY Bg Bt (ud σ 5 p (nI (l + a))) W d := ⟨hY.1.congr (fun o j h1 h2 => ot o j (by omega)) (Nat.le_refl d), hY.2.1.congr (fun o j h1 => ot o j (by omega)), fun q hq z => by
              rw [ot 4 q (by omega)] at z
              rw [ud_col _ _ _ _ (fun e => h4 (by rw [← e]; exact z))]
              exact hY.2.2.1 q hq z, hY.2.2.2.1.congr (ot 3 5 (by omega)) (fun q _ z => by rw [ot 4 q (by omega)] at z; exact z) (Nat.le_refl _), hY.2.2.2.2.congr (fun o j h1 => ot o j (by omega)) (Nat.le_refl _)⟩
            exact sZ.make (hA.longer l1 l2 ha2) hY' (hF.congr (fun j => ot 4 j (by omega))) (by omega) (Nat.le_refl _) (by omega) (by omega)
    · refine Or.inl ⟨-2, i_neg2, fun r M hM => ?_⟩
      show f_X5_lengthen r _ _ M = _
      unfold f_X5_lengthen
      simp only [c_isPerson, c_isFrom, hx, hz, Option.bind_some, ite_bI, if_true, Bool.false_eq_true, if_false]
  · refine Or.inl ⟨-1, i_neg1, fun r M hM => ?_⟩
    show f_X5_lengthen r _ _ M = _
    unfold f_X5_lengthen
    simp only [c_isPerson, hx, Option.bind_some, ite_bI, Bool.false_eq_true, if_false]
