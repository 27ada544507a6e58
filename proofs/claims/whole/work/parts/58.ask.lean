/-! deeds: each in the class and in the model -/
def gS (D T : Nat) (σ : Nat → Nat → Int32) (s : Nat → Int32) (b : Nat) : Prop := ∃ W U sq d kp nt, mR σ W U s b ∧ gA D T σ W U sq d kp nt
/-- two rows agree -/
def mAg (s s' : Nat → Int32) (b : Nat) : Prop := ∀ j, b ≤ j → j < b + 354 → s' j = s j
theorem mR.agree {σ : Nat → Nat → Int32} {W : Nat → List Nat} {U : Nat → Nat} {s s' : Nat → Int32} {b : Nat} (h : mR σ W U s b) (hc : cW σ W) (e : mAg s s' b) : mR σ W U s' b := by
  obtain ⟨⟨a1, a2, a3, a4, a5⟩, ho, hl, hP⟩ := h
  refine ⟨⟨fun k hk => ?_, ?_, ?_, ?_, ?_⟩, fun k hk => ?_, fun k hk => ⟨?_, fun i q hi => ?_⟩, fun q g hq hg => ?_⟩
  · rw [e _ (by omega) (by omega)]
    exact a1 k hk
  · rw [e _ (by omega) (by omega)]
    exact a2
  · rw [e _ (by omega) (by omega)]
    exact a3
  · rw [e _ (by omega) (by omega)]
    exact a4
  · rw [e _ (by omega) (by omega)]
    exact a5
  · rw [e _ (by omega) (by omega)]
    exact ho k hk
  · rw [e _ (by omega) (by omega)]
    exact (hl k hk).1
  · have := ((hc k hk).lt hi).1
    rw [e _ (by omega) (by omega), e _ (by omega) (by omega), e _ (by omega) (by omega)]
    exact (hl k hk).2 i q hi
  · rw [e _ (by omega) (by omega)]
    exact hP q g hq hg
theorem gS.agree {D T : Nat} {σ : Nat → Nat → Int32} {s s' : Nat → Int32} {b : Nat} (h : gS D T σ s b) (e : mAg s s' b) : gS D T σ s' b := by
  obtain ⟨W, U, sq, d, kp, nt, hR, hA⟩ := h
  exact ⟨W, U, sq, d, kp, nt, hR.agree hA.1 e, hA⟩
theorem gS.mono {D T T' : Nat} {σ : Nat → Nat → Int32} {s : Nat → Int32} {b : Nat} (h : gS D T σ s b) (e : T ≤ T') : gS D T' σ s b := by
  obtain ⟨W, U, sq, d, kp, nt, hR, hA⟩ := h
  exact ⟨W, U, sq, d, kp, nt, hR, hA.mono hA.2.2.2.2.1 e⟩
theorem frm_in {a b k : Nat} (h1 : a ≤ k) (h2 : k ≤ b) (hb : b < 2 ^ 31) : (!decide (nI k < nI a) && !decide (nI b < nI k)) = true := (frm_nI (by omega) hb).mpr ⟨k, h1, h2, rfl⟩
theorem frm_1_99 {k : Nat} (h1 : 1 ≤ k) (h2 : k ≤ 99) : (!decide (nI k < 1) && !decide ((99 : Int32) < nI k)) = true := frm_in (a := 1) (b := 99) h1 h2 (by omega)
theorem nlen_0 {l : List Nat} (h : l.length ≤ 20) : (nI l.length = 0) = (l = []) := by
  cases l with
  | nil => exact (eq_true rfl).trans (eq_true rfl).symm
  | cons x r =>
    refine (eq_false (fun e => ?_)).trans (eq_false (fun e => by cases e)).symm
    have := (nI_eq (b := 0) (by omega) (by omega)).mp e
    cases this
theorem c_askFor {D T r p sh a sq d kp nt : Nat} {W : Nat → List Nat} {U : Nat → Nat} {M : xM} (hA : gA D T (M.1 r) W U sq d kp nt) (hp : p < 20) (hs : sh < 3) (ha : 1 ≤ a) (ha2 : a ≤ 99) (h6 : M.1 r 4 p = -6) (hm : p ∉ W sh) : f_X5_askFor r (nI p) (nI sh) (nI a) M = if cnt (fun p => decide (M.1 r 4 p = nI sh)) 20 < pcnt (U sh) + sq ∧ W sh = [] then some (0, put M r (zGive p (nI sh) (nI a) (M.1 r 0 4) (M.1 r))) else some (nI ((W sh).length + 1), put M r (zQ p sh (W sh).length (nI a) (M.1 r 0 4) (M.1 r))) := by
  obtain ⟨hW, hN, hU, hV, hd, hB, hL, hS⟩ := hA
  have hw : M.1 r (7 + sh) p = -6 := ((hW sh hs).out hp).mpr hm
  have hlen := (hW sh hs).len
  have hcw := (hW sh hs).cnt
  have hc20 := cnt_le (fun p => decide (M.1 r 4 p = nI sh)) 20
  have hpc := pcnt_le (U sh)
  have hsq := hU.2.1
  unfold f_X5_askFor f_X5_askFor_j98
  simp only [c_isPerson, c_isShed, c_isFrom, c_hasPermit hp, c_waitsFor hp hs, c_countOf, c_permits hs (hU.2.2 sh hs).1 (hU.2.2 sh hs).2 hU.1, c_countWaiting hs, c_give hp hW, c_queue hp hs, hcw, rg_nI hp (show 20 < 2 ^ 31 by omega), rg_nI hs (show 3 < 2 ^ 31 by omega), frm_1_99 ha ha2, h6, rg_6, hw, decide_true, Bool.not_true, Bool.false_eq_true, Option.bind_some, ite_bI, if_true, if_false, nlen_0 hlen]
  by_cases h1 : cnt (fun p => decide (M.1 r 4 p = nI sh)) 20 < pcnt (U sh) + sq
  · rw [if_pos (nI_lt h1 (by omega))]
    by_cases h2 : W sh = []
    · rw [if_pos h2, if_pos ⟨h1, h2⟩]
    · rw [if_neg h2, if_neg (fun z => h2 z.2)]
      rfl
  · rw [if_neg (nI_nlt (by omega) (by omega)), if_neg (fun z => h1 z.1)]
    rfl
theorem m_asksFor {D T b p sh a sq d kp nt : Nat} {σ : Nat → Nat → Int32} {W : Nat → List Nat} {U : Nat → Nat} {M : xM} (hb : b ≤ 3186) (hR : mR σ W U (M.1 6 1) b) (hA : gA D T σ W U sq d kp nt) (hp : p < 20) (hs : sh < 3) (hm : p ∉ W sh) : (cnt (fun p => decide (σ 4 p = nI sh)) 20 < pcnt (U sh) + sq ∧ W sh = [] → ∃ t, f_X7_asksFor (nI b) (nI p) (nI sh) (nI a) M = some (0, sp M t) ∧ mR (zGive p (nI sh) (nI a) (σ 0 4) σ) (fun s => rmv p (W s)) U t b ∧ mFr (M.1 6 1) t b) ∧ (¬ (cnt (fun p => decide (σ 4 p = nI sh)) 20 < pcnt (U sh) + sq ∧ W sh = []) → ∃ t, f_X7_asksFor (nI b) (nI p) (nI sh) (nI a) M = some (nI ((W sh).length + 1), sp M t) ∧ mR (zQ p sh (W sh).length (nI a) (σ 0 4) σ) (zQW p sh W) U t b ∧ mFr (M.1 6 1) t b) := by
  obtain ⟨hW, hN, hU, hV, hd, hB, hL, hS⟩ := hA
  have hlen := (hW sh hs).len
  have hlen2 : (W sh).length < 20 := by
    have := ((hW.queue (a := nI a) (dy := 0) hp hs hm) sh hs).len
    unfold zQW at this
    rw [if_pos rfl, List.length_append] at this
    exact this
  have hc20 := cnt_le (fun p => decide (σ 4 p = nI sh)) 20
  have hpc := pcnt_le (U sh)
  have hsq := hU.2.1
  have eg : f_X7_given (nI b) (nI sh) M = some (nI (cnt (fun p => decide (σ 4 p = nI sh)) 20)) := by
    rw [m_given hb]
    congr 2
    refine cnt_congr 20 (fun j hj => ?_)
    have := hR.2.2.2 j 0 hj (by omega)
    rw [Nat.add_zero] at this
    rw [this]
    rfl
  have e0 := hR.1.1 0 (by omega)
  rw [Nat.add_zero] at e0
  have ep : f_X7_permits (nI b) (nI sh) M = some (nI (pcnt (U sh) + sq)) := m_permits hb hs (hU.2.2 sh hs).1 (hR.2.1 sh hs) (e0.trans hU.1)
  have ew : M.1 6 1 (b + 11 + sh) = nI (W sh).length := (hR.2.2.1 sh hs).1
  have e4 : M.1 6 1 (b + 4) = σ 0 4 := hR.1.2.1
  unfold f_X7_asksFor f_X7_asksFor_j40
  simp (disch := omega) only [eg, ep, Option.bind_some, aI_11, nI_add, in_nI, cl_nI, if_true, ew, m_placeAt, aI_1, aI_2, aI_4, nlen_0 hlen, up_sp, sp_get, sp_sp, us_eq]
  obtain ⟨t, t1, t2, t3⟩ := m_give (p := p) (sh := sh) (d := nI a) hb hp hR hW
  constructor
  · rintro ⟨h1, h2⟩
    rw [if_pos (nI_lt h1 (by omega)), if_pos h2, t1]
    exact ⟨t, rfl, t2, t3⟩
  · intro h
    have hq := hR.queue (a := nI a) hW hp hs hm
    have hl2 : us (us (us (M.1 6 1) (b + 174 + 3 * (20 * sh + (W sh).length)) (nI p)) (b + 174 + 3 * (20 * sh + (W sh).length) + 1) (nI a)) (b + 174 + 3 * (20 * sh + (W sh).length) + 2) (us (us (M.1 6 1) (b + 174 + 3 * (20 * sh + (W sh).length)) (nI p)) (b + 174 + 3 * (20 * sh + (W sh).length) + 1) (nI a) (b + 4)) (b + 11 + sh) = nI (W sh).length := by
      rw [us_ne _ _ (by omega), us_ne _ _ (by omega), us_ne _ _ (by omega)]
      exact ew
    have hl3 : us (us (M.1 6 1) (b + 174 + 3 * (20 * sh + (W sh).length)) (nI p)) (b + 174 + 3 * (20 * sh + (W sh).length) + 1) (nI a) (b + 4) = M.1 6 1 (b + 4) := by
      rw [us_ne _ _ (by omega), us_ne _ _ (by omega)]
    rw [hl2, hl3, aI_1]
    refine ⟨_, ?_, hq, ?_⟩
    · by_cases h1 : cnt (fun p => decide (σ 4 p = nI sh)) 20 < pcnt (U sh) + sq
      · rw [if_pos (nI_lt h1 (by omega)), if_neg (fun z => h ⟨h1, z⟩)]
      · rw [if_neg (nI_nlt (by omega) (by omega))]
    · exact ((((mFr.refl _ _).us (by omega)).us (by omega)).us (by omega)).us (by omega)
