/-! a permit given up -/
theorem zLv_other {p : Nat} {σ : Nat → Nat → Int32} {o j : Nat} (h : ¬ (7 ≤ o ∧ o < 10)) : zLv p σ 3 o j = σ o j := if_neg h
theorem mR.leave {σ : Nat → Nat → Int32} {W : Nat → List Nat} {U : Nat → Nat} {s : Nat → Int32} {b p : Nat} (h : mR σ W U s b) (hc : cW σ W) : mR (zLv p σ 3) (fun k => rmv p (W k)) U (mLvs b p W s 3) b := by
  obtain ⟨⟨a1, a2, a3, a4, a5⟩, ho, hl, hP⟩ := h
  have hW : ∀ k, k < 3 → (W k).length ≤ 20 := fun k hk => (hc k hk).len
  have ne : ∀ j, j < b + 11 ∨ (b + 14 ≤ j ∧ j < b + 174) → mLvs b p W s 3 j = s j := fun j hj => mLvs_ne hW 3 (Nat.le_refl _) (fun k hk => by omega)
  refine ⟨⟨fun k hk => ?_, ?_, ?_, ?_, ?_⟩, fun k hk => ?_, ?_, fun q f hq hf => ?_⟩
  · rw [ne _ (by omega), zLv_other (by omega)]
    exact a1 k hk
  · rw [ne _ (by omega), zLv_other (by omega)]
    exact a2
  · rw [ne _ (by omega)]
    have : zLv p σ 3 24 = σ 24 := by
      funext j
      exact zLv_other (by omega)
    rw [this]
    exact a3
  · rw [ne _ (by omega), zLv_other (by omega)]
    exact a4
  · rw [ne _ (by omega), zLv_other (by omega)]
    exact a5
  · rw [ne _ (by omega)]
    exact ho k hk
  · exact mLw.leave hl hc (fun k q hk => ⟨zLv_other (by omega), zLv_other (by omega)⟩)
  · obtain ⟨f0, f1, f2, f3, f18, f7, f24⟩ := mF_far f hf
    rw [ne _ (by omega), zLv_other (by omega)]
    exact hP q f hq hf
def zQt (p : Nat) (σ : Nat → Nat → Int32) : Nat → Nat → Int32 := zLv p (ud (ud σ 4 p (-6)) 5 p (-6)) 3
theorem zQt_other {p : Nat} {σ : Nat → Nat → Int32} {o j : Nat} (h4 : o ≠ 4) (h5 : o ≠ 5) (h7 : ¬ (7 ≤ o ∧ o < 10)) : zQt p σ o j = σ o j := by
  unfold zQt
  rw [zLv_other h7, ud_ne _ _ (fun z => h5 z.1), ud_ne _ _ (fun z => h4 z.1)]
theorem zQt_4 {p : Nat} {σ : Nat → Nat → Int32} {j : Nat} : zQt p σ 4 j = if j = p then -6 else σ 4 j := by
  unfold zQt
  rw [zLv_other (by omega), ud_ne _ _ (by omega)]
  by_cases e : j = p
  · subst e
    rw [ud_eq, if_pos rfl]
  · rw [ud_col _ _ _ _ e, if_neg e]
theorem zQt_5 {p : Nat} {σ : Nat → Nat → Int32} {j : Nat} : zQt p σ 5 j = if j = p then -6 else σ 5 j := by
  unfold zQt
  rw [zLv_other (by omega)]
  by_cases e : j = p
  · subst e
    rw [ud_eq, if_pos rfl]
  · rw [ud_col _ _ _ _ e, ud_col _ _ _ _ e, if_neg e]
theorem gA.quit {D T : Nat} {σ : Nat → Nat → Int32} {W : Nat → List Nat} {U : Nat → Nat} {sq d kp nt p : Nat} (h : gA D T σ W U sq d kp nt) (hp : p < 20) : gA D T (zQt p σ) (fun s => rmv p (W s)) U sq d kp nt := by
  obtain ⟨hW, hN, hU, ⟨v1, v2, v3, v4, v5, v6⟩, hd, hB, ⟨l1, l2⟩, hS⟩ := h
  have hW' : cW (ud (ud σ 4 p (-6)) 5 p (-6)) W := hW.congr (fun o j h1 h2 => by rw [ud_ne _ _ (fun z => by omega), ud_ne _ _ (fun z => by omega)])
  refine ⟨hW'.leave hp, fun s hs q hq => ?_, hU.congr (fun j => zQt_other (by omega) (by omega) (by omega)) (fun j => zQt_other (by omega) (by omega) (by omega)), ⟨?_, v2, ?_, v4, fun q hq => ?_, fun q hq => ?_⟩, hd, hB.congr (fun o j h1 h2 => zQt_other (by omega) (by omega) (by omega)), ⟨fun q hq hr => ?_, fun s hs q hq => ?_⟩, hS.congr (fun j => zQt_other (by omega) (by omega) (by omega))⟩
  · rw [zQt_4]
    split
    · rfl
    · exact hN s hs q (rmv_mem hq)
  · rw [zQt_other (by omega) (by omega) (by omega)]
    exact v1
  · rw [zQt_other (by omega) (by omega) (by omega)]
    exact v3
  · rw [zQt_4]
    split
    · exact Or.inl rfl
    · exact v5 q hq
  · rw [zQt_other (by omega) (by omega) (by omega)]
    exact v6 q hq
  · rw [zQt_4] at hr
    rw [zQt_5]
    by_cases e : q = p
    · rw [if_pos e, rg_6] at hr
      cases hr
    · rw [if_neg e] at hr ⊢
      exact l1 q hq hr
  · rw [zQt_other (by omega) (by omega) (by omega)]
    exact l2 s hs q (rmv_mem hq)
theorem mR.quit {σ : Nat → Nat → Int32} {W : Nat → List Nat} {U : Nat → Nat} {s : Nat → Int32} {b p : Nat} (h : mR σ W U s b) (hc : cW σ W) (hp : p < 20) : mR (zQt p σ) (fun k => rmv p (W k)) U (mLvs b p W (us (us s (b + 14 + 8 * p + 0) (-6)) (b + 14 + 8 * p + 1) (-6)) 3) b := by
  have h1 := h.person (f := 0) (v := -6) hc hp (by omega)
  have c1 := hc.ud (o := mF 0) (j := p) (-6) (show ¬ (7 ≤ 4 ∧ 4 < 10) by omega)
  have h2 := h1.person (f := 1) (v := -6) c1 hp (by omega)
  have c2 := c1.ud (o := mF 1) (j := p) (-6) (show ¬ (7 ≤ 5 ∧ 5 < 10) by omega)
  exact h2.leave c2
theorem c_waitsForSome {r p : Nat} {M : xM} (hp : p < 20) : f_X4_waitsForSome r (nI p) M = some (bI (!decide (zWait (M.1 r) p 3 = 0))) := by
  unfold f_X4_waitsForSome
  rw [c_shedsWaitedFor hp, Option.bind_some, nar_0, nar_1, bI_ite']
theorem m_waits {b p : Nat} {σ : Nat → Nat → Int32} {W : Nat → List Nat} {U : Nat → Nat} {M : xM} (hb : b ≤ 3186) (hp : p < 20) (hR : mR σ W U (M.1 6 1) b) (hc : cW σ W) : f_X7_waitsFor (nI b) (nI p) M = some (zWait σ p 3) := by
  refine m_waitsFor (W := W) hb hp (hR.lists hc) (zWait σ p) rfl (fun k hk => ?_)
  show (if (!decide (σ (7 + k) p = -6)) = true then _ else _) = _
  have h := (hc k hk).out hp
  by_cases e : p ∈ W k
  · rw [if_pos e, decide_eq_false (fun z => h.mp z e)]
    rfl
  · rw [if_neg e, decide_eq_true (h.mpr e)]
    rfl
theorem ch_giveUp {D T : Nat} (hT : D + 99 ≤ T) (hT2 : T < 2 ^ 30) (x : Int32) : chOK D T T (f_X5_giveUpAll 2 x) (f_X7_giveUp x) := by
  rintro M M' ⟨W, U, sq, d, kp, nt, hR, hA⟩
  by_cases hx : rg 20 x = true
  · obtain ⟨p, hp, rfl⟩ := (rg_iff (by omega)).mp hx
    have hperm := hA.2.2.2.1.2.2.2.2.1 p hp
    have hrg := rg3_perm hperm
    have e4 := row00 hR.2.2.2 hp
    have ew : f_X7_waitsFor 0 (nI p) M' = some (zWait (M.1 2) p 3) := m_waits (b := 0) (by omega) hp hR hA.1
    have hAq := hA.quit hp
    have hcq := c_end_leave (r := 2) (M := M) hp hA.1
    have hm := c_moveUp (r := 2) (M := put M 2 (zQt p (M.1 2))) (W := fun k => rmv p (W k)) (U := U) (sp := sq) (by rw [put_get]; exact hAq.1) (by rw [put_get]; exact hAq.2.2.1)
    rw [put_get, put_put] at hm
    have cj : ∀ v, f_X5_giveUpAll_j65 2 (nI p) v M = some (v, put M 2 (zUp U sq 3 (zQt p (M.1 2), fun k => rmv p (W k))).1) := by
      intro v
      unfold f_X5_giveUpAll_j65
      have : ∀ F : xM → Option (Int32 × xM), (f_X4_end 2 (nI p) M).bind (fun q9 => (f_X4_leaveLists 2 (nI p) q9).bind F) = ((f_X4_end 2 (nI p) M).bind (fun q => f_X4_leaveLists 2 (nI p) q)).bind F := fun F => by
        rw [Option.bind_assoc]
      rw [this, hcq]
      show (f_X5_moveUp 2 (put M 2 (zQt p (M.1 2)))).bind _ = _
      rw [hm]
      rfl
    have mj : ∀ (v : Int32) (M'' : xM), mR (M.1 2) W U (M''.1 6 1) 0 → ∃ t, f_X7_giveUp_j66 (nI p) v M'' = some (v, sp M'' t) ∧ gS D T (zUp U sq 3 (zQt p (M.1 2), fun k => rmv p (W k))).1 t 0 ∧ mFr (M''.1 6 1) t 0 := by
      intro v M'' hR''
      have hq := hR''.quit hA.1 hp
      have e1 := m_endsPermit (b := 0) (M := M'') (by omega) hp
      have h0 := hR''.person (f := 0) (v := -6) hA.1 hp (by omega)
      have c1 := hA.1.ud (o := mF 0) (j := p) (-6) (show ¬ (7 ≤ 4 ∧ 4 < 10) by omega)
      have h1 := h0.person (f := 1) (v := -6) c1 hp (by omega)
      have c2 := c1.ud (o := mF 1) (j := p) (-6) (show ¬ (7 ≤ 5 ∧ 5 < 10) by omega)
      have e2 := m_leavesLists (b := 0) (p := p) (W := W) (M := sp M'' (us (us (M''.1 6 1) (0 + 14 + 8 * p + 0) (-6)) (0 + 14 + 8 * p + 1) (-6))) (by omega) hp (by rw [sp_get]; exact h1.lists c2)
      rw [sp_get, sp_sp] at e2
      obtain ⟨t, t1, t2, t3⟩ := m_movesUp (b := 0) (sq := sq) (M := sp M'' (mLvs 0 p W (us (us (M''.1 6 1) (0 + 14 + 8 * p + 0) (-6)) (0 + 14 + 8 * p + 1) (-6)) 3)) (by omega) (by rw [sp_get]; exact hq) hAq.1 hAq.2.1 hAq.2.2.1
      rw [sp_sp] at t1
      rw [sp_get] at t3
      have e1 : f_X7_endsPermit 0 (nI p) M'' = _ := e1
      have e2 : f_X7_leavesLists 0 (nI p) _ = _ := e2
      have t1 : f_X7_movesUp 0 _ = _ := t1
      refine ⟨t, ?_, ⟨_, U, sq, d, kp, nt, t2, gA.up (q := (zQt p (M.1 2), fun k => rmv p (W k))) hAq hT 3 (Nat.le_refl 3)⟩, ?_⟩
      · unfold f_X7_giveUp_j66
        rw [e1, Option.bind_some, e2, Option.bind_some, t1, Option.bind_some]
      · refine mFr.trans (fun j hj => ?_) t3
        rw [mLvs_ne (fun k hk => (hA.1 k hk).len) 3 (Nat.le_refl 3) (fun k hk => by omega), us_ne _ _ (by omega), us_ne _ _ (by omega)]
    by_cases h4 : M.1 2 4 p = -6
    · by_cases hw : zWait (M.1 2) p 3 = 0
      · left
        refine ⟨-5, i_neg5, ?_, ?_⟩
        · unfold f_X5_giveUpAll
          simp only [c_isPerson, c_hasPermit hp, c_waitsForSome hp, hx, h4, rg_6, hw, decide_true, Bool.not_true, Option.bind_some, ite_bI, if_true, Bool.false_eq_true, if_false]
        · unfold f_X7_giveUp
          simp only [m_isPerson, m_hasPermit hp, ew, e4, hx, h4, hw, decide_true, Bool.not_true, Option.bind_some, ite_bI, if_true, Bool.false_eq_true, if_false]
      · right
        refine ⟨0, (zUp U sq 3 (zQt p (M.1 2), fun k => rmv p (W k))).1, i_zero, ?_, fun q7 => (f_X7_hasPermit (nI p) q7).bind (fun q9 => if q9 = (0 : Int32) then (f_X7_giveUp_j66 (nI p) (0 : Int32) q7) else ((f_X7_personAt (0 : Int32) (nI p) q7).bind (fun q17 => if xp_in (q17 + (1 : Int32)) 3540 = true then (f_X7_giveUp_j66 (nI p) (((q7.1 6 1 (q17 + (1 : Int32)).toNatClampNeg) - (q7.1 6 1 4)) + (1 : Int32)) q7) else none))), ?_, fun M'' hg => ?_⟩
        · unfold f_X5_giveUpAll f_X5_giveUpAll_j34
          simp only [c_isPerson, c_hasPermit hp, c_waitsForSome hp, hx, h4, rg_6, decide_eq_false hw, Bool.not_false, Option.bind_some, ite_bI, if_true, Bool.false_eq_true, if_false, cj]
        · unfold f_X7_giveUp f_X7_giveUp_j29
          simp only [m_isPerson, m_hasPermit hp, ew, e4, hx, h4, hw, decide_true, Bool.not_true, Option.bind_some, ite_bI, if_true, Bool.false_eq_true, if_false]
        · have hR'' := hR.agree hA.1 hg
          obtain ⟨t, t1, t2, t3⟩ := mj 0 M'' hR''
          refine ⟨t, ?_, t2, t3⟩
          simp only [m_hasPermit hp, row00 hR''.2.2.2 hp, h4, decide_true, Bool.not_true, Option.bind_some, ite_bI, Bool.false_eq_true, if_false, t1]
    · right
      have hr := hperm.resolve_left h4
      obtain ⟨l, l1, l2, l3⟩ := hA.2.2.2.2.2.2.1.1 p hp hr
      have v1 := hA.2.2.2.1.1
      have v2 := hA.2.2.2.1.2.1
      refine ⟨nI (l - d + 1), (zUp U sq 3 (zQt p (M.1 2), fun k => rmv p (W k))).1, nI_pos (by omega), ?_, fun q7 => (f_X7_hasPermit (nI p) q7).bind (fun q9 => if q9 = (0 : Int32) then (f_X7_giveUp_j66 (nI p) (0 : Int32) q7) else ((f_X7_personAt (0 : Int32) (nI p) q7).bind (fun q17 => if xp_in (q17 + (1 : Int32)) 3540 = true then (f_X7_giveUp_j66 (nI p) (((q7.1 6 1 (q17 + (1 : Int32)).toNatClampNeg) - (q7.1 6 1 4)) + (1 : Int32)) q7) else none))), ?_, fun M'' hg => ?_⟩
      · unfold f_X5_giveUpAll f_X5_giveUpAll_j34
        simp (disch := omega) only [c_isPerson, c_hasPermit hp, hx, hr, Option.bind_some, ite_bI, if_true, in_nI, cl_nI, l3, v1, sub_nI l1, aI_1, cj]
      · unfold f_X7_giveUp f_X7_giveUp_j29
        simp only [m_isPerson, m_hasPermit hp, e4, hx, decide_eq_false h4, Bool.not_false, Option.bind_some, ite_bI, if_true]
      · have hR'' := hR.agree hA.1 hg
        have r1 : M''.1 6 1 (14 + 8 * p + 1) = nI l := (row0 (f := 1) hR''.2.2.2 hp (by omega)).trans l3
        have rd : M''.1 6 1 4 = nI d := hR''.1.2.1.trans v1
        obtain ⟨t, t1, t2, t3⟩ := mj (nI (l - d + 1)) M'' hR''
        refine ⟨t, ?_, t2, t3⟩
        simp (disch := omega) only [m_hasPermit hp, row00 hR''.2.2.2 hp, decide_eq_false h4, Bool.not_false, Option.bind_some, ite_bI, if_true, m_personAt0, aI_1, in_nI, cl_nI, r1, rd, sub_nI l1, t1]
  · left
    refine ⟨-1, i_neg1, ?_, ?_⟩
    · unfold f_X5_giveUpAll
      simp only [c_isPerson, hx, Option.bind_some, ite_bI, Bool.false_eq_true, if_false]
    · unfold f_X7_giveUp
      simp only [m_isPerson, hx, Option.bind_some, ite_bI, Bool.false_eq_true, if_false]
