/-! a permit made longer; a rack put out of use or into use -/
theorem lt0_nI {k : Nat} (h : k < 2 ^ 31) : ((0 : Int32) < nI k) = (0 < k) := propext ⟨fun z => (nI_ltI (a := 0) (by omega) h).mp z, fun z => nI_lt (a := 0) z h⟩
theorem ch_prolong {D T : Nat} (hT2 : T < 2 ^ 30) (x y : Int32) : chOK D T (T + 99) (f_X5_lengthen 2 x y) (f_X7_prolong x y) := by
  rintro M M' ⟨W, U, sq, d, kp, nt, hR, hA⟩
  by_cases hx : rg 20 x = true
  · obtain ⟨p, hp, rfl⟩ := (rg_iff (by omega)).mp hx
    by_cases hz : (!decide (y < 1) && !decide (99 < y)) = true
    · obtain ⟨a, ha, ha2, rfl⟩ := (frm_nI (a := 1) (b := 99) (by omega) (by omega)).mp hz
      have hperm := hA.2.2.2.1.2.2.2.2.1 p hp
      have e4 := row00 hR.2.2.2 hp
      by_cases h4 : M.1 2 4 p = -6
      · left
        refine ⟨-5, i_neg5, ?_, ?_⟩
        · unfold f_X5_lengthen
          simp only [c_isPerson, c_isFrom, c_hasPermit hp, hx, hz, h4, rg_6, Option.bind_some, ite_bI, if_true, Bool.false_eq_true, if_false]
        · unfold f_X7_prolong
          simp only [m_isPerson, m_areDays, m_hasPermit hp, m_personAt0, e4, hx, hz, h4, decide_true, Bool.not_true, Option.bind_some, ite_bI, if_true, Bool.false_eq_true, if_false]
      · obtain ⟨sh, hs, hsh⟩ := (rg_iff (by omega)).mp (hperm.resolve_left h4)
        have hs6 : ¬ nI sh = -6 := nI_ne6 (by omega)
        have hlen := (hA.1 sh hs).len
        have hcw := (hA.1 sh hs).cnt
        have ew : M'.1 6 1 (11 + sh) = nI (W sh).length := by
          have := (hR.2.2.1 sh hs).1
          rw [Nat.zero_add] at this
          exact this
        by_cases hw : 0 < (W sh).length
        · left
          refine ⟨-5, i_neg5, ?_, ?_⟩
          · unfold f_X5_lengthen
            simp (disch := omega) only [c_isPerson, c_isFrom, c_hasPermit hp, hx, hz, hsh, rg3_nI hs, Option.bind_some, ite_bI, if_true, in_nI, cl_nI, c_countWaiting hs, hcw, lt0_nI, hw]
          · unfold f_X7_prolong
            simp (disch := omega) only [m_isPerson, m_areDays, m_hasPermit hp, m_personAt0, e4, hx, hz, hsh, decide_eq_false hs6, Bool.not_false, Option.bind_some, ite_bI, if_true, in_nI, cl_nI, bI_11, ew, lt0_nI, hw]
        · right
          obtain ⟨l, l1, l2, l3⟩ := hA.2.2.2.2.2.2.1.1 p hp (hperm.resolve_left h4)
          refine ⟨nI (l + a), ud (M.1 2) 5 p (nI (l + a)), nI_pos (by omega), ?_, fun q11 => if xp_in (nI (14 + 8 * p) + (1 : Int32)) 3540 = true then (if xp_in (nI (14 + 8 * p) + (1 : Int32)) 3540 = true then (if xp_in (nI (14 + 8 * p) + (1 : Int32)) 3540 = true then (some (((xd_up q11 6 1 (nI (14 + 8 * p) + (1 : Int32)).toNatClampNeg ((q11.1 6 1 (nI (14 + 8 * p) + (1 : Int32)).toNatClampNeg) + nI a)).1 6 1 (nI (14 + 8 * p) + (1 : Int32)).toNatClampNeg, xd_up q11 6 1 (nI (14 + 8 * p) + (1 : Int32)).toNatClampNeg ((q11.1 6 1 (nI (14 + 8 * p) + (1 : Int32)).toNatClampNeg) + nI a)))) else none) else none) else none, ?_, fun M'' hg => ?_⟩
          · unfold f_X5_lengthen
            simp (disch := omega) only [c_isPerson, c_isFrom, c_hasPermit hp, hx, hz, hsh, rg3_nI hs, Option.bind_some, ite_bI, if_true, in_nI, cl_nI, c_countWaiting hs, hcw, lt0_nI, hw, if_false, up_put, put_get, ud_eq, l3, nI_add]
          · unfold f_X7_prolong
            simp (disch := omega) only [m_isPerson, m_areDays, m_hasPermit hp, m_personAt0, e4, hx, hz, hsh, decide_eq_false hs6, Bool.not_false, Option.bind_some, ite_bI, if_true, in_nI, cl_nI, bI_11, ew, lt0_nI, hw, if_false]
          · have hR'' := hR.agree hA.1 hg
            have r1 : M''.1 6 1 (14 + 8 * p + 1) = nI l := (row0 (f := 1) hR''.2.2.2 hp (by omega)).trans l3
            have g1 := hR''.person (f := 1) (v := nI (l + a)) hA.1 hp (by omega)
            rw [Nat.zero_add] at g1
            have g1 : mR (ud (M.1 2) 5 p (nI (l + a))) W U _ 0 := g1
            refine ⟨_, ?_, ⟨W, U, sq, d, kp, nt, g1, ?_⟩, (mFr.refl _ _).us (by omega)⟩
            · simp (disch := omega) only [aI_1, in_nI, cl_nI, if_true, up_sp, sp_get, us_eq, r1, nI_add]
            · obtain ⟨hW, hN, hU, ⟨v1, v2, v3, v4, v5, v6⟩, hd, hB, ⟨b1, b2⟩, hS⟩ := hA
              have ot : ∀ o j, o ≠ 5 → ud (M.1 2) 5 p (nI (l + a)) o j = M.1 2 o j := fun o j ho => ud_ne _ _ (fun z => ho z.1)
              refine ⟨hW.congr (fun o j h1 h2 => ot o j (by omega)), fun s hs q hq => ?_, hU.congr (fun j => ot 1 j (by omega)) (fun j => ot 2 j (by omega)), ⟨?_, v2, ?_, v4, fun q hq => ?_, fun q hq => ?_⟩, hd, hB.congr (fun o j h1 h2 => ot o j (by omega)), ⟨fun q hq hr => ?_, fun s hs q hq => ?_⟩, hS.congr (fun j => ot 1 j (by omega))⟩
              · rw [ot 4 q (by omega)]
                exact hN s hs q hq
              · rw [ot 0 4 (by omega)]
                exact v1
              · rw [ot 1 3 (by omega)]
                exact v3
              · rw [ot 4 q (by omega)]
                exact v5 q hq
              · rw [ot 23 q (by omega)]
                exact v6 q hq
              · rw [ot 4 q (by omega)] at hr
                by_cases e : q = p
                · subst e
                  rw [ud_eq]
                  exact ⟨l + a, by omega, by omega, rfl⟩
                · rw [ud_col _ _ _ _ e]
                  obtain ⟨l', c1, c2, c3⟩ := b1 q hq hr
                  exact ⟨l', c1, by omega, c3⟩
              · rw [ot _ q (by omega)]
                exact b2 s hs q hq
    · left
      refine ⟨-2, i_neg2, ?_, ?_⟩
      · unfold f_X5_lengthen
        simp only [c_isPerson, c_isFrom, hx, hz, Option.bind_some, ite_bI, if_true, Bool.false_eq_true, if_false]
      · unfold f_X7_prolong
        simp only [m_isPerson, m_areDays, hx, hz, Option.bind_some, ite_bI, if_true, Bool.false_eq_true, if_false]
  · left
    refine ⟨-1, i_neg1, ?_, ?_⟩
    · unfold f_X5_lengthen
      simp only [c_isPerson, hx, Option.bind_some, ite_bI, Bool.false_eq_true, if_false]
    · unfold f_X7_prolong
      simp only [m_isPerson, hx, Option.bind_some, ite_bI, Bool.false_eq_true, if_false]
/-! racks -/
def uX (U : Nat → Nat) (sh k : Nat) : Nat → Nat := fun i => if i = sh then U sh ^^^ 2 ^ k else U i
theorem pow_lt_256 {k : Nat} (h : k < 8) : 2 ^ k < 256 := by
  rcases (by omega : k = 0 ∨ k = 1 ∨ k = 2 ∨ k = 3 ∨ k = 4 ∨ k = 5 ∨ k = 6 ∨ k = 7) with rfl | rfl | rfl | rfl | rfl | rfl | rfl | rfl <;> decide
theorem xor_lt_256 {a b : Nat} (ha : a < 256) (hb : b < 256) : a ^^^ b < 256 := Nat.xor_lt_two_pow (n := 8) ha hb
theorem mR.racks {σ : Nat → Nat → Int32} {W : Nat → List Nat} {U : Nat → Nat} {s : Nat → Int32} {b sh k : Nat} (h : mR σ W U s b) (hc : cW σ W) (hs : sh < 3) : mR (ud σ 2 sh (nI (U sh ^^^ 2 ^ k))) W (uX U sh k) (us s (b + 8 + sh) (nI (255 ^^^ (U sh ^^^ 2 ^ k)))) b := by
  obtain ⟨⟨a1, a2, a3, a4, a5⟩, ho, hl, hP⟩ := h
  have ot : ∀ o j, o ≠ 2 → ud σ 2 sh (nI (U sh ^^^ 2 ^ k)) o j = σ o j := fun o j ho => ud_ne _ _ (fun z => ho z.1)
  refine ⟨⟨fun i hi => ?_, ?_, ?_, ?_, ?_⟩, fun i hi => ?_, ?_, fun q f hq hf => ?_⟩
  · rw [us_ne _ _ (by omega), ot 1 i (by omega)]
    exact a1 i hi
  · rw [us_ne _ _ (by omega), ot 0 4 (by omega)]
    exact a2
  · rw [us_ne _ _ (by omega)]
    have : ud σ 2 sh (nI (U sh ^^^ 2 ^ k)) 24 = σ 24 := by
      funext j
      exact ot 24 j (by omega)
    rw [this]
    exact a3
  · rw [us_ne _ _ (by omega), ot 18 6 (by omega)]
    exact a4
  · rw [us_ne _ _ (by omega), ot 3 5 (by omega)]
    exact a5
  · unfold uX
    by_cases e : i = sh
    · subst e
      rw [us_eq, if_pos rfl]
    · rw [us_ne _ _ (by omega), if_neg e]
      exact ho i hi
  · exact (hl.us (fun k hk => (hc k hk).len) (fun i hi => by omega) (by omega)).ud (fun o j h1 h2 => ot o j (by omega))
  · obtain ⟨f0, f1, f2, f3, f18, f7, f24⟩ := mF_far f hf
    rw [us_ne _ _ (by omega), ot _ q (by omega)]
    exact hP q f hq hf
theorem gA.racks {D T : Nat} {σ : Nat → Nat → Int32} {W : Nat → List Nat} {U : Nat → Nat} {sq d kp nt sh k : Nat} (h : gA D T σ W U sq d kp nt) (hs : sh < 3) (hk : k < 8) : gA D T (ud σ 2 sh (nI (U sh ^^^ 2 ^ k))) W (uX U sh k) sq d kp nt := by
  obtain ⟨hW, hN, hU, ⟨v1, v2, v3, v4, v5, v6⟩, hd, hB, ⟨b1, b2⟩, hS⟩ := h
  have ot : ∀ o j, o ≠ 2 → ud σ 2 sh (nI (U sh ^^^ 2 ^ k)) o j = σ o j := fun o j ho => ud_ne _ _ (fun z => ho z.1)
  refine ⟨hW.congr (fun o j h1 h2 => ot o j (by omega)), fun s hs q hq => ?_, ⟨?_, hU.2.1, fun i hi => ?_⟩, ⟨?_, v2, ?_, v4, fun q hq => ?_, fun q hq => ?_⟩, hd, hB.congr (fun o j h1 h2 => ot o j (by omega)), ⟨fun q hq hr => ?_, fun s hs q hq => ?_⟩, hS.congr (fun j => ot 1 j (by omega))⟩
  · rw [ot 4 q (by omega)]
    exact hN s hs q hq
  · rw [ot 1 0 (by omega)]
    exact hU.1
  · unfold uX
    by_cases e : i = sh
    · subst e
      rw [if_pos rfl, ud_eq]
      exact ⟨xor_lt_256 (hU.2.2 i hi).1 (pow_lt_256 hk), rfl⟩
    · rw [if_neg e, ud_col _ _ _ _ e]
      exact hU.2.2 i hi
  · rw [ot 0 4 (by omega)]
    exact v1
  · rw [ot 1 3 (by omega)]
    exact v3
  · rw [ot 4 q (by omega)]
    exact v5 q hq
  · rw [ot 23 q (by omega)]
    exact v6 q hq
  · rw [ot 4 q (by omega)] at hr
    rw [ot 5 q (by omega)]
    exact b1 q hq hr
  · rw [ot _ q (by omega)]
    exact b2 s hs q hq
theorem bI_eq {a b : Bool} : (bI a = bI b) = (a = b) := by
  cases a <;> cases b
  · exact (eq_true rfl).trans (eq_true rfl).symm
  · exact (eq_false (by decide)).trans (eq_false (by decide)).symm
  · exact (eq_false (by decide)).trans (eq_false (by decide)).symm
  · exact (eq_true rfl).trans (eq_true rfl).symm
theorem ite_bI1 {α : Type} (b : Bool) (x y : α) : (if bI b = 1 then x else y) = if b = true then x else y := by
  cases b
  · exact if_neg (by decide)
  · exact if_pos rfl
theorem ch_use {D T : Nat} (hT : D + 99 ≤ T) (x y : Int32) (is : Bool) : chOK D T T (f_X5_changeUse 2 x y (bI is)) (f_X7_use x y (bI is)) := by
  rintro M M' ⟨W, U, sq, d, kp, nt, hR, hA⟩
  by_cases hx : rg 3 x = true
  · obtain ⟨sh, hs, rfl⟩ := (rg_iff (by omega)).mp hx
    have hin8 : ∀ M : xM, f_X7_in y.toInt64 0 7 M = some (bI (rg 8 y)) := fun M => by
      rw [show (0 : Int64) = (0 : Int32).toInt64 from rfl, show (7 : Int64) = (nI 7).toInt64 from rfl, m_in, rg_le (n := 7) (by omega)]
    by_cases hy : rg 8 y = true
    · obtain ⟨k, hk, rfl⟩ := (rg_iff (by omega)).mp hy
      have hUs := hA.2.2.1.2.2 sh hs
      have hbit := bit_nI (U sh) hUs.1 k hk
      have e8 : M'.1 6 1 (8 + sh) = nI (255 ^^^ U sh) := by
        have := hR.2.1 sh hs
        rw [Nat.zero_add] at this
        exact this
      have hx255 := xor_255 (U sh) hUs.1
      have hbit2 := bit_nI (255 ^^^ U sh) hx255 k hk
      rw [bit_255 hk] at hbit2
      have cC : f_X5_changeUse 2 (nI sh) (nI k) (bI is) M = f_X5_changeUse_j35 2 (nI sh) (nI k) (bI is) (bI ((U sh).testBit k)) M := by
        unfold f_X5_changeUse
        simp (disch := omega) only [c_isShed, c_isRack, hx, hy, Option.bind_some, ite_bI, if_true, in_nI, cl_nI, hUs.2, hbit, ite_bI1]
        cases (U sh).testBit k <;> rfl
      have cM : f_X7_use (nI sh) (nI k) (bI is) M' = f_X7_use_j43 (nI sh) (nI k) (bI (!is)) (bI (!(U sh).testBit k)) M' := by
        unfold f_X7_use
        simp (disch := omega) only [m_isShed, hin8, hx, hy, Option.bind_some, ite_bI, if_true, bI_8, in_nI, cl_nI, e8, hbit2]
        cases is <;> rfl
      rw [cC, cM]
      by_cases hsame : (U sh).testBit k = is
      · left
        refine ⟨-5, i_neg5, ?_, ?_⟩
        · unfold f_X5_changeUse_j35
          rw [hsame, if_pos rfl]
        · unfold f_X7_use_j43
          rw [hsame, m_flag, Option.bind_some, if_pos rfl]
      · right
        have hA' := hA.racks hs hk
        have hm := c_moveUp (r := 2) (M := put M 2 (ud (M.1 2) 2 sh (nI (U sh ^^^ 2 ^ k)))) (W := W) (U := uX U sh k) (sp := sq) (by rw [put_get]; exact hA'.1) (by rw [put_get]; exact hA'.2.2.1)
        rw [put_get, put_put] at hm
        have hAu := gA.up (q := (ud (M.1 2) 2 sh (nI (U sh ^^^ 2 ^ k)), W)) hA' hT 3 (Nat.le_refl 3)
        have huX : uX U sh k sh = U sh ^^^ 2 ^ k := if_pos rfl
        have hlt : U sh ^^^ 2 ^ k < 256 := xor_lt_256 hUs.1 (pow_lt_256 hk)
        have hup2 := (hAu.2.2.1.2.2 sh hs).2
        rw [huX] at hup2
        have hp := pcnt_le (U sh ^^^ 2 ^ k)
        refine ⟨nI (pcnt (U sh ^^^ 2 ^ k)), (zUp (uX U sh k) sq 3 (ud (M.1 2) 2 sh (nI (U sh ^^^ 2 ^ k)), W)).1, nI_pos (by omega), ?_, fun q8 => if xp_in ((8 : Int32) + nI sh) 3540 = true then (if xp_in ((8 : Int32) + nI sh) 3540 = true then ((f_X7_movesUp (0 : Int32) (xd_up q8 6 1 ((8 : Int32) + nI sh).toNatClampNeg ((q8.1 6 1 ((8 : Int32) + nI sh).toNatClampNeg) ^^^ ((1 : Int32) <<< (nI k &&& (31 : Int32)))))).bind (fun q12 => (f_X7_racksInUse (0 : Int32) (nI sh) q12.2).bind (fun q14 => some ((q14, q12.2))))) else none) else none, ?_, fun M'' hg => ?_⟩
        · unfold f_X5_changeUse_j35
          rw [if_neg (by rw [bI_eq]; exact hsame)]
          simp (disch := omega) only [in_nI, cl_nI, if_true, hUs.2, shl_1 k hk]
          rw [xor_nI (by omega) (by have := pow_lt_256 hk; omega), up_put, hm, Option.bind_some, put_get, hup2, c_bits _ hlt]
          rfl
        · unfold f_X7_use_j43
          rw [m_flag, Option.bind_some, if_neg (by
            rw [bI_eq]
            intro e
            exact hsame (Bool.not_inj e))]
        · have hR'' := hR.agree hA.1 hg
          have r8 : M''.1 6 1 (8 + sh) = nI (255 ^^^ U sh) := by
            have := hR''.2.1 sh hs
            rw [Nat.zero_add] at this
            exact this
          have g := hR''.racks (k := k) hA.1 hs
          rw [Nat.zero_add] at g
          obtain ⟨t, t1, t2, t3⟩ := m_movesUp (b := 0) (sq := sq) (M := sp M'' (us (M''.1 6 1) (8 + sh) (nI (255 ^^^ (U sh ^^^ 2 ^ k))))) (by omega) (by rw [sp_get]; exact g) hA'.1 hA'.2.1 hA'.2.2.1
          rw [sp_sp] at t1
          rw [sp_get] at t3
          have t1 : f_X7_movesUp 0 _ = _ := t1
          have hr := m_racksInUse (b := 0) (sh := sh) (u := U sh ^^^ 2 ^ k) (M := sp M'' t) (by omega) hs hlt (by
            rw [sp_get]
            have := t2.2.1 sh hs
            rw [huX] at this
            exact this)
          have hr : f_X7_racksInUse 0 (nI sh) _ = _ := hr
          refine ⟨t, ?_, ⟨_, _, sq, d, kp, nt, t2, hAu⟩, ((mFr.refl _ _).us (by omega)).trans t3⟩
          simp (disch := omega) only [bI_8, in_nI, cl_nI, if_true, r8, shl_1 k hk]
          rw [xor_nI (by omega) (by have := pow_lt_256 hk; omega), Nat.xor_assoc, up_sp, t1, Option.bind_some, hr, Option.bind_some]
    · left
      refine ⟨-1, i_neg1, ?_, ?_⟩
      · unfold f_X5_changeUse
        simp only [c_isShed, c_isRack, hx, hy, Option.bind_some, ite_bI, if_true, Bool.false_eq_true, if_false]
      · unfold f_X7_use
        simp only [m_isShed, hin8, hx, hy, Option.bind_some, ite_bI, if_true, Bool.false_eq_true, if_false]
  · left
    refine ⟨-1, i_neg1, ?_, ?_⟩
    · unfold f_X5_changeUse
      simp only [c_isShed, hx, Option.bind_some, ite_bI, Bool.false_eq_true, if_false]
    · unfold f_X7_use
      simp only [m_isShed, hx, Option.bind_some, ite_bI, Bool.false_eq_true, if_false]
