/-! parking in both -/
theorem taken_bit {σ : Nat → Nat → Int32} {d sh : Nat} (hB : cB σ d) (hs : sh < 3) : ∃ v, v < 256 ∧ orB (fun p => decide (σ 19 p = nI sh)) (σ 20) 20 = nI v ∧ ∀ k, k < 8 → (v.testBit k = !decide (own σ sh k 20 = -6)) := by
  have hg : ∀ p, p < 20 → decide (σ 19 p = nI sh) = true → σ 20 p = nI ((σ 20 p).toNatClampNeg) ∧ (σ 20 p).toNatClampNeg < 8 := by
    intro p hp h
    have h := of_decide_eq_true h
    rcases hB.1 p hp with z | ⟨sh', k, pk, b1, b2, b3, b4, b5, b6, b7⟩
    · exact absurd (h.symm.trans z.1) (nI_ne6 (by omega))
    · rw [b5, cl_nI (by omega)]
      exact ⟨rfl, b2⟩
  refine ⟨orN (fun p => decide (σ 19 p = nI sh)) (fun p => (σ 20 p).toNatClampNeg) 20, orN_lt 20 (fun p hp h => (hg p hp h).2), orB_nI 20 hg, fun k hk => ?_⟩
  rw [Bool.eq_iff_iff, orN_bit, Bool.not_eq_true', decide_eq_false_iff_not]
  constructor
  · rintro ⟨p, p1, p2, p3⟩ h
    rw [own_none (Nat.le_refl 20)] at h
    refine h p p1 ⟨of_decide_eq_true p2, ?_⟩
    rw [(hg p p1 p2).1, p3]
  · intro h
    obtain ⟨p, p1, p2, p3, p4⟩ := own_some h
    refine ⟨p, p1, decide_eq_true p2, ?_⟩
    show (σ 20 p).toNatClampNeg = k
    rw [p3, cl_nI (by omega)]
theorem c_lowestFree {r sh u d : Nat} {M : xM} (hB : cB (M.1 r) d) (hs : sh < 3) (hu : u < 256) (hU : M.1 r 2 sh = nI u) : f_X5_lowestFreeRack r (nI sh) M = some (low (fun k => u.testBit k && decide (own (M.1 r) sh k 20 = -6)) 8) := by
  obtain ⟨v, v1, v2, v3⟩ := taken_bit hB hs
  unfold f_X5_lowestFreeRack
  simp (disch := omega) only [in_nI, cl_nI, if_true, c_racksTaken, Option.bind_some, v2, hU, not_and v1 hu]
  have hb : ∀ k, k < 8 → (u &&& (255 ^^^ v)).testBit k = (u.testBit k && decide (own (M.1 r) sh k 20 = -6)) := by
    intro k hk
    rw [Nat.testBit_and, bit_255 hk, v3 k hk, Bool.not_not]
  have hlt : u &&& (255 ^^^ v) < 256 := Nat.lt_of_le_of_lt Nat.and_le_left hu
  rcases c_lowest (M := M) hlt with ⟨h1, h2⟩ | ⟨k, k1, k2, k3, k4⟩
  · rw [h2, low_none (Nat.le_refl 8) (fun k _ hk => (hb k hk).symm.trans (h1 k hk))]
  · rw [k4, low_some k1 ((hb k k1).symm.trans k2) (by omega) (Nat.le_refl 8) (fun j _ hj => (hb j (by omega)).symm.trans (k3 j hj))]
theorem low_cases (P : Nat → Bool) : low P 8 = -6 ∨ ∃ k, k < 8 ∧ P k = true ∧ low P 8 = nI k := by
  have : ∀ n, n ≤ 8 → low P n = -6 ∨ ∃ k, k < 8 ∧ P k = true ∧ low P n = nI k := by
    intro n
    induction n with
    | zero => exact fun _ => Or.inl rfl
    | succ n ih =>
      intro hn
      show (if P (7 - n) = true then nI (7 - n) else low P n) = -6 ∨ ∃ k, k < 8 ∧ P k = true ∧ (if P (7 - n) = true then nI (7 - n) else low P n) = nI k
      by_cases h : P (7 - n) = true
      · rw [if_pos h]
        exact Or.inr ⟨7 - n, by omega, h, rfl⟩
      · rw [if_neg h]
        exact ih (by omega)
  exact this 8 (Nat.le_refl 8)
def zPk (p sh k : Nat) (dy : Int32) (σ : Nat → Nat → Int32) : Nat → Nat → Int32 := ud (ud (ud σ 19 p (nI sh)) 20 p (nI k)) 21 p dy
theorem op_park {D T : Nat} (x : Int32) : opOK D T (f_X5_parkBicycle 2 x) (f_X7_parkError x) (f_X7_parks x) := by
  rintro M M' ⟨W, U, sq, d, kp, nt, hR, hA⟩
  by_cases hx : rg 20 x = true
  · obtain ⟨p, hp, rfl⟩ := (rg_iff (by omega)).mp hx
    have e0 : M'.1 6 1 (14 + 8 * p) = M.1 2 4 p := row00 hR.2.2.2 hp
    have e2 : M'.1 6 1 (14 + 8 * p + 2) = M.1 2 19 p := row0 (f := 2) hR.2.2.2 hp (by omega)
    have e6 : M'.1 6 1 (14 + 8 * p + 6) = M.1 2 23 p := row0 (f := 6) hR.2.2.2 hp (by omega)
    have hperm := hA.2.2.2.1.2.2.2.2.1 p hp
    have hrg := rg3_perm hperm
    by_cases h4 : M.1 2 4 p = -6
    · left
      refine ⟨-5, i_neg5, ?_, ?_⟩
      · unfold f_X5_parkBicycle
        simp only [c_isPerson, c_hasPermit hp, hx, h4, rg_6, Option.bind_some, ite_bI, if_true, Bool.false_eq_true, if_false]
      · unfold f_X7_parkError
        simp only [m_isPerson, m_hasPermit hp, e0, h4, hx, decide_true, Bool.not_true, Option.bind_some, ite_bI, if_true, Bool.false_eq_true, if_false]
    · obtain ⟨sh, hs, hsh⟩ := (rg_iff (by omega)).mp (hperm.resolve_left h4)
      rw [decide_eq_false h4] at hrg
      have hs6 : ¬ nI sh = -6 := nI_ne6 (by omega)
      by_cases h19 : M.1 2 19 p = -6
      · rcases hA.2.2.2.1.2.2.2.2.2 p hp with h23 | ⟨k, k1, k2⟩
        · have hUs := hA.2.2.1.2.2 sh hs
          have hlow := c_lowestFree hA.2.2.2.2.2.1 hs hUs.1 hUs.2
          have mlow : ∀ M'' : xM, mR (M.1 2) W U (M''.1 6 1) 0 → f_X7_freeRack 0 (nI sh) M'' = some (low (fun k => (U sh).testBit k && decide (own (M.1 2) sh k 20 = -6)) 8) := fun M'' h => m_freeRack (b := 0) (by omega) hs hUs.1 (h.2.1 sh hs) h.2.2.2
          rcases low_cases (fun k => (U sh).testBit k && decide (own (M.1 2) sh k 20 = -6)) with hl | ⟨k, k1, k2, k3⟩
          · left
            refine ⟨-4, i_neg4, ?_, ?_⟩
            · unfold f_X5_parkBicycle
              simp (disch := omega) only [c_isPerson, c_hasPermit hp, c_isInRack hp, c_isInPound hp, hx, rg3_nI hs, h19, h23, decide_true, Bool.not_true, Bool.not_false, Option.bind_some, ite_bI, if_true, Bool.false_eq_true, if_false, in_nI, cl_nI, hsh, hlow, hl]
            · unfold f_X7_parkError
              simp (disch := omega) only [m_isPerson, m_hasPermit hp, m_isInRack0 hp, m_personAt0, e0, e2, e6, decide_eq_false hs6, h19, h23, hx, decide_true, Bool.not_true, Bool.not_false, Option.bind_some, ite_bI, if_true, Bool.false_eq_true, if_false, aI_6, in_nI, cl_nI, hsh, mlow M' hR, hl]
          · right
            have hk6 : ¬ nI k = -6 := nI_ne6 (by omega)
            have hkb := Bool.and_eq_true_iff.mp k2
            have hfree := of_decide_eq_true hkb.2
            rw [own_none (Nat.le_refl 20)] at hfree
            refine ⟨?_, nI k, zPk p sh k (M.1 2 0 4) (M.1 2), nI_pos (by omega), ?_, fun M'' hg => ?_⟩
            · unfold f_X7_parkError
              simp (disch := omega) only [m_isPerson, m_hasPermit hp, m_isInRack0 hp, m_personAt0, e0, e2, e6, decide_eq_false hs6, h19, h23, hx, decide_true, Bool.not_true, Bool.not_false, Option.bind_some, ite_bI, if_true, Bool.false_eq_true, if_false, aI_6, in_nI, cl_nI, hsh, mlow M' hR, k3, hk6]
            · unfold f_X5_parkBicycle
              simp (disch := omega) only [c_isPerson, c_hasPermit hp, c_isInRack hp, c_isInPound hp, hx, rg3_nI hs, h19, h23, decide_true, Bool.not_true, Bool.not_false, Option.bind_some, ite_bI, if_true, Bool.false_eq_true, if_false, in_nI, cl_nI, hsh, hlow, k3, hk6, c_placeInRack hp]
              rfl
            · have hR' := hR.agree hA.1 hg
              have hc := hA.1
              have e0' : M''.1 6 1 (14 + 8 * p) = nI sh := (row00 hR'.2.2.2 hp).trans hsh
              have e4 : M''.1 6 1 4 = M.1 2 0 4 := hR'.1.2.1
              have ho5 : zPk p sh k (M.1 2 0 4) (M.1 2) = ud (ud (ud (ud (M.1 2) 19 p (nI sh)) 20 p (nI k)) 21 p (M.1 2 0 4)) 22 p (-6) := by
                have h22 : M.1 2 22 p = -6 := by
                  rcases hA.2.2.2.2.2.1.1 p hp with z | ⟨sh', k', pk, b1, b2, b3, b4, b5, b6, b7⟩
                  · exact z.2.2.2
                  · exact absurd (b4.symm.trans h19) (nI_ne6 (by omega))
                funext o j
                by_cases z : o = 22 ∧ j = p
                · rw [z.1, z.2, ud_eq]
                  unfold zPk
                  rw [ud_ne _ _ (by omega), ud_ne _ _ (by omega), ud_ne _ _ (by omega), h22]
                · rw [ud_ne _ _ z]
                  rfl
              have g2 := hR'.person (f := 2) (v := nI sh) hc hp (by omega)
              have c2 := hc.ud (o := mF 2) (j := p) (nI sh) (show ¬ (7 ≤ 19 ∧ 19 < 10) by omega)
              have g3 := g2.person (f := 3) (v := nI k) c2 hp (by omega)
              have c3 := c2.ud (o := mF 3) (j := p) (nI k) (show ¬ (7 ≤ 20 ∧ 20 < 10) by omega)
              have g4 := g3.person (f := 4) (v := M.1 2 0 4) c3 hp (by omega)
              have c4 := c3.ud (o := mF 4) (j := p) (M.1 2 0 4) (show ¬ (7 ≤ 21 ∧ 21 < 10) by omega)
              have g5 := g4.person (f := 5) (v := -6) c4 hp (by omega)
              have g5 : mR (ud (ud (ud (ud (M.1 2) 19 p (nI sh)) 20 p (nI k)) 21 p (M.1 2 0 4)) 22 p (-6)) W U _ 0 := g5
              rw [← ho5] at g5
              simp only [Nat.zero_add] at g5
              have ot : ∀ o j, ¬ (19 ≤ o ∧ o < 22 ∧ j = p) → zPk p sh k (M.1 2 0 4) (M.1 2) o j = M.1 2 o j := by
                intro o j h
                unfold zPk
                rw [ud_ne _ _ (by omega), ud_ne _ _ (by omega), ud_ne _ _ (by omega)]
              have z19 : zPk p sh k (M.1 2 0 4) (M.1 2) 19 p = nI sh := by
                unfold zPk
                rw [ud_ne _ _ (by omega), ud_ne _ _ (by omega), ud_eq]
              have z20 : zPk p sh k (M.1 2 0 4) (M.1 2) 20 p = nI k := by
                unfold zPk
                rw [ud_ne _ _ (by omega), ud_eq]
              refine ⟨_, ?_, ⟨W, U, sq, d, kp, nt, g5, hA.bikes (fun o j ho => ot o j (by omega)) ⟨fun q hq => ?_, fun q q' hq hq' hn h19' => ?_⟩ (fun q hq => ?_)⟩, ?_⟩
              · unfold f_X7_parks
                simp (disch := omega) only [m_personAt0, Option.bind_some, aI_2, aI_3, aI_4, aI_5, in_nI, cl_nI, if_true, e0', mlow M'' hR', k3, up_sp, sp_get, sp_sp]
                rw [us_ne _ _ (show 4 ≠ 14 + 8 * p + 3 by omega), us_ne _ _ (show 4 ≠ 14 + 8 * p + 2 by omega), e4]
              · by_cases e : q = p
                · subst e
                  refine Or.inr ⟨sh, k, d, hs, k1, Nat.le_refl d, z19, z20, ?_, Or.inl ?_⟩
                  · unfold zPk
                    rw [ud_eq]
                    exact hA.2.2.2.1.1
                  · rw [ho5, ud_eq]
                · rw [ot 19 q (by omega), ot 20 q (by omega), ot 21 q (by omega), ot 22 q (by omega)]
                  exact hA.2.2.2.2.2.1.1 q hq
              · by_cases e : q = p
                · subst e
                  rw [z19, z20, ot 19 q' (by omega), ot 20 q' (by omega)]
                  exact fun a1 a2 => hfree q' hq' ⟨a1.symm, a2.symm⟩
                · by_cases e' : q' = p
                  · subst e'
                    rw [z19, z20, ot 19 q (by omega), ot 20 q (by omega)]
                    exact fun a1 a2 => hfree q hq ⟨a1, a2⟩
                  · rw [ot 19 q (by omega)] at h19'
                    rw [ot 19 q (by omega), ot 19 q' (by omega), ot 20 q (by omega), ot 20 q' (by omega)]
                    exact hA.2.2.2.2.2.1.2 q q' hq hq' hn h19'
              · rw [ot 23 q (by omega)]
                exact hA.2.2.2.1.2.2.2.2.2 q hq
              · exact ((((mFr.refl _ _).us (by omega)).us (by omega)).us (by omega)).us (by omega)
        · left
          have hk6 : ¬ nI k = -6 := nI_ne6 (by have := hA.2.2.2.1.2.1; omega)
          refine ⟨-5, i_neg5, ?_, ?_⟩
          · unfold f_X5_parkBicycle
            simp (disch := omega) only [c_isPerson, c_hasPermit hp, c_isInRack hp, c_isInPound hp, hx, hrg, h19, k2, decide_eq_false hk6, decide_true, Bool.not_true, Bool.not_false, Option.bind_some, ite_bI, if_true, Bool.false_eq_true, if_false]
          · unfold f_X7_parkError
            simp (disch := omega) only [m_isPerson, m_hasPermit hp, m_isInRack0 hp, m_personAt0, e0, e2, e6, decide_eq_false h4, h19, k2, hk6, hx, decide_true, Bool.not_true, Bool.not_false, Option.bind_some, ite_bI, if_true, Bool.false_eq_true, if_false, aI_6, in_nI, cl_nI]
      · left
        refine ⟨-5, i_neg5, ?_, ?_⟩
        · unfold f_X5_parkBicycle
          simp (disch := omega) only [c_isPerson, c_hasPermit hp, c_isInRack hp, hx, hrg, decide_eq_false h19, Bool.not_false, Option.bind_some, ite_bI, if_true]
        · unfold f_X7_parkError
          simp (disch := omega) only [m_isPerson, m_hasPermit hp, m_isInRack0 hp, e0, e2, decide_eq_false h4, decide_eq_false h19, hx, Bool.not_false, Option.bind_some, ite_bI, if_true]
  · left
    refine ⟨-1, i_neg1, ?_, ?_⟩
    · unfold f_X5_parkBicycle
      simp only [c_isPerson, hx, Option.bind_some, ite_bI, Bool.false_eq_true, if_false]
    · unfold f_X7_parkError
      simp only [m_isPerson, hx, Option.bind_some, ite_bI, Bool.false_eq_true, if_false]
