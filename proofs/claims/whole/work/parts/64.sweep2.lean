/-! a whole sweep in the model -/
theorem zG_no {sh lt d : Int32} {σ : Nat → Nat → Int32} {n o : Nat} (hn : n < 20) (h1 : ¬ σ 19 n = sh) : zG sh lt d σ o n = σ o n := by
  have hd : zDue sh lt (zSweep sh σ) n = false := by
    rw [zDue_at hn, decide_eq_false h1, Bool.false_and]
  unfold zG zTake
  rw [hd, if_neg (by decide), zSweep_at hn]
  unfold zTag
  rw [if_neg (fun z => h1 z.2.1)]
theorem zT_ok {σ : Nat → Nat → Int32} {d n : Nat} {sh : Int32} (hB : cB σ d) (hd : σ 0 4 = nI d) (hn : n < 20) : zT sh σ n = -6 ∨ ∃ t, t ≤ d ∧ zT sh σ n = nI t := by
  unfold zT
  split
  · exact Or.inr ⟨d, Nat.le_refl d, hd⟩
  · rcases hB.1 n hn with z | ⟨sh, k, pk, b1, b2, b3, b4, b5, b6, b7⟩
    · exact Or.inl z.2.2.2
    · exact b7
theorem m_sweeps {D T b sh sq d kp nt : Nat} {σ : Nat → Nat → Int32} {W : Nat → List Nat} {U : Nat → Nat} {M : xM} (hb : b ≤ 3186) (hR : mR σ W U (M.1 6 1) b) (hA : gA D T σ W U sq d kp nt) : ∃ t, f_X7_sweeps (nI b) (nI sh) M = some (nI (cnt (zDue (nI sh) (σ 0 4 - σ 1 2) (zSweep (nI sh) σ)) 20), sp M t) ∧ mR (zSw (nI sh) (σ 0 4 - σ 1 2) (σ 0 4) σ 20) W U t b ∧ mFr (M.1 6 1) t b := by
  have hd := hA.2.2.2.1.1
  have hd2 := hA.2.2.2.1.2.1
  have hnt := hA.2.2.2.2.2.2.2.2
  have hB := hA.2.2.2.2.2.1
  have hc := hA.1
  have := xlp_rule (body := f_X7_sweeps_l5 (nI b) (nI sh)) (Q := fun r => ∃ t, r = (nI (cnt (zDue (nI sh) (σ 0 4 - σ 1 2) (zSweep (nI sh) σ)) 20), sp M t) ∧ mR (zSw (nI sh) (σ 0 4 - σ 1 2) (σ 0 4) σ 20) W U t b ∧ mFr (M.1 6 1) t b)
    (fun n st => ∃ t, st = (nI (cnt (zDue (nI sh) (σ 0 4 - σ 1 2) (zSweep (nI sh) σ)) n), nI n, sp M t) ∧ mR (zSw (nI sh) (σ 0 4 - σ 1 2) (σ 0 4) σ n) W U t b ∧ mFr (M.1 6 1) t b) 20 4000 (by omega) (fun n st hn hP => ?_) (fun st hP => ?_) (nI 0, nI 0, M) ⟨M.1 6 1, ?_, ?_, mFr.refl _ _⟩
  · obtain ⟨q, h1, t, rfl, h2, h3⟩ := this
    exact ⟨t, h1, h2, h3⟩
  · obtain ⟨t, rfl, ht, hf⟩ := hP
    left
    have old : ∀ {o}, o ≠ 18 → zSw (nI sh) (σ 0 4 - σ 1 2) (σ 0 4) σ n o n = σ o n := fun ho => (zSw_2 (fun z => ho z.1)).trans (pm_at _ _ _ _)
    have fix : ∀ {o j}, o < 18 → zSw (nI sh) (σ 0 4 - σ 1 2) (σ 0 4) σ n o j = σ o j := fun ho => (zSw_2 (fun z => by omega)).trans (pm_same (zG_18 (by omega)))
    have hcn : cW (zSw (nI sh) (σ 0 4 - σ 1 2) (σ 0 4) σ n) W := hc.congr (fun o j h1 h2 => fix (by omega))
    have r0 : t (b + 14 + 8 * n) = σ 4 n := (ht.2.2.2 n 0 hn (by omega)).trans (old (o := 4) (by omega))
    have r2 : t (b + 14 + 8 * n + 2) = σ 19 n := (ht.2.2.2 n 2 hn (by omega)).trans (old (o := 19) (by omega))
    have r4 : t (b + 14 + 8 * n + 4) = σ 21 n := (ht.2.2.2 n 4 hn (by omega)).trans (old (o := 21) (by omega))
    have r5 : t (b + 14 + 8 * n + 5) = σ 22 n := (ht.2.2.2 n 5 hn (by omega)).trans (old (o := 22) (by omega))
    have rD : t (b + 4) = σ 0 4 := ht.1.2.1.trans (fix (by omega))
    have rI : t (b + 1) = σ 1 1 := (ht.1.1 1 (by omega)).trans (fix (by omega))
    have rN : t (b + 2) = σ 1 2 := (ht.1.1 2 (by omega)).trans (fix (by omega))
    have rT : t (b + 6) = zSw (nI sh) (σ 0 4 - σ 1 2) (σ 0 4) σ n 18 6 := ht.1.2.2.2.1
    rw [m_sweepOne (M := sp M t) (σ := σ) hb hn (by rw [sp_get]; exact r0) (by rw [sp_get]; exact r2) (by rw [sp_get]; exact r4) (by rw [sp_get]; exact r5) (by rw [sp_get]; exact rD) (by rw [sp_get]; exact rI)]
    by_cases h1 : σ 19 n = nI sh
    · rw [if_pos h1, m_sweepTwo (M := sp M t) (d := σ 0 4) (nt := σ 1 2) (c := zSw (nI sh) (σ 0 4 - σ 1 2) (σ 0 4) σ n 18 6) hb hn (by rw [sp_get]; exact rD) (by rw [sp_get]; exact rN) (by rw [sp_get]; exact rT), sp_get, sp_sp, sp_sp]
      have hdue : zDue (nI sh) (σ 0 4 - σ 1 2) (zSweep (nI sh) σ) n = decide (¬ zT (nI sh) σ n = -6 ∧ ¬ σ 0 4 - zT (nI sh) σ n < σ 1 2) := by
        rw [zDue_at hn, decide_eq_true h1, Bool.true_and]
        rcases zT_ok (sh := nI sh) hB hd hn with z | ⟨k, k1, k2⟩
        · rw [z]
          simp only [decide_true, Bool.not_true, Bool.false_and, not_true_eq_false, false_and, decide_false]
        · have n6 : ¬ nI k = -6 := nI_ne6 (by omega)
          rw [k2, hd, hnt.1]
          have e : (nI d - nI nt < nI k) = (nI d - nI k < nI nt) := by
            rw [propext (sub_lt (a := d) (b := nt) (c := k) (by omega) (by omega) (by omega)), propext (sub_lt (a := d) (b := k) (c := nt) (by omega) (by omega) (by omega))]
            exact propext (by omega)
          rw [decide_eq_decide.mpr (Iff.of_eq e), decide_eq_false n6]
          by_cases h : nI d - nI k < nI nt
          · rw [decide_eq_true h, decide_eq_false (fun z => z.2 h)]
            rfl
          · rw [decide_eq_false h, decide_eq_true ⟨n6, h⟩]
            rfl
      have g5 := ht.person (f := 5) (v := zT (nI sh) σ n) hcn hn (by omega)
      have c5 := hcn.ud (o := mF 5) (j := n) (zT (nI sh) σ n) (show ¬ (7 ≤ 22 ∧ 22 < 10) by omega)
      by_cases h2 : ¬ zT (nI sh) σ n = -6 ∧ ¬ σ 0 4 - zT (nI sh) σ n < σ 1 2
      · rw [if_pos h2]
        rw [decide_eq_true h2] at hdue
        have g6 := g5.leaveRack c5 hn
        have c6 : cW (zLR n (ud (zSw (nI sh) (σ 0 4 - σ 1 2) (σ 0 4) σ n) (mF 5) n (zT (nI sh) σ n))) W := c5.congr (fun o j z1 z2 => zLR_other (by omega))
        have g7 := g6.person (f := 6) (v := σ 0 4) c6 hn (by omega)
        have c7 := c6.ud (o := mF 6) (j := n) (σ 0 4) (show ¬ (7 ≤ 23 ∧ 23 < 10) by omega)
        have g8 := g7.own (k := 6) (o := 18) (f := 6) (v := zSw (nI sh) (σ 0 4 - σ 1 2) (σ 0 4) σ n 18 6 + 1) c7 (by omega)
        have g8 : mR (ud (ud (zLR n (ud (zSw (nI sh) (σ 0 4 - σ 1 2) (σ 0 4) σ n) 22 n (zT (nI sh) σ n))) 23 n (σ 0 4)) 18 6 (zSw (nI sh) (σ 0 4 - σ 1 2) (σ 0 4) σ n 18 6 + 1)) W U _ b := g8
        rw [← zSw_take hn h1 hdue] at g8
        refine ⟨_, ?_, _, rfl, g8, ?_⟩
        · rw [cnt_succ, hdue, if_pos rfl, aI_1]
        · exact (((((((hf.us (by omega)).us (by omega)).us (by omega)).us (by omega)).us (by omega)).us (by omega)).us (by omega))
      · rw [if_neg h2]
        rw [decide_eq_false h2] at hdue
        have g5 : mR (ud (zSw (nI sh) (σ 0 4 - σ 1 2) (σ 0 4) σ n) 22 n (zT (nI sh) σ n)) W U _ b := g5
        rw [← zSw_keep hn h1 hdue] at g5
        refine ⟨_, ?_, _, rfl, g5, hf.us (by omega)⟩
        rw [cnt_succ, hdue, if_neg (by decide)]
    · rw [if_neg h1]
      have hdue : zDue (nI sh) (σ 0 4 - σ 1 2) (zSweep (nI sh) σ) n = false := by
        rw [zDue_at hn, decide_eq_false h1, Bool.false_and]
      refine ⟨_, rfl, t, ?_, ?_, hf⟩
      · rw [cnt_succ, hdue, if_neg (by decide)]
      · rw [zSw_no hn h1]
        exact ht
  · obtain ⟨t, rfl, ht, hf⟩ := hP
    exact ⟨_, rfl, t, rfl, ht, hf⟩
  · rw [sp_self]
    rfl
  · have : zSw (nI sh) (σ 0 4 - σ 1 2) (σ 0 4) σ 0 = σ := by
      unfold zSw
      rw [pm_0]
      funext o j
      by_cases h : o = 18 ∧ j = 6
      · rw [h.1, h.2, ud_eq]
        exact Int32.add_zero _
      · rw [ud_ne _ _ h]
    rw [this]
    exact hR
theorem gA.sweep {D T sq d kp nt sh : Nat} {σ : Nat → Nat → Int32} {W : Nat → List Nat} {U : Nat → Nat} (hs : sh < 3) (hA : gA D T σ W U sq d kp nt) : gA D T (zSw (nI sh) (σ 0 4 - σ 1 2) (σ 0 4) σ 20) W U sq d kp nt := by
  have hd := hA.2.2.2.1.1
  have hB := hA.2.2.2.2.2.1
  have hP := hA.2.2.2.1.2.2.2.2.2
  have at1 : ∀ o p, p < 20 → 18 < o → zSw (nI sh) (σ 0 4 - σ 1 2) (σ 0 4) σ 20 o p = zG (nI sh) (σ 0 4 - σ 1 2) (σ 0 4) σ o p := fun o p hp ho => (zSw_2 (fun z => by omega)).trans (pm_in _ _ hp)
  have dich : ∀ p, p < 20 → (zSw (nI sh) (σ 0 4 - σ 1 2) (σ 0 4) σ 20 19 p = -6 ∧ zSw (nI sh) (σ 0 4 - σ 1 2) (σ 0 4) σ 20 20 p = -6 ∧ zSw (nI sh) (σ 0 4 - σ 1 2) (σ 0 4) σ 20 21 p = -6 ∧ zSw (nI sh) (σ 0 4 - σ 1 2) (σ 0 4) σ 20 22 p = -6 ∧ zSw (nI sh) (σ 0 4 - σ 1 2) (σ 0 4) σ 20 23 p = nI d) ∨ (zSw (nI sh) (σ 0 4 - σ 1 2) (σ 0 4) σ 20 19 p = σ 19 p ∧ zSw (nI sh) (σ 0 4 - σ 1 2) (σ 0 4) σ 20 20 p = σ 20 p ∧ zSw (nI sh) (σ 0 4 - σ 1 2) (σ 0 4) σ 20 21 p = σ 21 p ∧ (zSw (nI sh) (σ 0 4 - σ 1 2) (σ 0 4) σ 20 22 p = σ 22 p ∨ (σ 19 p = nI sh ∧ zSw (nI sh) (σ 0 4 - σ 1 2) (σ 0 4) σ 20 22 p = zT (nI sh) σ p)) ∧ zSw (nI sh) (σ 0 4 - σ 1 2) (σ 0 4) σ 20 23 p = σ 23 p) := by
    intro p hp
    rw [at1 19 p hp (by omega), at1 20 p hp (by omega), at1 21 p hp (by omega), at1 22 p hp (by omega), at1 23 p hp (by omega)]
    by_cases h1 : σ 19 p = nI sh
    · rw [zG_at hp h1, zG_at hp h1, zG_at hp h1, zG_at hp h1, zG_at hp h1]
      cases zDue (nI sh) (σ 0 4 - σ 1 2) (zSweep (nI sh) σ) p
      · right
        exact ⟨rfl, rfl, rfl, Or.inr ⟨h1, rfl⟩, rfl⟩
      · left
        exact ⟨rfl, rfl, rfl, rfl, hd⟩
    · right
      rw [zG_no hp h1, zG_no hp h1, zG_no hp h1, zG_no hp h1, zG_no hp h1]
      exact ⟨rfl, rfl, rfl, Or.inl rfl, rfl⟩
  refine hA.bikes (fun o j ho => (zSw_2 (fun z => by omega)).trans (pm_same (zG_18 (by omega)))) ⟨fun p hp => ?_, fun p q hp hq hn h19 => ?_⟩ (fun p hp => ?_)
  · rcases dich p hp with ⟨a1, a2, a3, a4, a5⟩ | ⟨a1, a2, a3, a4, a5⟩
    · exact Or.inl ⟨a1, a2, a3, a4⟩
    · rw [a1, a2, a3]
      rcases hB.1 p hp with z | ⟨sh', k, pk, b1, b2, b3, b4, b5, b6, b7⟩
      · left
        refine ⟨z.1, z.2.1, z.2.2.1, ?_⟩
        rcases a4 with a4 | a4
        · rw [a4]
          exact z.2.2.2
        · exact absurd (a4.1.symm.trans z.1) (nI_ne6 (by omega))
      · right
        refine ⟨sh', k, pk, b1, b2, b3, b4, b5, b6, ?_⟩
        rcases a4 with a4 | a4
        · rw [a4]
          exact b7
        · rw [a4.2]
          exact zT_ok hB hd hp
  · rcases dich p hp with ⟨a1, a2, a3, a4, a5⟩ | ⟨a1, a2, a3, a4, a5⟩
    · exact absurd a1 h19
    · rcases dich q hq with ⟨c1, c2, c3, c4, c5⟩ | ⟨c1, c2, c3, c4, c5⟩
      · intro e
        exact absurd (e.trans c1) h19
      · rw [a1] at h19
        rw [a1, a2, c1, c2]
        exact hB.2 p q hp hq hn h19
  · rcases dich p hp with ⟨a1, a2, a3, a4, a5⟩ | ⟨a1, a2, a3, a4, a5⟩
    · exact Or.inr ⟨d, Nat.le_refl d, a5⟩
    · rw [a5]
      exact hP p hp
theorem op_sweep {D T sh : Nat} (hs : sh < 3) : opOK D T (f_X5_sweepShed 2 (nI sh)) (fun _ => some 0) (f_X7_sweeps 0 (nI sh)) := by
  rintro M M' ⟨W, U, sq, d, kp, nt, hR, hA⟩
  right
  have hcl := cnt_le (zDue (nI sh) (M.1 2 0 4 - M.1 2 1 2) (zSweep (nI sh) (M.1 2))) 20
  refine ⟨rfl, _, _, nI_pos (by omega), c_sweep hs, fun M'' hg => ?_⟩
  obtain ⟨t, t1, t2, t3⟩ := m_sweeps (b := 0) (sh := sh) (M := M'') (by omega) (hR.agree hA.1 hg) hA
  exact ⟨t, t1, ⟨W, U, sq, d, kp, nt, t2, hA.sweep hs⟩, t3⟩
