/-! the model's rows copied -/
def cpR (s : Nat → Int32) (a c k : Nat) : Nat → Int32 := fun j => if 354 * c ≤ j ∧ j < 354 * c + k then s (j - 354 * c + 354 * a) else s j
theorem cpR_in {s : Nat → Int32} {a c k i : Nat} (h : i < k) : cpR s a c k (354 * c + i) = s (354 * a + i) := by
  unfold cpR
  rw [if_pos (by omega)]
  congr 1
  omega
theorem cpR_out {s : Nat → Int32} {a c k j : Nat} (h : ¬ (354 * c ≤ j ∧ j < 354 * c + k)) : cpR s a c k j = s j := if_neg h
theorem m_copies {a c : Nat} {M : xM} (ha : a ≤ 9) (hc : c ≤ 9) (hne : a ≠ c) : f_X7_copies (nI a) (nI c) M = some (sp M (cpR (M.1 6 1) a c 354)) := by
  unfold f_X7_copies
  have hl := xlp_for (body := f_X7_copies_l2 (nI a) (nI c)) (q := sp M (cpR (M.1 6 1) a c 354)) (f := fun k => (nI k, sp M (cpR (M.1 6 1) a c k))) 354 4000 (by omega) (fun k hk => ?_) ?_
  · have e0 : cpR (M.1 6 1) a c 0 = M.1 6 1 := by
      funext j
      exact if_neg (by omega)
    rw [e0, sp_self] at hl
    exact hl
  · unfold f_X7_copies_l2
    have em : ∀ z : Nat, (354 : Int32) * nI z = nI (354 * z) := fun z => nI_mul 354 z
    simp (disch := omega) only [lt_354, if_true, em, nI_add, in_nI, cl_nI, sp_get, up_sp, sp_sp, aI_1]
    congr 4
    funext j
    by_cases hj : j = 354 * c + k
    · subst hj
      rw [us_eq, cpR_in (by omega), cpR_out (by omega)]
    · rw [us_ne _ _ hj]
      by_cases h : 354 * c ≤ j ∧ j < 354 * c + k
      · unfold cpR
        rw [if_pos h, if_pos (by omega)]
      · rw [cpR_out h, cpR_out (by omega)]
  · unfold f_X7_copies_l2
    dsimp only
    rw [if_neg (show ¬ nI 354 < 354 by decide)]
    rfl
def shR (s : Nat → Int32) : Nat → Nat → Int32
  | 0 => s
  | m + 1 => cpR (shR s m) (m + 2) (m + 1) 354
theorem shR_0 {s : Nat → Int32} : ∀ m, m ≤ 5 → ∀ j, j < 354 ∨ 2478 ≤ j → shR s m j = s j
  | 0, _, _, _ => rfl
  | m + 1, hm, j, hj => (cpR_out (by omega)).trans (shR_0 m (by omega) j hj)
theorem shR_at {s : Nat → Int32} : ∀ m, m ≤ 5 → ∀ k i, k < 6 → i < 354 → shR s m (354 * (k + 1) + i) = if k < m then s (354 * (k + 2) + i) else s (354 * (k + 1) + i)
  | 0, _, k, i, _, _ => (if_neg (by omega)).symm
  | m + 1, hm, k, i, hk, hi => by
    show cpR (shR s m) (m + 2) (m + 1) 354 (354 * (k + 1) + i) = _
    by_cases e : k = m
    · subst e
      rw [cpR_in hi, shR_at k (by omega) (k + 1) i (by omega) hi, if_neg (by omega), if_pos (by omega)]
    · rw [cpR_out (by omega), shR_at m (by omega) k i hk hi]
      by_cases h : k < m
      · rw [if_pos h, if_pos (by omega)]
      · rw [if_neg h, if_neg (by omega)]
def chR (s : Nat → Int32) (n : Nat) : Nat → Int32 := if n = 6 then cpR (shR s 5) 0 6 354 else cpR s 0 (n + 1) 354
theorem chR_0 {s : Nat → Int32} {n j : Nat} (hj : j < 354) : chR s n j = s j := by
  unfold chR
  split
  · rw [cpR_out (by omega), shR_0 5 (by omega) j (by omega)]
  · rw [cpR_out (by omega)]
theorem chR_far {s : Nat → Int32} {n j : Nat} (hn : n ≤ 6) (hj : 2478 ≤ j) : chR s n j = s j := by
  unfold chR
  split
  · rw [cpR_out (by omega), shR_0 5 (by omega) j (by omega)]
  · rw [cpR_out (by omega)]
theorem chR_old {s : Nat → Int32} {n k i : Nat} (hn : n ≤ 6) (hk : k < n - drp n) (hi : i < 354) : chR s n (354 * (k + 1) + i) = s (354 * (k + drp n + 1) + i) := by
  unfold chR
  by_cases h : n = 6
  · have hd : drp n = 1 := if_pos h
    rw [hd] at hk ⊢
    rw [if_pos h, cpR_out (by omega), shR_at 5 (by omega) k i (by omega) hi, if_pos (by omega)]
  · have hd : drp n = 0 := if_neg h
    rw [hd] at hk ⊢
    rw [if_neg h, cpR_out (by omega)]
theorem chR_new {s : Nat → Int32} {n i : Nat} (hi : i < 354) : chR s n (354 * (n - drp n + 1) + i) = s i := by
  unfold chR
  by_cases h : n = 6
  · subst h
    show (if 6 = 6 then cpR (shR s 5) 0 6 354 else cpR s 0 (6 + 1) 354) (354 * 6 + i) = _
    rw [if_pos rfl, cpR_in hi, shR_0 5 (by omega) _ (by omega)]
    congr 1
    omega
  · have hd : drp n = 0 := if_neg h
    rw [hd, Nat.sub_zero, if_neg h, cpR_in hi]
    congr 1
    omega
theorem xu_eq (M : xM) (r o j : Nat) (v : Int32) : (xd_up M r o j v).1 r o j = v := by rw [up_rp, rp_get, us_eq]
theorem xu_ne (M : xM) {r o r' o' : Nat} (j : Nat) (v : Int32) (h : ¬ (r' = r ∧ o' = o)) : (xd_up M r o j v).1 r' o' = M.1 r' o' := by rw [up_rp, rp_ne _ _ h]
theorem m_j41 {n : Nat} {M : xM} (hn : n ≤ 5) (h : M.1 6 0 1 = nI n) : f_X7_changes_j41 M = some (sp (xd_up M 6 0 1 (nI (n + 1))) (cpR (M.1 6 1) 0 (n + 1) 354)) := by
  unfold f_X7_changes_j41
  have e1 : (xd_up M 6 0 1 (nI (n + 1))).1 6 0 1 = nI (n + 1) := xu_eq _ _ _ _ _
  have e2 : (xd_up M 6 0 1 (nI (n + 1))).1 6 1 = M.1 6 1 := xu_ne _ _ _ (by omega)
  rw [h, aI_1, e1]
  have := m_copies (a := 0) (c := n + 1) (M := xd_up M 6 0 1 (nI (n + 1))) (by omega) (by omega) (by omega)
  rw [e2] at this
  have this : f_X7_copies 0 (nI (n + 1)) _ = _ := this
  rw [this]
  rfl
theorem m_changes {n : Nat} {M : xM} (hn : n ≤ 6) (h : M.1 6 0 1 = nI n) : f_X7_changes M = some (sp (xd_up M 6 0 1 (nI (n - drp n + 1))) (chR (M.1 6 1) n)) := by
  unfold f_X7_changes
  by_cases h6 : n = 6
  · subst h6
    rw [if_pos (show M.1 6 0 1 = (6 : Int32) from h)]
    have hl := xlp_for (body := f_X7_changes_l11) (q := sp (xd_up M 6 0 1 (nI (6 - drp 6 + 1))) (chR (M.1 6 1) 6)) (f := fun i => (nI (i + 1), sp M (shR (M.1 6 1) i))) 5 4000 (by omega) (fun k hk => ?_) ?_
    · have e0 : shR (M.1 6 1) 0 = M.1 6 1 := rfl
      rw [e0, sp_self] at hl
      exact hl
    · unfold f_X7_changes_l11
      have hc := m_copies (a := k + 2) (c := k + 1) (M := sp M (shR (M.1 6 1) k)) (by omega) (by omega) (by omega)
      rw [sp_get, sp_sp] at hc
      simp (disch := omega) only [lt_6, if_true, aI_1, hc, Option.bind_some]
      rfl
    · unfold f_X7_changes_l11
      dsimp only
      rw [if_neg (show ¬ nI (5 + 1) < 6 by decide)]
      have e1 : (sp M (shR (M.1 6 1) 5)).1 6 0 1 - 1 = nI 5 := by
        show (if (6 : Nat) = 6 ∧ (0 : Nat) = 1 then shR (M.1 6 1) 5 else M.1 6 0) 1 - 1 = nI 5
        rw [if_neg (by omega), h]
        rfl
      rw [e1]
      have hj := m_j41 (n := 5) (M := xd_up (sp M (shR (M.1 6 1) 5)) 6 0 1 (nI 5)) (by omega) (xu_eq _ _ _ _ _)
      have e2 : (xd_up (sp M (shR (M.1 6 1) 5)) 6 0 1 (nI 5)).1 6 1 = shR (M.1 6 1) 5 := (xu_ne _ _ _ (by omega)).trans (sp_get _ _)
      rw [e2] at hj
      rw [hj, Option.map_some]
      have e3 : sp (xd_up (xd_up (sp M (shR (M.1 6 1) 5)) 6 0 1 (nI 5)) 6 0 1 (nI (5 + 1))) (cpR (shR (M.1 6 1) 5) 0 (5 + 1) 354) = sp (xd_up M 6 0 1 (nI (6 - drp 6 + 1))) (chR (M.1 6 1) 6) := by
        refine Prod.ext ?_ rfl
        funext r o
        show (if r = 6 ∧ o = 1 then cpR (shR (M.1 6 1) 5) 0 (5 + 1) 354 else fun j => if r = 6 ∧ o = 0 ∧ j = 1 then nI (5 + 1) else if r = 6 ∧ o = 0 ∧ j = 1 then nI 5 else (if r = 6 ∧ o = 1 then shR (M.1 6 1) 5 else M.1 r o) j) = (if r = 6 ∧ o = 1 then chR (M.1 6 1) 6 else fun j => if r = 6 ∧ o = 0 ∧ j = 1 then nI (6 - drp 6 + 1) else M.1 r o j)
        by_cases a : r = 6 ∧ o = 1
        · rw [if_pos a, if_pos a]
          rfl
        · rw [if_neg a, if_neg a, if_neg a]
          funext j
          by_cases b : r = 6 ∧ o = 0 ∧ j = 1
          · rw [if_pos b, if_pos b]
            rfl
          · rw [if_neg b, if_neg b, if_neg b]
      rw [e3]
  · rw [if_neg (show ¬ M.1 6 0 1 = (6 : Int32) from fun z => h6 ((nI_eq (b := 6) (by omega) (by omega)).mp (h.symm.trans z))), m_j41 (by omega) h]
    have hd : drp n = 0 := if_neg h6
    have hc : chR (M.1 6 1) n = cpR (M.1 6 1) 0 (n + 1) 354 := if_neg h6
    rw [hd, hc]
    rfl
/-! a row at another place -/
def mSh (s s' : Nat → Int32) (b b' : Nat) : Prop := ∀ i, i < 354 → s' (b' + i) = s (b + i)
theorem mSh.at {s s' : Nat → Int32} {b b' : Nat} (e : mSh s s' b b') {x y : Nat} (h1 : b ≤ y) (h2 : y < b + 354) (h3 : x + b = y + b') : s' x = s y := by
  have := e (y - b) (by omega)
  rw [show b' + (y - b) = x by omega, show b + (y - b) = y by omega] at this
  exact this
theorem mR.shift {σ : Nat → Nat → Int32} {W : Nat → List Nat} {U : Nat → Nat} {s s' : Nat → Int32} {b b' : Nat} (h : mR σ W U s b) (hc : cW σ W) (e : mSh s s' b b') : mR σ W U s' b' := by
  obtain ⟨⟨a1, a2, a3, a4, a5⟩, ho, hl, hP⟩ := h
  refine ⟨⟨fun k hk => ?_, ?_, ?_, ?_, ?_⟩, fun k hk => ?_, fun k hk => ⟨?_, fun i q hi => ?_⟩, fun q g hq hg => ?_⟩
  · rw [e.at (y := b + k) (by omega) (by omega) (by omega)]
    exact a1 k hk
  · rw [e.at (y := b + 4) (by omega) (by omega) (by omega)]
    exact a2
  · rw [e.at (y := b + 5) (by omega) (by omega) (by omega)]
    exact a3
  · rw [e.at (y := b + 6) (by omega) (by omega) (by omega)]
    exact a4
  · rw [e.at (y := b + 7) (by omega) (by omega) (by omega)]
    exact a5
  · rw [e.at (y := b + 8 + k) (by omega) (by omega) (by omega)]
    exact ho k hk
  · rw [e.at (y := b + 11 + k) (by omega) (by omega) (by omega)]
    exact (hl k hk).1
  · have := ((hc k hk).lt hi).1
    rw [e.at (y := b + 174 + 3 * (20 * k + i)) (by omega) (by omega) (by omega), e.at (y := b + 174 + 3 * (20 * k + i) + 1) (by omega) (by omega) (by omega), e.at (y := b + 174 + 3 * (20 * k + i) + 2) (by omega) (by omega) (by omega)]
    exact (hl k hk).2 i q hi
  · rw [e.at (y := b + 14 + 8 * q + g) (by omega) (by omega) (by omega)]
    exact hP q g hq hg
theorem gS.shift {D T : Nat} {σ : Nat → Nat → Int32} {s s' : Nat → Int32} {b b' : Nat} (h : gS D T σ s b) (e : mSh s s' b b') : gS D T σ s' b' := by
  obtain ⟨W, U, sq, d, kp, nt, hR, hA⟩ := h
  exact ⟨W, U, sq, d, kp, nt, hR.shift hA.1 e, hA⟩
