/-! what would be: the best shed, a sweep -/
def wv (b0 b1 b2 : Bool) : Int32 :=
  let x0 : Int32 := if b0 = true then 0 ||| ((1 : Int32) <<< (nI 0 &&& 31)) else 0
  let x1 : Int32 := if b1 = true then x0 ||| ((1 : Int32) <<< (nI 1 &&& 31)) else x0
  if b2 = true then x1 ||| ((1 : Int32) <<< (nI 2 &&& 31)) else x1
theorem wv_0 : ∀ b0 b1 b2, wv b0 b1 b2 = 0 → b0 = false ∧ b1 = false ∧ b2 = false := by decide +kernel
theorem zWait_0 {σ : Nat → Nat → Int32} {W : Nat → List Nat} {p : Nat} (hc : cW σ W) (hp : p < 20) (h : zWait σ p 3 = 0) : ∀ k, k < 3 → p ∉ W k := by
  have e : wv (!decide (σ (7 + 0) p = -6)) (!decide (σ (7 + 1) p = -6)) (!decide (σ (7 + 2) p = -6)) = 0 := h
  obtain ⟨h0, h1, h2⟩ := wv_0 _ _ _ e
  intro k hk
  refine ((hc k hk).out hp).mp ?_
  rcases (by omega : k = 0 ∨ k = 1 ∨ k = 2) with rfl | rfl | rfl
  · exact of_decide_eq_true (by rw [Bool.not_eq_false'] at h0; exact h0)
  · exact of_decide_eq_true (by rw [Bool.not_eq_false'] at h1; exact h1)
  · exact of_decide_eq_true (by rw [Bool.not_eq_false'] at h2; exact h2)
theorem bs_one {T p sh a sq d kp nt : Nat} {σ : Nat → Nat → Int32} {W : Nat → List Nat} {U : Nat → Nat} (hA : gA 9999 T σ W U sq d kp nt) (hT : 10398 ≤ T) (hT2 : T < 2 ^ 30) (hp : p < 20) (hs : sh < 3) (ha : 1 ≤ a) (ha2 : a ≤ 99) (h6 : σ 4 p = -6) (hm : p ∉ W sh) : ∃ w, (∀ N : xM, N.1 2 = σ → ∃ τ, f_X6_daysToWaitFor (nI p) (nI sh) (nI a) N = some (w, put N 4 τ)) ∧ ∀ N : xM, mR σ W U (N.1 6 1) 0 → ∃ t1 t2 t pl, f_X7_copies 0 9 N = some (sp N t1) ∧ f_X7_asksFor 3186 (nI p) (nI sh) (nI a) (sp N t1) = some (pl, sp N t2) ∧ f_X7_daysTo (nI p) (sp N t2) = some (w, sp N t) ∧ mFr (N.1 6 1) t 3186 := by
  have hd := hA.2.2.2.2.1
  have hAs : gA d T σ W U sq d kp nt := hA.self
  have hc3 : ∀ N : xM, N.1 2 = σ → f_X5_askFor 4 (nI p) (nI sh) (nI a) (xe_cp 4 2 N) = if cnt (fun p => decide (σ 4 p = nI sh)) 20 < pcnt (U sh) + sq ∧ W sh = [] then some (0, put N 4 (zGive p (nI sh) (nI a) (σ 0 4) σ)) else some (nI ((W sh).length + 1), put N 4 (zQ p sh (W sh).length (nI a) (σ 0 4) σ)) := by
    intro N hN
    have := c_askFor (r := 4) (M := xe_cp 4 2 N) (a := a) (by rw [cp_to, hN]; exact hA) hp hs ha ha2 (by rw [cp_to, hN]; exact h6) hm
    rw [this, cp_to, hN, cp_put, put_put, put_put]
  have hm3 : ∀ N : xM, mR σ W U (N.1 6 1) 0 → ∃ t1, f_X7_copies 0 9 N = some (sp N t1) ∧ mR σ W U t1 3186 ∧ mFr (N.1 6 1) t1 3186 := fun N hN => m_trial hN hA.1
  by_cases hc : cnt (fun p => decide (σ 4 p = nI sh)) 20 < pcnt (U sh) + sq ∧ W sh = []
  · refine ⟨0, fun N hN => ⟨zGive p (nI sh) (nI a) (σ 0 4) σ, ?_⟩, fun N hN => ?_⟩
    · unfold f_X6_daysToWaitFor
      rw [hc3 N hN, if_pos hc]
      rfl
    · obtain ⟨t1, c1, c2, c3⟩ := hm3 N hN
      obtain ⟨t2, d1, d2, d3⟩ := (m_asksFor (b := 3186) (p := p) (a := a) (M := sp N t1) (Nat.le_refl _) (by rw [sp_get]; exact c2) hA hp hs hm).1 hc
      rw [sp_sp] at d1
      rw [sp_get] at d3
      have e := m_until0 (M := sp N t2) (by rw [sp_get]; exact d2) hp (by
        rw [zGive_4, if_pos rfl]
        exact nI_ne6 (by omega))
      exact ⟨t1, t2, t2, _, c1, d1, e, c3.trans d3⟩
  · have hlen := (hA.1 sh hs).len
    have hA' := hAs.queue (dy := σ 0 4) hp hs ha ha2 h6 hm
    have h6' : zQ p sh (W sh).length (nI a) (σ 0 4) σ 4 p = -6 := (zQ_other hs (by omega)).trans h6
    have n0 : ¬ nI ((W sh).length + 1) = 0 := fun z => by
      have := (nI_eq (b := 0) (by omega) (by omega)).mp z
      omega
    have fin : ∀ w, (∀ N : xM, N.1 2 = σ → ∃ τ, f_X5_passUntilPermit 4 (nI p) (put N 4 (zQ p sh (W sh).length (nI a) (σ 0 4) σ)) = some (w, put N 4 τ)) → (∀ N : xM, mR (zQ p sh (W sh).length (nI a) (σ 0 4) σ) (zQW p sh W) U (N.1 6 1) 3186 → ∃ t, f_X7_daysTo (nI p) N = some (w, sp N t) ∧ mFr (N.1 6 1) t 3186) → ∃ w, (∀ N : xM, N.1 2 = σ → ∃ τ, f_X6_daysToWaitFor (nI p) (nI sh) (nI a) N = some (w, put N 4 τ)) ∧ ∀ N : xM, mR σ W U (N.1 6 1) 0 → ∃ t1 t2 t pl, f_X7_copies 0 9 N = some (sp N t1) ∧ f_X7_asksFor 3186 (nI p) (nI sh) (nI a) (sp N t1) = some (pl, sp N t2) ∧ f_X7_daysTo (nI p) (sp N t2) = some (w, sp N t) ∧ mFr (N.1 6 1) t 3186 := by
      intro w f1 f2
      refine ⟨w, fun N hN => ?_, fun N hN => ?_⟩
      · obtain ⟨τ, g⟩ := f1 N hN
        refine ⟨τ, ?_⟩
        unfold f_X6_daysToWaitFor
        rw [hc3 N hN, if_neg hc, Option.bind_some]
        dsimp only
        rw [if_neg n0, g]
        rfl
      · obtain ⟨t1, c1, c2, c3⟩ := hm3 N hN
        obtain ⟨t2, d1, d2, d3⟩ := (m_asksFor (b := 3186) (p := p) (a := a) (M := sp N t1) (Nat.le_refl _) (by rw [sp_get]; exact c2) hA hp hs hm).2 hc
        rw [sp_sp] at d1
        rw [sp_get] at d3
        obtain ⟨t, e1, e2⟩ := f2 (sp N t2) (by rw [sp_get]; exact d2)
        rw [sp_sp] at e1
        rw [sp_get] at e2
        exact ⟨t1, t2, t, _, c1, d1, e1, (c3.trans d3).trans e2⟩
    have hcu : ∀ N : xM, _ := fun N => c_until (r := 4) (M := put N 4 (zQ p sh (W sh).length (nI a) (σ 0 4) σ)) (W := zQW p sh W) (U := U) (sq := sq) (d := d) (kp := kp) (nt := nt) (T := T) (by rw [put_get]; exact hA') hp hT2 (by omega) (by omega)
    simp only [put_get, put_put] at hcu
    rcases frst_or (U := U) (sq := sq) (q := (zQ p sh (W sh).length (nI a) (σ 0 4) σ, zQW p sh W)) h6' 300 (Nat.le_refl _) with ⟨K, -, hK⟩ | hN
    · exact fin (nI K) (fun N _ => (hcu N).1 K hK) (fun N hN => (m_until hN hA' hp hT2 (by omega) (by omega)).1 K hK)
    · exact fin (-6) (fun N _ => (hcu N).2 hN) (fun N hN' => (m_until hN' hA' hp hT2 (by omega) (by omega)).2 hN)
/-- the best so far -/
def bsN (w : Nat → Int32) : Nat → Int32 × Int32
  | 0 => (-6, -6)
  | k + 1 => if w k ≠ -6 ∧ ((bsN w k).1 = -6 ∨ w k < (bsN w k).2) then (nI k, w k) else bsN w k
theorem q_best {T : Nat} (hT : 10398 ≤ T) (hT2 : T < 2 ^ 30) (x y z : Int32) : callOK T T (f_X6_bestShed x y z) (f_X7_bestShed x y z) := by
  intro M hRel
  have hRel' := hRel
  obtain ⟨n, R, -, -, -, -, -, ⟨W, U, sq, d, kp, nt, hR, hA⟩, -⟩ := hRel'
  have hinz : f_X7_in z.toInt64 0 1 M = some (bI (!decide (z < 0) && !decide (1 < z))) := by
    rw [show (0 : Int64) = (0 : Int32).toInt64 from rfl, show (1 : Int64) = (1 : Int32).toInt64 from rfl, m_in]
  by_cases hx : rg 20 x = true
  · obtain ⟨p, hp, rfl⟩ := (rg_iff (by omega)).mp hx
    by_cases hy : (!decide (y < 1) && !decide (99 < y)) = true
    · obtain ⟨a, ha, ha2, rfl⟩ := (frm_nI (a := 1) (b := 99) (by omega) (by omega)).mp hy
      by_cases hz : (!decide (z < 0) && !decide (1 < z)) = true
      · have e4 := row00 hR.2.2.2 hp
        by_cases h6 : M.1 2 4 p = -6
        · have ew : ∀ N : xM, mR (M.1 2) W U (N.1 6 1) 0 → f_X7_waitsFor 0 (nI p) N = some (zWait (M.1 2) p 3) := fun N hN => m_waits (b := 0) (by omega) hp hN hA.1
          by_cases hw : zWait (M.1 2) p 3 = 0
          · have hm := zWait_0 hA.1 hp hw
            have one : ∀ sh, sh < 3 → _ := fun sh hs => bs_one hA hT hT2 hp hs ha ha2 h6 (hm sh hs)
            obtain ⟨w0, c0, m0⟩ := one 0 (by omega)
            obtain ⟨w1, c1, m1⟩ := one 1 (by omega)
            obtain ⟨w2, c2, m2⟩ := one 2 (by omega)
            generalize hwd : (fun k : Nat => if k = 0 then w0 else if k = 1 then w1 else w2) = w
            have cc : ∀ sh, sh < 3 → ∀ N : xM, N.1 2 = M.1 2 → ∃ τ, f_X6_daysToWaitFor (nI p) (nI sh) (nI a) N = some (w sh, put N 4 τ) := by
              intro sh hs
              subst hwd
              rcases (by omega : sh = 0 ∨ sh = 1 ∨ sh = 2) with rfl | rfl | rfl
              · exact c0
              · exact c1
              · exact c2
            have mm : ∀ sh, sh < 3 → ∀ N : xM, mR (M.1 2) W U (N.1 6 1) 0 → ∃ t1 t2 t pl, f_X7_copies 0 9 N = some (sp N t1) ∧ f_X7_asksFor 3186 (nI p) (nI sh) (nI a) (sp N t1) = some (pl, sp N t2) ∧ f_X7_daysTo (nI p) (sp N t2) = some (w sh, sp N t) ∧ mFr (N.1 6 1) t 3186 := by
              intro sh hs
              subst hwd
              rcases (by omega : sh = 0 ∨ sh = 1 ∨ sh = 2) with rfl | rfl | rfl
              · exact m0
              · exact m1
              · exact m2
            have cl := xlp_rule (body := f_X6_bestShed_l73 (nI p) (nI a) z) (Q := fun r => ∃ τ, r = (if z = 0 then (bsN w 3).1 else (bsN w 3).2, put M 4 τ)) (fun k st => ∃ τ, st = ((bsN w k).1, (bsN w k).2, nI k, put M 4 τ)) 3 4000 (by omega) (fun k st hk hP => ?_) (fun st hP => ?_) (-6, -6, 0, M) ⟨M.1 4, ?_⟩
            · obtain ⟨r, cl1, τ, rfl⟩ := cl
              have hRt : Rel T (put M 4 τ) := hRel.trial
              have r6 : (put M 4 τ).1 6 = M.1 6 := put_ne _ _ (by omega)
              generalize put M 4 τ = N at cl1 hRt r6
              have hRN : mR (M.1 2) W U (N.1 6 1) 0 := by
                rw [r6]
                exact hR
              have ml := xlp_rule (body := f_X7_bestShed_l60 (nI p) (nI a) z) (Q := fun r => ∃ t, r = (if z = 0 then (bsN w 3).1 else (bsN w 3).2, sp N t) ∧ mFr (N.1 6 1) t 3186) (fun k st => ∃ t, st = ((bsN w k).1, (bsN w k).2, nI k, sp N t) ∧ mFr (N.1 6 1) t 3186) 3 4000 (by omega) (fun k st hk hP => ?_) (fun st hP => ?_) (-6, -6, 0, N) ⟨N.1 6 1, ?_, mFr.refl _ _⟩
              · obtain ⟨r, ml1, t, rfl, ml2⟩ := ml
                refine ⟨if z = 0 then (bsN w 3).1 else (bsN w 3).2, N, sp N t, ?_, ?_, hRt.row (fun j hj => ml2 j (by omega))⟩
                · unfold f_X6_bestShed
                  simp only [c_isPerson, c_isFrom, c_hasPermit hp, c_waitsForSome hp, hx, hy, hz, h6, rg_6, hw, decide_true, Bool.not_true, Option.bind_some, ite_bI, if_true, Bool.false_eq_true, if_false]
                  exact cl1
                · have e4' : N.1 6 1 (14 + 8 * p) = M.1 2 4 p := row00 hRN.2.2.2 hp
                  have hinz' : f_X7_in z.toInt64 0 1 N = some (bI (!decide (z < 0) && !decide (1 < z))) := by
                    rw [show (0 : Int64) = (0 : Int32).toInt64 from rfl, show (1 : Int64) = (1 : Int32).toInt64 from rfl, m_in]
                  unfold f_X7_bestShed
                  simp only [m_isPerson, m_areDays, hinz', m_hasPermit hp, ew N hRN, hx, hy, hz, e4', h6, hw, decide_true, Bool.not_true, Option.bind_some, ite_bI, if_true, Bool.false_eq_true, if_false]
                  exact ml1
              · obtain ⟨t, rfl, hf⟩ := hP
                left
                obtain ⟨t1, t2, t3, pl, k1, k2, k3, k4⟩ := mm k hk (sp N t) (by
                  rw [sp_get]
                  exact hRN.agree hA.1 (fun j _ hj => hf j (by omega)))
                rw [sp_sp] at k1 k2 k3
                rw [sp_sp] at k2 k3
                rw [sp_get] at k4
                refine ⟨_, ?_, t3, rfl, hf.trans k4⟩
                unfold f_X7_bestShed_l60 f_X7_bestShed_j118_60 f_X7_bestShed_j114_60 f_X7_bestShed_j119_60 f_X7_bestShed_j133_60
                dsimp only
                rw [if_pos (lt_3 hk ▸ trivial), k1, Option.bind_some, k2, Option.bind_some]
                dsimp only
                rw [k3, Option.bind_some]
                have eb : bsN w (k + 1) = if w k ≠ -6 ∧ ((bsN w k).1 = -6 ∨ w k < (bsN w k).2) then (nI k, w k) else bsN w k := rfl
                have i1 : ¬ (1 : Int32) = 0 := by decide
                rw [eb]
                by_cases z1 : w k = -6
                · simp only [z1, if_true, aI_1, ne_eq, not_true_eq_false, false_and, if_false]
                · by_cases z2 : (bsN w k).1 = -6
                  · simp only [z1, z2, if_true, aI_1, ne_eq, not_false_eq_true, true_or, and_self, if_false, i1]
                  · by_cases z3 : w k < (bsN w k).2
                    · simp only [z1, z2, z3, if_true, aI_1, ne_eq, not_false_eq_true, or_true, and_self, if_false, i1]
                    · simp only [z1, z2, z3, if_true, aI_1, ne_eq, not_false_eq_true, or_self, and_false, if_false]
              · obtain ⟨t, rfl, hf⟩ := hP
                refine ⟨_, ?_, t, rfl, hf⟩
                unfold f_X7_bestShed_l60
                dsimp only
                rw [if_neg (show ¬ nI 3 < 3 by decide)]
                by_cases z0 : z = 0
                · rw [if_pos z0, if_pos z0]
                  rfl
                · rw [if_neg z0, if_neg z0]
                  rfl
              · rw [sp_self]
                rfl
            · obtain ⟨τ, rfl⟩ := hP
              left
              obtain ⟨τ', k1⟩ := cc k hk (put M 4 τ) (put_ne _ _ (by omega))
              rw [put_put] at k1
              refine ⟨_, ?_, τ', rfl⟩
              unfold f_X6_bestShed_l73
              dsimp only
              rw [if_pos (lt_3 hk ▸ trivial), k1, Option.bind_some]
              have eb : bsN w (k + 1) = if w k ≠ -6 ∧ ((bsN w k).1 = -6 ∨ w k < (bsN w k).2) then (nI k, w k) else bsN w k := rfl
              rw [eb]
              by_cases z1 : w k = -6
              · simp only [z1, if_true, aI_1, ne_eq, not_true_eq_false, false_and, if_false]
              · by_cases z2 : (bsN w k).1 = -6
                · simp only [z1, z2, if_true, aI_1, ne_eq, not_false_eq_true, true_or, and_self, if_false]
                · by_cases z3 : w k < (bsN w k).2
                  · simp only [z1, z2, z3, if_true, aI_1, ne_eq, not_false_eq_true, or_true, and_self, if_false]
                  · simp only [z1, z2, z3, aI_1, ne_eq, not_false_eq_true, or_self, and_false, if_false]
            · obtain ⟨τ, rfl⟩ := hP
              refine ⟨_, ?_, τ, rfl⟩
              unfold f_X6_bestShed_l73
              dsimp only
              rw [if_neg (show ¬ nI 3 < 3 by decide)]
              by_cases z0 : z = 0
              · rw [if_pos z0, if_pos z0]
                rfl
              · rw [if_neg z0, if_neg z0]
                rfl
            · rw [put_self]
              rfl
          · refine ⟨-5, M, M, ?_, ?_, hRel⟩
            · unfold f_X6_bestShed
              simp only [c_isPerson, c_isFrom, c_hasPermit hp, c_waitsForSome hp, hx, hy, hz, h6, rg_6, decide_eq_false hw, Bool.not_false, Option.bind_some, ite_bI, bI_t, if_true, Bool.false_eq_true, if_false, show ¬ ((1 : Int32) = 0) by decide]
            · unfold f_X7_bestShed
              simp only [m_isPerson, m_areDays, hinz, m_hasPermit hp, ew M hR, hx, hy, hz, e4, h6, hw, decide_true, Bool.not_true, Option.bind_some, ite_bI, if_true, Bool.false_eq_true, if_false]
        · have hr : rg 3 (M.1 2 4 p) = true := (hA.2.2.2.1.2.2.2.2.1 p hp).resolve_left h6
          refine ⟨-5, M, M, ?_, ?_, hRel⟩
          · unfold f_X6_bestShed
            simp only [c_isPerson, c_isFrom, c_hasPermit hp, hx, hy, hz, hr, Option.bind_some, ite_bI, if_true]
          · unfold f_X7_bestShed
            simp only [m_isPerson, m_areDays, hinz, m_hasPermit hp, hx, hy, hz, e4, decide_eq_false h6, Bool.not_false, Option.bind_some, ite_bI, if_true]
      · refine ⟨-2, M, M, ?_, ?_, hRel⟩
        · unfold f_X6_bestShed
          simp only [c_isPerson, c_isFrom, hx, hy, hz, Option.bind_some, ite_bI, if_true, Bool.false_eq_true, if_false]
        · unfold f_X7_bestShed
          simp only [m_isPerson, m_areDays, hinz, hx, hy, hz, Option.bind_some, ite_bI, if_true, Bool.false_eq_true, if_false]
    · refine ⟨-2, M, M, ?_, ?_, hRel⟩
      · unfold f_X6_bestShed
        simp only [c_isPerson, c_isFrom, hx, hy, Option.bind_some, ite_bI, if_true, Bool.false_eq_true, if_false]
      · unfold f_X7_bestShed
        simp only [m_isPerson, m_areDays, hx, hy, Option.bind_some, ite_bI, if_true, Bool.false_eq_true, if_false]
  · refine ⟨-1, M, M, ?_, ?_, hRel⟩
    · unfold f_X6_bestShed
      simp only [c_isPerson, hx, Option.bind_some, ite_bI, Bool.false_eq_true, if_false]
    · unfold f_X7_bestShed
      simp only [m_isPerson, hx, Option.bind_some, ite_bI, Bool.false_eq_true, if_false]
