/-! what would be: days until a permit -/
theorem Rel.row {T : Nat} {M : xM} {t : Nat → Int32} (h : Rel T M) (e : ∀ j, j < 3186 → t j = M.1 6 1 j) : Rel T (sp M t) := by
  obtain ⟨n, R, h1, h2, h3, h4, h5, h6, h7⟩ := h
  have hn := h1.1
  refine ⟨n, R, h1.congr (sp_ne _ _ (by omega)) (sp_ne _ _ (by omega)) (sp_ne _ _ (by omega)) rfl, ?_, fun k hk => ?_, fun j hj => ?_, fun k hk h0 => ?_, ?_, h7.congr (sp_ne _ _ (by omega)) (sp_ne _ _ (by omega)) (by rw [sp_ne _ _ (by omega)]) (sp_ne _ _ (by omega))⟩
  · rw [sp_ne _ _ (by omega)]
    exact h2
  · rw [sp_ne _ _ (by omega)]
    exact h3 k hk
  · have := h1.big (j := j) (by omega) (h1.2.2.2.2.2.2.2 j hj)
    rw [sp_reg _ _ (by omega), sp_get]
    exact (h4 j hj).agree (fun i a1 a2 => e i (by omega))
  · have := h1.big (j := 6 + k) (by omega) h0
    rw [sp_reg _ _ (by omega), sp_get]
    exact (h5 k hk h0).agree (fun i a1 a2 => e i (by omega))
  · rw [sp_reg _ _ (by omega), sp_get]
    exact h6.agree (fun i a1 a2 => e i (by omega))
theorem Rel.trial {T : Nat} {M : xM} {τ : Nat → Nat → Int32} (h : Rel T M) : Rel T (put M 4 τ) := h.congr rfl (fun r hr => put_ne _ _ (by omega)) (fun o _ => by rw [put_ne _ _ (by omega)]) (by rw [put_ne _ _ (by omega)]) (by rw [put_ne _ _ (by omega)]) (by rw [put_ne _ _ (by omega)]) (by rw [put_ne _ _ (by omega)]) (by rw [put_ne _ _ (by omega)])
theorem cp_put (M : xM) (a b : Nat) : xe_cp a b M = put M a (M.1 b) := by
  refine Prod.ext ?_ rfl
  funext r o j
  show (if r = a then M.1 b o j else M.1 r o j) = (if r = a then M.1 b else M.1 r) o j
  by_cases h : r = a
  · rw [if_pos h, if_pos h]
  · rw [if_neg h, if_neg h]
/-- the first day on which p has a permit, counted from now -/
def frst (U : Nat → Nat) (sq : Nat) (q : (Nat → Nat → Int32) × (Nat → List Nat)) (p K : Nat) : Prop := 1 ≤ K ∧ K ≤ 300 ∧ (zDays U sq K q).1 4 p ≠ -6 ∧ ∀ k, k < K → (zDays U sq k q).1 4 p = -6
theorem frst_or {U : Nat → Nat} {sq p : Nat} {q : (Nat → Nat → Int32) × (Nat → List Nat)} (h0 : q.1 4 p = -6) : ∀ n, n ≤ 300 → (∃ K, K ≤ n ∧ frst U sq q p K) ∨ ∀ k, k ≤ n → (zDays U sq k q).1 4 p = -6
  | 0, _ => Or.inr (fun k hk => by
    have : k = 0 := by omega
    subst this
    exact h0)
  | n + 1, hn => by
    rcases frst_or (U := U) (sq := sq) h0 n (by omega) with ⟨K, k1, k2⟩ | h
    · exact Or.inl ⟨K, by omega, k2⟩
    · by_cases e : (zDays U sq (n + 1) q).1 4 p = -6
      · right
        intro k hk
        by_cases z : k = n + 1
        · rw [z]
          exact e
        · exact h k (by omega)
      · exact Or.inl ⟨n + 1, Nat.le_refl _, by omega, hn, e, fun k hk => h k (by omega)⟩
theorem c_until {T r p sq d kp nt : Nat} {W : Nat → List Nat} {U : Nat → Nat} {M : xM} (hA : gA d T (M.1 r) W U sq d kp nt) (hp : p < 20) (hT2 : T < 2 ^ 30) (h1 : d + 300 ≤ 20000) (h2 : d + 300 + 99 ≤ T) : (∀ K, frst U sq (M.1 r, W) p K → ∃ τ, f_X5_passUntilPermit r (nI p) M = some (nI K, put M r τ)) ∧ ((∀ k, k ≤ 300 → (zDays U sq k (M.1 r, W)).1 4 p = -6) → ∃ τ, f_X5_passUntilPermit r (nI p) M = some (-6, put M r τ)) := by
  have step : ∀ k, k < 300 → f_X5_passUntilPermit_l2 r (nI p) (nI (k + 1), put M r (zDays U sq k (M.1 r, W)).1) = if (zDays U sq (k + 1) (M.1 r, W)).1 4 p = -6 then some (.inl (nI (k + 2), put M r (zDays U sq (k + 1) (M.1 r, W)).1)) else some (.inr (nI (k + 1), put M r (zDays U sq (k + 1) (M.1 r, W)).1)) := by
    intro k hk
    have hAk := gA.days (q := (M.1 r, W)) hA hT2 k (by omega) (by omega)
    have hAk1 := gA.days (q := (M.1 r, W)) hA hT2 (k + 1) (by omega) (by omega)
    have hb := c_beginDay (r := r) (M := put M r (zDays U sq k (M.1 r, W)).1) (W := (zDays U sq k (M.1 r, W)).2) (U := U) (sp := sq) (by rw [put_get]; exact hAk.1) (by rw [put_get]; exact hAk.2.2.1)
    have et : ((zDays U sq k (M.1 r, W)).1, (zDays U sq k (M.1 r, W)).2) = zDays U sq k (M.1 r, W) := rfl
    rw [put_get, put_put, et, ← zDays_s] at hb
    have hrg := rg3_perm (hAk1.2.2.2.1.2.2.2.2.1 p hp)
    unfold f_X5_passUntilPermit_l2
    dsimp only
    rw [if_neg (show ¬ (300 : Int32) < nI (k + 1) from nI_nlt (a := 300) (by omega) (by omega)), hb, Option.bind_some, c_hasPermit hp, put_get, hrg, Option.bind_some, ite_bI, aI_1]
    by_cases e : (zDays U sq (k + 1) (M.1 r, W)).1 4 p = -6
    · rw [if_pos e, decide_eq_true e]
      rfl
    · rw [if_neg e, decide_eq_false e]
      rfl
  have e0 : put M r (zDays U sq 0 (M.1 r, W)).1 = M := put_self M r
  constructor
  · rintro K ⟨k1, k2, k3, k4⟩
    refine ⟨(zDays U sq K (M.1 r, W)).1, ?_⟩
    obtain ⟨J, rfl⟩ : ∃ J, K = J + 1 := ⟨K - 1, by omega⟩
    have hl := xlp_for (body := f_X5_passUntilPermit_l2 r (nI p)) (q := (nI (J + 1), put M r (zDays U sq (J + 1) (M.1 r, W)).1)) (f := fun k => (nI (k + 1), put M r (zDays U sq k (M.1 r, W)).1)) J 4000 (by omega) (fun k hk => by rw [step k (by omega), if_pos (k4 (k + 1) (by omega))]) (by rw [step J (by omega), if_neg k3])
    rw [e0] at hl
    exact hl
  · intro h
    refine ⟨(zDays U sq 300 (M.1 r, W)).1, ?_⟩
    have hl := xlp_for (body := f_X5_passUntilPermit_l2 r (nI p)) (q := (-6, put M r (zDays U sq 300 (M.1 r, W)).1)) (f := fun k => (nI (k + 1), put M r (zDays U sq k (M.1 r, W)).1)) 300 4000 (by omega) (fun k hk => by rw [step k (by omega), if_pos (h (k + 1) (by omega))]) (by
      unfold f_X5_passUntilPermit_l2
      dsimp only
      rw [if_pos (show (300 : Int32) < nI (300 + 1) from nI_lt (a := 300) (by omega) (by omega))]
      rfl)
    rw [e0] at hl
    exact hl
theorem m_personAtT (p : Nat) (M : xM) : f_X7_personAt 3186 (nI p) M = some (nI (3186 + 14 + 8 * p)) := m_personAt 3186 p M
theorem m_until {T p sq d kp nt : Nat} {σ : Nat → Nat → Int32} {W : Nat → List Nat} {U : Nat → Nat} {M : xM} (hR : mR σ W U (M.1 6 1) 3186) (hA : gA d T σ W U sq d kp nt) (hp : p < 20) (hT2 : T < 2 ^ 30) (h1 : d + 300 ≤ 20000) (h2 : d + 300 + 99 ≤ T) : (∀ K, frst U sq (σ, W) p K → ∃ t, f_X7_daysTo (nI p) M = some (nI K, sp M t) ∧ mFr (M.1 6 1) t 3186) ∧ ((∀ k, k ≤ 300 → (zDays U sq k (σ, W)).1 4 p = -6) → ∃ t, f_X7_daysTo (nI p) M = some (-6, sp M t) ∧ mFr (M.1 6 1) t 3186) := by
  have rd : ∀ k t, mR (zDays U sq k (σ, W)).1 (zDays U sq k (σ, W)).2 U t 3186 → t (3186 + 14 + 8 * p) = (zDays U sq k (σ, W)).1 4 p := fun k t ht => ht.2.2.2 p 0 hp (by omega)
  have j41 : ∀ (k : Nat) (t : Nat → Int32) (v : Int32), mR (zDays U sq k (σ, W)).1 (zDays U sq k (σ, W)).2 U t 3186 → f_X7_daysTo_j41 (nI p) 3186 v (sp M t) = some (if (zDays U sq k (σ, W)).1 4 p = -6 then -6 else v, sp M t) := by
    intro k t v ht
    unfold f_X7_daysTo_j41
    simp (disch := omega) only [m_personAtT, Option.bind_some, in_nI, cl_nI, if_true, sp_get, rd k t ht]
    split <;> rfl
  have step : ∀ k t, k < 300 → (zDays U sq k (σ, W)).1 4 p = -6 → mR (zDays U sq k (σ, W)).1 (zDays U sq k (σ, W)).2 U t 3186 → mFr (M.1 6 1) t 3186 → ∃ t', f_X7_daysTo_l6 (nI p) 3186 (nI k, sp M t) = some (.inl (nI (k + 1), sp M t')) ∧ mR (zDays U sq (k + 1) (σ, W)).1 (zDays U sq (k + 1) (σ, W)).2 U t' 3186 ∧ mFr (M.1 6 1) t' 3186 := by
    intro k t hk h6 ht hf
    have hAk := gA.days (q := (σ, W)) hA hT2 k (by omega) (by omega)
    obtain ⟨t', t1, t2, t3⟩ := m_day (b := 3186) (sq := sq) (M := sp M t) (Nat.le_refl _) (by rw [sp_get]; exact ht) hAk.1 hAk.2.1 hAk.2.2.1 hAk.2.2.2.1
    have et : ((zDays U sq k (σ, W)).1, (zDays U sq k (σ, W)).2) = zDays U sq k (σ, W) := rfl
    rw [sp_sp] at t1
    rw [sp_get] at t3
    rw [et, ← zDays_s] at t1 t2
    have t1 : f_X7_day 3186 (sp M t) = _ := t1
    refine ⟨t', ?_, t2, hf.trans t3⟩
    unfold f_X7_daysTo_l6
    dsimp only
    rw [if_pos (lt_300 hk ▸ trivial), m_personAtT, Option.bind_some, if_pos (in_nI (by omega) (by omega)), cl_nI (by omega), sp_get, rd k t ht, if_pos h6, t1, Option.bind_some, aI_1]
  have base : ∃ t, ((0 : Int32), M) = (nI 0, sp M t) ∧ mR (zDays U sq 0 (σ, W)).1 (zDays U sq 0 (σ, W)).2 U t 3186 ∧ mFr (M.1 6 1) t 3186 := ⟨M.1 6 1, by rw [sp_self]; rfl, hR, mFr.refl _ _⟩
  constructor
  · rintro K ⟨k1, k2, k3, k4⟩
    have := xlp_rule (body := f_X7_daysTo_l6 (nI p) 3186) (Q := fun r => ∃ t, r = (nI K, sp M t) ∧ mFr (M.1 6 1) t 3186) (fun k st => ∃ t, st = (nI k, sp M t) ∧ mR (zDays U sq k (σ, W)).1 (zDays U sq k (σ, W)).2 U t 3186 ∧ mFr (M.1 6 1) t 3186) K 4000 (by omega) (fun k st hk hP => ?_) (fun st hP => ?_) (0, M) base
    · obtain ⟨q, g1, t, rfl, g3⟩ := this
      exact ⟨t, g1, g3⟩
    · obtain ⟨t, rfl, ht, hf⟩ := hP
      obtain ⟨t', a1, a2, a3⟩ := step k t (by omega) (k4 k hk) ht hf
      exact Or.inl ⟨_, a1, t', rfl, a2, a3⟩
    · obtain ⟨t, rfl, ht, hf⟩ := hP
      refine ⟨(nI K, sp M t), ?_, t, rfl, hf⟩
      unfold f_X7_daysTo_l6
      dsimp only
      by_cases h3 : K < 300
      · rw [if_pos (lt_300 h3 ▸ trivial), m_personAtT, Option.bind_some, if_pos (in_nI (by omega) (by omega)), cl_nI (by omega), sp_get, rd K t ht, if_neg k3, j41 K t _ ht, if_neg k3]
        rfl
      · rw [if_neg (show ¬ nI K < 300 from nI_nlt (b := 300) (by omega) (by omega)), j41 K t _ ht, if_neg k3]
        rfl
  · intro h
    have := xlp_rule (body := f_X7_daysTo_l6 (nI p) 3186) (Q := fun r => ∃ t, r = (-6, sp M t) ∧ mFr (M.1 6 1) t 3186) (fun k st => ∃ t, st = (nI k, sp M t) ∧ mR (zDays U sq k (σ, W)).1 (zDays U sq k (σ, W)).2 U t 3186 ∧ mFr (M.1 6 1) t 3186) 300 4000 (by omega) (fun k st hk hP => ?_) (fun st hP => ?_) (0, M) base
    · obtain ⟨q, g1, t, rfl, g3⟩ := this
      exact ⟨t, g1, g3⟩
    · obtain ⟨t, rfl, ht, hf⟩ := hP
      obtain ⟨t', a1, a2, a3⟩ := step k t (by omega) (h k (by omega)) ht hf
      exact Or.inl ⟨_, a1, t', rfl, a2, a3⟩
    · obtain ⟨t, rfl, ht, hf⟩ := hP
      refine ⟨(-6, sp M t), ?_, t, rfl, hf⟩
      unfold f_X7_daysTo_l6
      dsimp only
      rw [if_neg (show ¬ nI 300 < 300 by decide), j41 300 t _ ht, if_pos (h 300 (by omega))]
      rfl
/-- who has a permit already -/
theorem m_until0 {p : Nat} {σ : Nat → Nat → Int32} {W : Nat → List Nat} {U : Nat → Nat} {M : xM} (hR : mR σ W U (M.1 6 1) 3186) (hp : p < 20) (h : σ 4 p ≠ -6) : f_X7_daysTo (nI p) M = some (0, M) := by
  have rd : M.1 6 1 (3186 + 14 + 8 * p) = σ 4 p := hR.2.2.2 p 0 hp (by omega)
  unfold f_X7_daysTo
  refine xlp_for (body := f_X7_daysTo_l6 (nI p) 3186) (q := (0, M)) (f := fun _ => ((0 : Int32), M)) 0 4000 (by omega) (fun k hk => by omega) ?_
  unfold f_X7_daysTo_l6 f_X7_daysTo_j41
  dsimp only
  rw [if_pos (show (0 : Int32) < 300 by decide), m_personAtT, Option.bind_some, if_pos (in_nI (by omega) (by omega)), cl_nI (by omega), rd, if_neg h, Option.bind_some, if_pos (in_nI (by omega) (by omega)), cl_nI (by omega), rd, if_neg h]
  rfl
/-- the model's row of trial -/
theorem m_trial {σ : Nat → Nat → Int32} {W : Nat → List Nat} {U : Nat → Nat} {M : xM} (hR : mR σ W U (M.1 6 1) 0) (hc : cW σ W) : ∃ t, f_X7_copies 0 9 M = some (sp M t) ∧ mR σ W U t 3186 ∧ mFr (M.1 6 1) t 3186 := by
  refine ⟨cpR (M.1 6 1) 0 9 354, m_copies (a := 0) (c := 9) (by omega) (by omega) (by omega), hR.shift hc (fun i hi => ?_), fun j hj => cpR_out (by omega)⟩
  exact cpR_in (c := 9) hi
def callOK (T T' : Nat) (A B : xM → Option (Int32 × xM)) : Prop := ∀ M, Rel T M → ∃ ans M1 M2, A M = some (ans, M1) ∧ B M1 = some (ans, M2) ∧ Rel T' M2
theorem q_until {T : Nat} (hT : 10398 ≤ T) (hT2 : T < 2 ^ 30) (x : Int32) : callOK T T (f_X6_untilPermit x) (f_X7_untilPermit x) := by
  intro M hRel
  have hRel' := hRel
  obtain ⟨n, R, -, -, -, -, -, ⟨W, U, sq, d, kp, nt, hR, hA⟩, -⟩ := hRel'
  by_cases hx : rg 20 x = true
  · obtain ⟨p, hp, rfl⟩ := (rg_iff (by omega)).mp hx
    by_cases hw : zWait (M.1 2) p 3 = 0
    · have ew : f_X7_waitsFor 0 (nI p) M = some (zWait (M.1 2) p 3) := m_waits (b := 0) (by omega) hp hR hA.1
      refine ⟨-5, M, M, ?_, ?_, hRel⟩
      · unfold f_X6_untilPermit
        simp only [c_isPerson, c_waitsForSome hp, hx, hw, decide_true, Bool.not_true, Option.bind_some, ite_bI, if_true, Bool.false_eq_true, if_false]
      · unfold f_X7_untilPermit
        simp only [m_isPerson, ew, hx, hw, Option.bind_some, ite_bI, if_true]
    · have h6 : M.1 2 4 p = -6 := by
        have : ∃ sh, sh < 3 ∧ p ∈ W sh := by
          by_cases a : ∃ sh, sh < 3 ∧ p ∈ W sh
          · exact a
          · exfalso
            apply hw
            have z : ∀ k, k ≤ 3 → zWait (M.1 2) p k = 0 := by
              intro k
              induction k with
              | zero => exact fun _ => rfl
              | succ k ih =>
                intro hk
                show (if (!decide (M.1 2 (7 + k) p = -6)) = true then _ else zWait (M.1 2) p k) = 0
                rw [decide_eq_true (((hA.1 k (by omega)).out hp).mpr (fun m => a ⟨k, by omega, m⟩)), if_neg (by decide)]
                exact ih (by omega)
            exact z 3 (Nat.le_refl 3)
        obtain ⟨sh, hs, hm⟩ := this
        exact hA.2.1 sh hs p hm
      have hd := hA.2.2.2.2.1
      have hAs : gA d T (M.1 2) W U sq d kp nt := hA.self
      have hcu := c_until (r := 4) (M := put M 4 (M.1 2)) (W := W) (U := U) (sq := sq) (d := d) (kp := kp) (nt := nt) (T := T) (by rw [put_get]; exact hAs) hp hT2 (by omega) (by omega)
      rw [put_get] at hcu
      have fin : ∀ ans τ, f_X5_passUntilPermit 4 (nI p) (put M 4 (M.1 2)) = some (ans, put (put M 4 (M.1 2)) 4 τ) → (∀ M' : xM, mR (M.1 2) W U (M'.1 6 1) 3186 → ∃ t, f_X7_daysTo (nI p) M' = some (ans, sp M' t) ∧ mFr (M'.1 6 1) t 3186) → ∃ ans M1 M2, f_X6_untilPermit (nI p) M = some (ans, M1) ∧ f_X7_untilPermit (nI p) M1 = some (ans, M2) ∧ Rel T M2 := by
        intro ans τ f1 f2
        rw [put_put] at f1
        have hRt : Rel T (put M 4 τ) := hRel.trial
        have r6 : (put M 4 τ).1 6 = M.1 6 := put_ne _ _ (by omega)
        obtain ⟨t, t1, t2, t3⟩ := m_trial (M := put M 4 τ) (by rw [r6]; exact hR) hA.1
        obtain ⟨t', t4, t5⟩ := f2 (sp (put M 4 τ) t) (by rw [sp_get]; exact t2)
        rw [sp_sp] at t4
        rw [sp_get] at t5
        refine ⟨ans, put M 4 τ, sp (put M 4 τ) t', ?_, ?_, hRt.row (fun j hj => (t3.trans t5) j (by omega))⟩
        · unfold f_X6_untilPermit
          simp only [c_isPerson, c_waitsForSome hp, hx, decide_eq_false hw, Bool.not_false, Option.bind_some, ite_bI, if_true, cp_put, f1]
        · have ew : f_X7_waitsFor 0 (nI p) (put M 4 τ) = some (zWait (M.1 2) p 3) := m_waits (b := 0) (by omega) hp (by rw [r6]; exact hR) hA.1
          unfold f_X7_untilPermit
          simp only [m_isPerson, ew, hx, hw, Option.bind_some, ite_bI, if_true, if_false, t1, t4]
      rcases frst_or (U := U) (sq := sq) (q := (M.1 2, W)) h6 300 (Nat.le_refl _) with ⟨K, -, hK⟩ | hN
      · obtain ⟨τ, f1⟩ := hcu.1 K hK
        exact fin _ τ f1 (fun M' hR' => (m_until hR' hAs hp hT2 (by omega) (by omega)).1 K hK)
      · obtain ⟨τ, f1⟩ := hcu.2 hN
        exact fin _ τ f1 (fun M' hR' => (m_until hR' hAs hp hT2 (by omega) (by omega)).2 hN)
  · refine ⟨-1, M, M, ?_, ?_, hRel⟩
    · unfold f_X6_untilPermit
      simp only [c_isPerson, hx, Option.bind_some, ite_bI, Bool.false_eq_true, if_false]
    · unfold f_X7_untilPermit
      simp only [m_isPerson, hx, Option.bind_some, ite_bI, Bool.false_eq_true, if_false]
