/-! until a permit; the best shed -/
theorem wait_in {σ : Nat → Nat → Int32} {W : Nat → List Nat} {p : Nat} (hc : cW σ W) (hp : p < 20) (hw : zWait σ p 3 ≠ 0) : ∃ sh, sh < 3 ∧ p ∈ W sh := by
  by_cases a : ∃ sh, sh < 3 ∧ p ∈ W sh
  · exact a
  · exfalso
    apply hw
    have z : ∀ k, k ≤ 3 → zWait σ p k = 0 := by
      intro k
      induction k with
      | zero => exact fun _ => rfl
      | succ k ih =>
        intro hk
        show (if (!decide (σ (7 + k) p = -6)) = true then _ else zWait σ p k) = 0
        rw [decide_eq_true (((hc k (by omega)).out hp).mpr (fun m => a ⟨k, by omega, m⟩)), if_neg (by decide)]
        exact ih (by omega)
    exact z 3 (Nat.le_refl 3)
theorem in_wait {σ : Nat → Nat → Int32} {W : Nat → List Nat} {p sh : Nat} (hc : cW σ W) (hp : p < 20) (hs : sh < 3) (hm : p ∈ W sh) : zWait σ p 3 ≠ 0 := fun e => zWait_0 hc hp e sh hs hm
/-- who has a permit waits for none -/
theorem perm_no {σ : Nat → Nat → Int32} {W : Nat → List Nat} {p : Nat} (hc : cW σ W) (hn : cN σ W) (hp : p < 20) (h4 : σ 4 p ≠ -6) : zWait σ p 3 = 0 := by
  by_cases hw : zWait σ p 3 = 0
  · exact hw
  · obtain ⟨sh, hs, hm⟩ := wait_in hc hp hw
    exact absurd (hn sh hs p hm) h4
theorem u_val {T p sq d kp nt : Nat} {σ : Nat → Nat → Int32} {W : Nat → List Nat} {U : Nat → Nat} (hA : gA d T σ W U sq d kp nt) (hp : p < 20) (hT2 : T < 2 ^ 30) (h1 : d + 300 ≤ 20000) (h2 : d + 300 + 99 ≤ T) (h6 : σ 4 p = -6) : ∃ u, (u = -6 ∨ ∃ K, frst U sq (σ, W) p K ∧ u = nI K) ∧ ∀ r M, M.1 r = σ → ∃ τ, f_X5_passUntilPermit r (nI p) M = some (u, put M r τ) := by
  rcases frst_or (U := U) (sq := sq) (q := (σ, W)) h6 300 (Nat.le_refl _) with ⟨K, -, hK⟩ | hN
  · refine ⟨nI K, Or.inr ⟨K, hK, rfl⟩, fun r M hM => ?_⟩
    subst hM
    exact (c_until hA hp hT2 h1 h2).1 K hK
  · refine ⟨-6, Or.inl rfl, fun r M hM => ?_⟩
    subst hM
    exact (c_until hA hp hT2 h1 h2).2 hN
theorem c_untilNo {p : Nat} {M : xM} (hp : p < 20) (hw : zWait (M.1 2) p 3 = 0) : f_X6_untilPermit (nI p) M = some (-5, M) := by
  unfold f_X6_untilPermit
  simp only [c_isPerson, c_waitsForSome hp, rg_nI hp (show 20 < 2 ^ 31 by omega), hw, decide_true, Bool.not_true, Option.bind_some, ite_bI, if_true, Bool.false_eq_true, if_false]
theorem c_untilYes {p : Nat} {u : Int32} {M : xM} (hp : p < 20) (hw : zWait (M.1 2) p 3 ≠ 0) (hu : ∀ r N, N.1 r = M.1 2 → ∃ τ, f_X5_passUntilPermit r (nI p) N = some (u, put N r τ)) : ∃ τ, f_X6_untilPermit (nI p) M = some (u, put M 4 τ) := by
  obtain ⟨τ, h⟩ := hu 4 (put M 4 (M.1 2)) (put_get _ _ _)
  rw [put_put] at h
  refine ⟨τ, ?_⟩
  unfold f_X6_untilPermit
  simp only [c_isPerson, c_waitsForSome hp, rg_nI hp (show 20 < 2 ^ 31 by omega), decide_eq_false hw, Bool.not_false, Option.bind_some, ite_bI, if_true, cp_put, h]
/-- how many days somebody would wait who asked for a shed now -/
theorem dw_ok {T Bg Bt p k a sq d kp nt : Nat} {σ : Nat → Nat → Int32} {W : Nat → List Nat} {U : Nat → Nat} (hA : gA d T σ W U sq d kp nt) (hY : cY Bg Bt σ W d) (hF : cF σ W U sq) (hT2 : T < 2 ^ 30) (h1 : d + 300 ≤ 20000) (h2 : d + 300 + 99 ≤ T) (hp : p < 20) (hk : k < 3) (ha : 1 ≤ a) (ha2 : a ≤ 99) (h6 : σ 4 p = -6) (hm : p ∉ W k) :
    ∃ ans τ W' dw, ¬ ans < 0 ∧ (∀ r M, M.1 r = σ → f_X5_askFor r (nI p) (nI k) (nI a) M = some (ans, put M r τ)) ∧ gA d T τ W' U sq d kp nt ∧ cY (Bg + 1) Bt τ W' d ∧ cF τ W' U sq ∧ τ 0 4 = σ 0 4 ∧ (dw = -6 ∨ ∃ K, K ≤ 300 ∧ dw = nI K) ∧ ((ans = 0 ∧ dw = 0 ∧ τ 4 p = nI k ∧ τ 5 p = (σ 0 4 + nI a) - 1) ∨ (0 < ans ∧ zWait τ p 3 ≠ 0 ∧ ∀ r M, M.1 r = τ → ∃ τ', f_X5_passUntilPermit r (nI p) M = some (dw, put M r τ'))) := by
  obtain ⟨ans, τ, W', a1, a2, a3, a4, a5, a6, a7⟩ := ask_ok hA hY hF (by omega) hp hk ha ha2 h6 hm
  rcases a7 with ⟨b1, b2, b3⟩ | ⟨b1, b2⟩
  · exact ⟨ans, τ, W', 0, a1, a2, a3, a4, a5, a6, Or.inr ⟨0, by omega, rfl⟩, Or.inl ⟨b1, rfl, b2, b3⟩⟩
  · obtain ⟨u, u1, u2⟩ := u_val a3 hp hT2 h1 h2 (a3.2.1 k hk p b2)
    refine ⟨ans, τ, W', u, a1, a2, a3, a4, a5, a6, ?_, Or.inr ⟨b1, in_wait a3.1 hp hk b2, u2⟩⟩
    rcases u1 with z | ⟨K, z1, z2⟩
    · exact Or.inl z
    · exact Or.inr ⟨K, z1.2.1, z2⟩
theorem pos_ne {x : Int32} (h : 0 < x) : ¬ x = 0 := fun e => by
  rw [e] at h
  exact absurd h (by decide)
theorem c_daysTo {p k a : Nat} {ans dw : Int32} {σ τ : Nat → Nat → Int32} (h1 : ∀ r M, M.1 r = σ → f_X5_askFor r (nI p) (nI k) (nI a) M = some (ans, put M r τ)) (h2 : (ans = 0 ∧ dw = 0) ∨ (0 < ans ∧ ∀ r M, M.1 r = τ → ∃ τ', f_X5_passUntilPermit r (nI p) M = some (dw, put M r τ'))) (M : xM) (hM : M.1 2 = σ) : ∃ τ', f_X6_daysToWaitFor (nI p) (nI k) (nI a) M = some (dw, put M 4 τ') := by
  have e1 := h1 4 (put M 4 (M.1 2)) ((put_get _ _ _).trans hM)
  rw [put_put] at e1
  unfold f_X6_daysToWaitFor
  rw [cp_put, e1, Option.bind_some]
  rcases h2 with ⟨z1, z2⟩ | ⟨z1, z2⟩
  · exact ⟨τ, by rw [if_pos z1, z2]⟩
  · obtain ⟨τ', e2⟩ := z2 4 (put M 4 τ) (put_get _ _ _)
    rw [put_put] at e2
    refine ⟨τ', ?_⟩
    rw [if_neg (pos_ne z1)]
    dsimp only
    rw [e2]
    rfl
theorem c_best {p a f : Nat} {σ : Nat → Nat → Int32} {w : Nat → Int32} (hp : p < 20) (ha : 1 ≤ a) (ha2 : a ≤ 99) (hf : f < 2) (h6 : σ 4 p = -6) (hw : zWait σ p 3 = 0) (hd : ∀ k, k < 3 → ∀ M : xM, M.1 2 = σ → ∃ τ, f_X6_daysToWaitFor (nI p) (nI k) (nI a) M = some (w k, put M 4 τ)) (M : xM) (hM : M.1 2 = σ) : ∃ τ, f_X6_bestShed (nI p) (nI a) (nI f) M = some (if f = 0 then (bsN w 3).1 else (bsN w 3).2, put M 4 τ) := by
  subst hM
  have hl := xlp_rule (body := f_X6_bestShed_l73 (nI p) (nI a) (nI f)) (Q := fun q => ∃ τ, q = (if f = 0 then (bsN w 3).1 else (bsN w 3).2, put M 4 τ)) (fun k s => ∃ τ, s = ((bsN w k).1, (bsN w k).2, nI k, put M 4 τ)) 3 4000 (by omega) (fun k s hk hP => ?_) (fun s hP => ?_) (-6, -6, 0, M) ⟨M.1 4, by rw [put_self]; rfl⟩
  · obtain ⟨q, q1, τ, rfl⟩ := hl
    refine ⟨τ, ?_⟩
    unfold f_X6_bestShed
    have hfm : (!decide (nI f < 0) && !decide ((1 : Int32) < nI f)) = true := frm_in (a := 0) (b := 1) (by omega) (by omega) (by omega)
    simp only [c_isPerson, rg_nI hp (show 20 < 2 ^ 31 by omega), c_isFrom, frm_1_99 ha ha2, hfm, c_hasPermit hp, h6, rg_6, c_waitsForSome hp, hw, decide_true, Bool.not_true, Option.bind_some, ite_bI, if_true, Bool.false_eq_true, if_false, q1]
  · obtain ⟨τ, rfl⟩ := hP
    obtain ⟨τ', e⟩ := hd k hk (put M 4 τ) (put_ne _ _ (by omega))
    rw [put_put] at e
    left
    unfold f_X6_bestShed_l73
    dsimp only
    rw [if_pos (show nI k < 3 from nI_lt (b := 3) hk (by omega)), e, Option.bind_some]
    dsimp only
    have hs : bsN w (k + 1) = if w k ≠ -6 ∧ ((bsN w k).1 = -6 ∨ w k < (bsN w k).2) then (nI k, w k) else bsN w k := rfl
    rw [hs, up_1]
    by_cases c1 : w k = -6
    · rw [if_pos c1, if_neg (fun z => z.1 c1)]
      exact ⟨_, rfl, τ', rfl⟩
    · rw [if_neg c1]
      by_cases c2 : (bsN w k).1 = -6
      · rw [if_pos c2, if_pos ⟨c1, Or.inl c2⟩]
        exact ⟨_, rfl, τ', rfl⟩
      · rw [if_neg c2]
        by_cases c3 : w k < (bsN w k).2
        · rw [if_pos c3, if_pos ⟨c1, Or.inr c3⟩]
          exact ⟨_, rfl, τ', rfl⟩
        · rw [if_neg c3, if_neg (fun z => z.2.elim c2 c3)]
          exact ⟨_, rfl, τ', rfl⟩
  · obtain ⟨τ, rfl⟩ := hP
    unfold f_X6_bestShed_l73
    dsimp only
    rw [if_neg (show ¬ nI 3 < 3 by decide)]
    rcases (by omega : f = 0 ∨ f = 1) with rfl | rfl
    · rw [if_pos (show nI 0 = 0 from rfl)]
      exact ⟨_, rfl, τ, by rw [if_pos rfl]⟩
    · rw [if_neg (show ¬ nI 1 = 0 by decide)]
      exact ⟨_, rfl, τ, by rw [if_neg (by omega)]⟩
theorem c_bestNo {p a f : Nat} {M : xM} (hp : p < 20) (ha : 1 ≤ a) (ha2 : a ≤ 99) (hf : f < 2) (h : rg 3 (M.1 2 4 p) = true ∨ zWait (M.1 2) p 3 ≠ 0) : f_X6_bestShed (nI p) (nI a) (nI f) M = some (-5, M) := by
  unfold f_X6_bestShed
  have hfm : (!decide (nI f < 0) && !decide ((1 : Int32) < nI f)) = true := frm_in (a := 0) (b := 1) (by omega) (by omega) (by omega)
  simp only [c_isPerson, rg_nI hp (show 20 < 2 ^ 31 by omega), c_isFrom, frm_1_99 ha ha2, hfm, c_hasPermit hp, c_waitsForSome hp, Option.bind_some, ite_bI, if_true]
  by_cases h4 : rg 3 (M.1 2 4 p) = true
  · rw [if_pos h4]
  · rw [if_neg h4, decide_eq_false (h.resolve_left h4), if_pos (by decide)]
/-- what the best of three is -/
theorem bs_ok {w : Nat → Int32} (hw : ∀ k, k < 3 → w k = -6 ∨ ∃ K, K ≤ 300 ∧ w k = nI K) : ((bsN w 3).1 = -6 ∧ (bsN w 3).2 = -6) ∨ ∃ s K, s < 3 ∧ K ≤ 300 ∧ bsN w 3 = (nI s, nI K) ∧ w s = nI K ∧ (∀ k, k < s → w k = -6 ∨ nI K < w k) ∧ ∀ k, k < 3 → s < k → w k = -6 ∨ ¬ w k < nI K := by
  have go : ∀ n, n ≤ 3 → ((bsN w n).1 = -6 ∧ (bsN w n).2 = -6 ∧ ∀ k, k < n → w k = -6) ∨ ∃ s K, s < n ∧ K ≤ 300 ∧ bsN w n = (nI s, nI K) ∧ w s = nI K ∧ (∀ k, k < s → w k = -6 ∨ nI K < w k) ∧ ∀ k, k < n → s < k → w k = -6 ∨ ¬ w k < nI K := by
    intro n
    induction n with
    | zero => exact fun _ => Or.inl ⟨rfl, rfl, fun k hk => absurd hk (by omega)⟩
    | succ n ih =>
      intro hn
      have hs : bsN w (n + 1) = if w n ≠ -6 ∧ ((bsN w n).1 = -6 ∨ w n < (bsN w n).2) then (nI n, w n) else bsN w n := rfl
      rw [hs]
      rcases hw n (by omega) with c1 | ⟨J, j1, j2⟩
      · rw [if_neg (fun z => z.1 c1)]
        rcases ih (by omega) with ⟨a1, a2, a3⟩ | ⟨s, K, s1, s2, s3, s4, s5, s6⟩
        · refine Or.inl ⟨a1, a2, fun k hk => ?_⟩
          by_cases e : k = n
          · rw [e]
            exact c1
          · exact a3 k (by omega)
        · refine Or.inr ⟨s, K, by omega, s2, s3, s4, s5, fun k hk hsk => ?_⟩
          by_cases e : k = n
          · rw [e]
            exact Or.inl c1
          · exact s6 k (by omega) hsk
      · have c1 : w n ≠ -6 := by
          rw [j2]
          exact nI_ne6 (by omega)
        rcases ih (by omega) with ⟨a1, a2, a3⟩ | ⟨s, K, s1, s2, s3, s4, s5, s6⟩
        · rw [if_pos ⟨c1, Or.inl a1⟩]
          refine Or.inr ⟨n, J, by omega, j1, by rw [j2], j2, fun k hk => Or.inl (a3 k hk), fun k hk hsk => absurd hk (by omega)⟩
        · have hb1 : (bsN w n).1 ≠ -6 := by
            rw [s3]
            exact nI_ne6 (by omega)
          by_cases c3 : w n < (bsN w n).2
          · rw [if_pos ⟨c1, Or.inr c3⟩]
            rw [s3] at c3
            have c3 : w n < nI K := c3
            rw [j2] at c3
            refine Or.inr ⟨n, J, by omega, j1, by rw [j2], j2, fun k hk => ?_, fun k hk hsk => absurd hk (by omega)⟩
            by_cases e : k = s
            · rw [e, s4]
              exact Or.inr c3
            · by_cases e2 : k < s
              · rcases s5 k e2 with z | z
                · exact Or.inl z
                · exact Or.inr (Int32.lt_trans c3 z)
              · rcases s6 k hk (by omega) with z | z
                · exact Or.inl z
                · exact Or.inr (Int32.lt_of_lt_of_le c3 (Int32.not_lt.mp z))
          · rw [if_neg (fun z => z.2.elim hb1 c3)]
            refine Or.inr ⟨s, K, by omega, s2, s3, s4, s5, fun k hk hsk => ?_⟩
            by_cases e : k = n
            · rw [e]
              rw [s3] at c3
              exact Or.inr c3
            · exact s6 k (by omega) hsk
  rcases go 3 (Nat.le_refl 3) with ⟨a1, a2, -⟩ | h
  · exact Or.inl ⟨a1, a2⟩
  · exact Or.inr h
/-- all three at once -/
theorem dw3 {T Bg Bt p a sq d kp nt : Nat} {σ : Nat → Nat → Int32} {W : Nat → List Nat} {U : Nat → Nat} (hA : gA d T σ W U sq d kp nt) (hY : cY Bg Bt σ W d) (hF : cF σ W U sq) (hT2 : T < 2 ^ 30) (h1 : d + 300 ≤ 20000) (h2 : d + 300 + 99 ≤ T) (hp : p < 20) (ha : 1 ≤ a) (ha2 : a ≤ 99) (h6 : σ 4 p = -6) (hw : zWait σ p 3 = 0) :
    ∃ w : Nat → Int32, (∀ k, k < 3 → w k = -6 ∨ ∃ K, K ≤ 300 ∧ w k = nI K) ∧ ∀ k, k < 3 → ∃ ans τ W', ¬ ans < 0 ∧ (∀ r M, M.1 r = σ → f_X5_askFor r (nI p) (nI k) (nI a) M = some (ans, put M r τ)) ∧ gA d T τ W' U sq d kp nt ∧ cY (Bg + 1) Bt τ W' d ∧ cF τ W' U sq ∧ τ 0 4 = σ 0 4 ∧ ((ans = 0 ∧ w k = 0 ∧ τ 4 p = nI k ∧ τ 5 p = (σ 0 4 + nI a) - 1) ∨ (0 < ans ∧ zWait τ p 3 ≠ 0 ∧ ∀ r M, M.1 r = τ → ∃ τ', f_X5_passUntilPermit r (nI p) M = some (w k, put M r τ'))) := by
  have hn := zWait_0 hA.1 hp hw
  obtain ⟨a0, t0, W0, w0, x0, y0, z0, u0, v0, s0, r0, q0⟩ := dw_ok (k := 0) hA hY hF hT2 h1 h2 hp (by omega) ha ha2 h6 (hn 0 (by omega))
  obtain ⟨a1, t1, W1, w1, x1, y1, z1, u1, v1, s1, r1, q1⟩ := dw_ok (k := 1) hA hY hF hT2 h1 h2 hp (by omega) ha ha2 h6 (hn 1 (by omega))
  obtain ⟨a2, t2, W2, w2, x2, y2, z2, u2, v2, s2, r2, q2⟩ := dw_ok (k := 2) hA hY hF hT2 h1 h2 hp (by omega) ha ha2 h6 (hn 2 (by omega))
  refine ⟨fun k => if k = 0 then w0 else if k = 1 then w1 else w2, fun k hk => ?_, fun k hk => ?_⟩
  · rcases (by omega : k = 0 ∨ k = 1 ∨ k = 2) with rfl | rfl | rfl
    · exact r0
    · exact r1
    · exact r2
  · rcases (by omega : k = 0 ∨ k = 1 ∨ k = 2) with rfl | rfl | rfl
    · exact ⟨a0, t0, W0, x0, y0, z0, u0, v0, s0, q0⟩
    · exact ⟨a1, t1, W1, x1, y1, z1, u1, v1, s1, q1⟩
    · exact ⟨a2, t2, W2, x2, y2, z2, u2, v2, s2, q2⟩
theorem dw_days {p a : Nat} {σ : Nat → Nat → Int32} {w : Nat → Int32} (h : ∀ k, k < 3 → ∃ ans τ, (∀ r M, M.1 r = σ → f_X5_askFor r (nI p) (nI k) (nI a) M = some (ans, put M r τ)) ∧ ((ans = 0 ∧ w k = 0) ∨ (0 < ans ∧ ∀ r M, M.1 r = τ → ∃ τ', f_X5_passUntilPermit r (nI p) M = some (w k, put M r τ')))) : ∀ k, k < 3 → ∀ M : xM, M.1 2 = σ → ∃ τ, f_X6_daysToWaitFor (nI p) (nI k) (nI a) M = some (w k, put M 4 τ) := by
  intro k hk M hM
  obtain ⟨ans, τ, h1, h2⟩ := h k hk
  exact c_daysTo h1 h2 M hM
