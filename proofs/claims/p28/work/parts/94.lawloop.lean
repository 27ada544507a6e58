/-! the law's loop -/
section LAWL
variable {D T Bg Bt k : Nat} {σ τ : Nat → Nat → Int32} {X : List Int32} {x y : Int32}
theorem mod_k {k m : Nat} (hk : k < 44) (hm : m ≠ 0) (hm2 : m < 2 ^ 31) : nI k - nI k / nI m * nI m = nI (k % m) := rem_nI (by omega) hm2 hm
/-- the looks behind a call -/
theorem l_360 (hZ : sZ D T Bg Bt τ) (hk : k < 44) (hT2 : T < 2 ^ 30) (hD : D + 400 ≤ 9999) (hDT : D + 499 ≤ T) (hBg : Bg + 4000 < 2 ^ 29) (hBt : Bt < 2 ^ 29) {N : xM} {n : Nat} {h : Nat → Nat → Nat → Int32} {sl : Option (Nat → Nat → Int32)} (c : Cl N τ n h sl) : ∃ N' n' h' sl', f_L_law_j360_71 X (nI k) x y N = some (.inl (1, nI (k + 1), N')) ∧ Cl N' τ n' h' sl' := by
  have e3 : nI k - nI k / (3 : Int32) * (3 : Int32) = nI (k % 3) := mod_k (m := 3) hk (by omega) (by omega)
  unfold f_L_law_j360_71
  rw [e3]
  by_cases z : 1 < k % 3
  · rw [if_pos (show (1 : Int32) < nI (k % 3) from nI_lt (a := 1) z (by omega)), up_1]
    exact ⟨N, n, h, sl, rfl, c⟩
  · rw [if_neg (show ¬ (1 : Int32) < nI (k % 3) from nI_nlt (a := 1) (by omega) (by omega))]
    obtain ⟨a, a1, a2⟩ := l_lit (n := 2) (x >>> ((7 : Int32) &&& (31 : Int32))) (by omega) (by omega)
    obtain ⟨b, b1, b2⟩ := l_lit (n := 12) (y >>> ((5 : Int32) &&& (31 : Int32))) (by omega) (by omega)
    have a2 : ∀ M, f_L_low (x >>> ((7 : Int32) &&& (31 : Int32))) 2 M = some (nI a) := a2
    have b2 : ∀ M, f_L_low (y >>> ((5 : Int32) &&& (31 : Int32))) 12 M = some (nI b) := b2
    obtain ⟨N', n', h', e1, e2⟩ := c_sweeps hZ (sh := a) (b := b) (by omega) (by omega) hT2 hD hDT hBg hBt c
    refine ⟨N', n', h', sl, ?_, e2⟩
    rw [a2, Option.bind_some, b2, Option.bind_some, e1, Option.bind_some]
    dsimp only
    rw [if_neg (by decide), up_1]
theorem l_329 (hZ : sZ D T Bg Bt τ) (hk : k < 44) (hT2 : T < 2 ^ 30) (hD : D + 400 ≤ 9999) (hDT : D + 499 ≤ T) (hBg : Bg + 4000 < 2 ^ 29) (hBt : Bt < 2 ^ 29) {N : xM} {n : Nat} {h : Nat → Nat → Nat → Int32} {sl : Option (Nat → Nat → Int32)} (c : Cl N τ n h sl) : ∃ N' n' h' sl', f_L_law_j329_71 X (nI k) x y N = some (.inl (1, nI (k + 1), N')) ∧ Cl N' τ n' h' sl' := by
  have e4 : nI k - nI k / (4 : Int32) * (4 : Int32) = nI (k % 4) := mod_k (m := 4) hk (by omega) (by omega)
  unfold f_L_law_j329_71
  rw [e4]
  by_cases z : 0 < k % 4
  · rw [if_pos (show (0 : Int32) < nI (k % 4) from nI_lt (a := 0) z (by omega))]
    exact l_360 hZ hk hT2 hD hDT hBg hBt c
  · rw [if_neg (show ¬ (0 : Int32) < nI (k % 4) from nI_nlt (a := 0) (by omega) (by omega))]
    obtain ⟨a, a1, a2⟩ := l_lit (n := 20) (x >>> ((3 : Int32) &&& (31 : Int32))) (by omega) (by omega)
    obtain ⟨b, b1, b2⟩ := l_lit (n := 20) y (by omega) (by omega)
    have a2 : ∀ M, f_L_low (x >>> ((3 : Int32) &&& (31 : Int32))) 20 M = some (nI a) := a2
    have b2 : ∀ M, f_L_low y 20 M = some (nI b) := b2
    obtain ⟨N', n', h', e1, e2⟩ := c_asks hZ (p := a) (a := 1 + b) a1 (by omega) (by omega) hT2 (by omega) (by omega) c
    have eb : (1 : Int32) + nI b = nI (1 + b) := nI_add 1 b
    rw [a2, Option.bind_some, b2, Option.bind_some, eb, e1, Option.bind_some]
    dsimp only
    rw [if_neg (by decide)]
    exact l_360 hZ hk hT2 hD hDT hBg hBt e2
theorem l_307 (hZ : sZ D T Bg Bt τ) (hk : k < 44) (hT2 : T < 2 ^ 30) (hD : D + 400 ≤ 9999) (hDT : D + 499 ≤ T) (hBg : Bg + 4000 < 2 ^ 29) (hBt : Bt < 2 ^ 29) {N : xM} {n : Nat} {h : Nat → Nat → Nat → Int32} {sl : Option (Nat → Nat → Int32)} (c : Cl N τ n h sl) : ∃ N' n' h' sl', f_L_law_j307_71 X (nI k) x y N = some (.inl (1, nI (k + 1), N')) ∧ Cl N' τ n' h' sl' := by
  have e3 : nI k - nI k / (3 : Int32) * (3 : Int32) = nI (k % 3) := mod_k (m := 3) hk (by omega) (by omega)
  unfold f_L_law_j307_71
  rw [e3]
  by_cases z : 0 < k % 3
  · rw [if_pos (show (0 : Int32) < nI (k % 3) from nI_lt (a := 0) z (by omega))]
    exact l_329 hZ hk hT2 hD hDT hBg hBt c
  · rw [if_neg (show ¬ (0 : Int32) < nI (k % 3) from nI_nlt (a := 0) (by omega) (by omega))]
    obtain ⟨a, a1, a2⟩ := l_lit (n := 14) (y >>> ((3 : Int32) &&& (31 : Int32))) (by omega) (by omega)
    have a2 : ∀ M, f_L_low (y >>> ((3 : Int32) &&& (31 : Int32))) 14 M = some (nI a) := a2
    obtain ⟨N', n', h', sl', e1, e2⟩ := c_waits hZ (p := a) (by omega) hT2 (by omega) (by omega) c
    rw [a2, Option.bind_some, e1, Option.bind_some]
    dsimp only
    rw [if_neg (by decide)]
    exact l_329 hZ hk hT2 hD hDT hBg hBt e2
theorem sZ.hangs (hZ : sZ D T Bg Bt τ) (hT2 : T < 2 ^ 30) (hD : D + 400 ≤ 9999) (hDT : D + 499 ≤ T) (hBg : Bg + 4000 < 2 ^ 29) (hBt : Bt < 2 ^ 29) {N : xM} {n : Nat} {h : Nat → Nat → Nat → Int32} {sl : Option (Nat → Nat → Int32)} (c : Cl N τ n h sl) : ∃ N', f_L_hangs N = some (1, N') ∧ Cl N' τ n h sl := by
  obtain ⟨W, U, sq, d, kp, nt, hA, hY, hF, hd⟩ := hZ
  obtain ⟨τ', e⟩ := c_hangs (M := N) (by rw [c.now]; exact hA) (by rw [c.now]; exact hY) (by rw [c.now]; exact hF) hT2 (by omega) (by omega) (by omega) (by omega)
  exact ⟨_, e, c.put4⟩
theorem l_290 (hZ : sZ D T Bg Bt τ) (hk : k < 44) (hT2 : T < 2 ^ 30) (hD : D + 400 ≤ 9999) (hDT : D + 499 ≤ T) (hBg : Bg + 4000 < 2 ^ 29) (hBt : Bt < 2 ^ 29) {N : xM} {n : Nat} {h : Nat → Nat → Nat → Int32} {sl : Option (Nat → Nat → Int32)} (c : Cl N τ n h sl) : ∃ N' n' h' sl', f_L_law_j290_71 X 1 (nI k) x y N = some (.inl (1, nI (k + 1), N')) ∧ Cl N' τ n' h' sl' := by
  have e2 : nI k - nI k / (2 : Int32) * (2 : Int32) = nI (k % 2) := mod_k (m := 2) hk (by omega) (by omega)
  unfold f_L_law_j290_71
  rw [if_neg (by decide), e2]
  by_cases z : 0 < k % 2
  · rw [if_pos (show (0 : Int32) < nI (k % 2) from nI_lt (a := 0) z (by omega))]
    exact l_307 hZ hk hT2 hD hDT hBg hBt c
  · rw [if_neg (show ¬ (0 : Int32) < nI (k % 2) from nI_nlt (a := 0) (by omega) (by omega))]
    obtain ⟨N', e1, e2⟩ := hZ.hangs hT2 hD hDT hBg hBt c
    rw [e1, Option.bind_some]
    dsimp only
    rw [if_neg (by decide)]
    exact l_307 hZ hk hT2 hD hDT hBg hBt e2
/-- what a call answers, how long the history is, and what undo does -/
theorem l_153 {F6 : xM → Option (Int32 × xM)} {ans : Int32} {v : Int64} (hk : k < 44) (hv : ∀ M : xM, M.1 2 = σ → f_L_print M = some v) (hneg : ans < 0 → τ = σ) (hcall : ∀ M n h sl, Cl M σ n h sl → ∃ M', F6 M = some (ans, M') ∧ Cl M' τ (if ans < 0 then n else nx n) (if ans < 0 then h else psh h n σ) sl) (hF : 5 < k → F6 = f_L_act x y) {M : xM} {n : Nat} {h : Nat → Nat → Nat → Int32} {sl : Option (Nat → Nat → Int32)} (hn : n ≤ 6) (c : Cl M τ (if ans < 0 then n else nx n) (if ans < 0 then h else psh h n σ) sl) : ∃ N n' h', f_L_law_j153_71 X (nI k) x y (nI n) v ans M = f_L_law_j290_71 X 1 (nI k) x y N ∧ Cl N τ n' h' sl := by
  unfold f_L_law_j153_71
  by_cases ha : ans < 0
  · rw [if_pos ha, if_pos ha] at c
    rw [if_pos ha, c.len, Option.bind_some, if_pos rfl, hv M (c.now.trans (hneg ha)), Option.bind_some, lg_same, if_pos rfl]
    exact ⟨M, n, h, rfl, c⟩
  · rw [if_neg ha, if_neg ha] at c
    rw [if_neg ha, c.len, Option.bind_some]
    have h220 : ∃ N n' h', f_L_law_j220_71 X (nI k) x y (nI n) v ans 1 M = f_L_law_j290_71 X 1 (nI k) x y N ∧ Cl N τ n' h' sl := by
      unfold f_L_law_j220_71
      rw [if_neg (by decide)]
      by_cases h5 : 5 < k
      · rw [if_pos (show (5 : Int32) < nI k from nI_lt (a := 5) h5 (by omega))]
        obtain ⟨q, q1, q2⟩ := l_lit (n := 4) (y >>> ((4 : Int32) &&& (31 : Int32))) (by omega) (by omega)
        have q2 : ∀ M, f_L_low (y >>> ((4 : Int32) &&& (31 : Int32))) 4 M = some (nI q) := q2
        rw [q2, Option.bind_some]
        by_cases z : nI q = 0
        · rw [if_pos z]
          obtain ⟨N, e1, e2⟩ := undo_back c
          obtain ⟨N2, e3, e4⟩ := hcall N _ _ _ e2
          rw [if_neg ha, if_neg ha] at e4
          rw [hF h5] at e3
          have h258 : ∀ t : Int32, f_L_law_j258_71 X (nI k) x y v ans t t N = f_L_law_j290_71 X 1 (nI k) x y N2 := by
            intro t
            unfold f_L_law_j258_71
            rw [if_pos rfl, hv N e2.now, Option.bind_some, lg_same, if_pos rfl, e3, Option.bind_some]
            dsimp only
            rw [if_pos rfl]
            rfl
          refine ⟨N2, _, _, ?_, e4⟩
          rw [e1, Option.bind_some]
          dsimp only
          by_cases h6 : n < 6
          · have hd : drp n = 0 := if_neg (by omega)
            rw [if_pos (show nI n < 6 from nI_lt (b := 6) h6 (by omega)), hd, Nat.sub_zero]
            exact h258 _
          · have h66 : n = 6 := by omega
            subst h66
            rw [if_neg (show ¬ nI 6 < 6 by decide)]
            exact h258 _
        · rw [if_neg z]
          exact ⟨M, _, _, rfl, c⟩
      · rw [if_neg (show ¬ (5 : Int32) < nI k from nI_nlt (a := 5) (by omega) (by omega))]
        exact ⟨M, _, _, rfl, c⟩
    by_cases h6 : n < 6
    · have hd : drp n = 0 := if_neg (by omega)
      have hnx : nx n = n + 1 := by
        unfold nx
        rw [hd]
        rfl
      rw [if_pos (show nI n < 6 from nI_lt (b := 6) h6 (by omega)), hnx, up_1]
      unfold f_L_law_j212_71
      rw [if_pos rfl]
      exact h220
    · have h66 : n = 6 := by omega
      subst h66
      rw [if_neg (show ¬ nI 6 < 6 by decide)]
      unfold f_L_law_j212_71
      rw [if_pos (show nI (nx 6) = 6 from rfl)]
      exact h220
end LAWL
/-- one turn of the loop -/
theorem l_step {X : List Int32} {k : Nat} {σ : Nat → Nat → Int32} (hX : (xp_stat X 0).length < 2 ^ 31) (hk : k < 44) (hZ : sZ (6 * k) (20000 + 99 * k) (10000 + 1000 * k) (1000 + 20 * k) σ) {M : xM} {n : Nat} {h : Nat → Nat → Nat → Int32} {sl : Option (Nat → Nat → Int32)} (c : Cl M σ n h sl) : ∃ τ N n' h' sl', f_L_law_l71 X (1, nI k, M) = some (.inl (1, nI (k + 1), N)) ∧ sZ (6 * (k + 1)) (20000 + 99 * (k + 1)) (10000 + 1000 * (k + 1)) (1000 + 20 * (k + 1)) τ ∧ Cl N τ n' h' sl' := by
  obtain ⟨v, hv⟩ := hZ.print
  obtain ⟨x, hx⟩ := c_cell X (2 * k) (by omega) hX
  obtain ⟨y, hy⟩ := c_cell X (2 * k + 1) (by omega) hX
  have n6 := c.le
  have e2k : (2 : Int32) * nI k = nI (2 * k) := nI_mul 2 k
  have fin : ∀ F6 : xM → Option (Int32 × xM), ClS (6 * k) (20000 + 99 * k) (10000 + 1000 * k) (1000 + 20 * k) σ F6 → (5 < k → F6 = f_L_act x y) → f_L_law_l71 X (1, nI k, M) = (F6 M).bind (fun q => f_L_law_j153_71 X (nI k) x y (nI n) v q.1 q.2) → ∃ τ N n' h' sl', f_L_law_l71 X (1, nI k, M) = some (.inl (1, nI (k + 1), N)) ∧ sZ (6 * (k + 1)) (20000 + 99 * (k + 1)) (10000 + 1000 * (k + 1)) (1000 + 20 * (k + 1)) τ ∧ Cl N τ n' h' sl' := by
    intro F6 hS hF he
    obtain ⟨ans, τ, s1, s2, s3⟩ := hS
    obtain ⟨M', m1, m2⟩ := s3 M n h sl c
    obtain ⟨N, n', h', e1, e2⟩ := l_153 (X := X) (x := x) (y := y) hk hv s1 s3 hF n6 m2
    have s2' : sZ (6 * (k + 1)) (20000 + 99 * (k + 1)) (10000 + 1000 * (k + 1)) (1000 + 20 * (k + 1)) τ := s2.mono (by omega) (by omega) (by omega) (by omega)
    obtain ⟨N', n'', h'', sl', e3, e4⟩ := l_290 (X := X) (x := x) (y := y) (k := k) s2' hk (by omega) (by omega) (by omega) (by omega) (by omega) e2
    refine ⟨τ, N', n'', h'', sl', ?_, s2', e4⟩
    rw [he, m1, Option.bind_some]
    dsimp only
    rw [e1, e3]
  by_cases h6 : k < 6
  · obtain ⟨a, a1, a2⟩ := l_lit (n := 9) x (by omega) (by omega)
    obtain ⟨b, b1, b2⟩ := l_lit (n := 12) y (by omega) (by omega)
    have a2 : ∀ M, f_L_low x 9 M = some (nI a) := a2
    have b2 : ∀ M, f_L_low y 12 M = some (nI b) := b2
    refine fin (f_X6_ask (nI a) 0 (1 + nI b)) (ClS.of hZ (p_ask hZ (by omega) (nI a) 0 (1 + nI b)) (fun _ => rfl)) (fun z => absurd z (by omega)) ?_
    unfold f_L_law_l71
    dsimp only
    rw [if_pos (show nI k < 44 from nI_lt (b := 44) hk (by omega)), if_neg (show ¬ (1 : Int32) = 0 by decide), e2k, up_1, hx, Option.bind_some, hy, Option.bind_some, c.len, Option.bind_some, hv M c.now, Option.bind_some, if_pos (show nI k < 6 from nI_lt (b := 6) h6 (by omega)), a2, Option.bind_some, b2, Option.bind_some]
  · refine fin (f_L_act x y) (c_act hZ (by omega) (by omega) (by omega) x y) (fun _ => rfl) ?_
    unfold f_L_law_l71
    dsimp only
    rw [if_pos (show nI k < 44 from nI_lt (b := 44) hk (by omega)), if_neg (show ¬ (1 : Int32) = 0 by decide), e2k, up_1, hx, Option.bind_some, hy, Option.bind_some, c.len, Option.bind_some, hv M c.now, Option.bind_some, if_neg (show ¬ nI k < 6 from nI_nlt (b := 6) (by omega) (by omega))]
theorem l_404 {X : List Int32} {σ : Nat → Nat → Int32} {D T Bg Bt : Nat} (hZ : sZ D T Bg Bt σ) (hT2 : T < 2 ^ 30) (hD : D + 400 ≤ 9999) (hDT : D + 499 ≤ T) (hBg : Bg + 4000 < 2 ^ 29) (hBt : Bt < 2 ^ 29) {M : xM} {n : Nat} {h : Nat → Nat → Nat → Int32} {sl : Option (Nat → Nat → Int32)} (c : Cl M σ n h sl) : ∃ M', f_L_law_j404 X 1 M = some (1, M') ∧ Cl M' σ n h sl := by
  obtain ⟨N', e1, e2⟩ := hZ.hangs hT2 hD hDT hBg hBt c
  refine ⟨N', ?_, e2⟩
  unfold f_L_law_j404
  rw [if_neg (by decide), e1, Option.bind_some]
  dsimp only
  rw [if_neg (by decide), nar_1]
theorem l_loop {X : List Int32} (hX : (xp_stat X 0).length < 2 ^ 31) {σ : Nat → Nat → Int32} (hZ : sZ 0 20000 10000 1000 σ) {M : xM} {n : Nat} {h : Nat → Nat → Nat → Int32} {sl : Option (Nat → Nat → Int32)} (c : Cl M σ n h sl) : ∃ M', xlp (f_L_law_l71 X) 4000 (1, 0, M) = some (1, M') ∧ ∃ τ n' h' sl', Cl M' τ n' h' sl' := by
  have hl := xlp_rule (body := f_L_law_l71 X) (Q := fun q => ∃ M', q = ((1 : Int32), M') ∧ ∃ τ n' h' sl', Cl M' τ n' h' sl') (fun k s => ∃ σ N n' h' sl', s = ((1 : Int32), nI k, N) ∧ sZ (6 * k) (20000 + 99 * k) (10000 + 1000 * k) (1000 + 20 * k) σ ∧ Cl N σ n' h' sl') 44 4000 (by omega) (fun k s hk hP => ?_) (fun s hP => ?_) (1, 0, M) ⟨σ, M, n, h, sl, rfl, hZ, c⟩
  · obtain ⟨q, q1, M', rfl, q3⟩ := hl
    exact ⟨M', q1, q3⟩
  · obtain ⟨σ, N, n', h', sl', rfl, z, c'⟩ := hP
    obtain ⟨τ, N', n'', h'', sl'', e1, e2, e3⟩ := l_step hX hk z c'
    exact Or.inl ⟨_, e1, τ, N', n'', h'', sl'', rfl, e2, e3⟩
  · obtain ⟨σ, N, n', h', sl', rfl, z, c'⟩ := hP
    obtain ⟨M', e1, e2⟩ := l_404 (X := X) z (by omega) (by omega) (by omega) (by omega) (by omega) c'
    refine ⟨(1, M'), ?_, M', rfl, σ, n', h', sl', e2⟩
    unfold f_L_law_l71
    dsimp only
    rw [if_neg (show ¬ nI 44 < 44 by decide), e1]
    rfl
