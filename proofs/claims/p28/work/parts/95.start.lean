/-! the start; settings and racks set before the loop -/
theorem start_rows : ∀ j, j < 20 → xs_m0 4 j = -6 ∧ xs_m0 5 j = -6 ∧ xs_m0 7 j = -6 ∧ xs_m0 8 j = -6 ∧ xs_m0 9 j = -6 ∧ xs_m0 19 j = -6 ∧ xs_m0 20 j = -6 ∧ xs_m0 21 j = -6 ∧ xs_m0 22 j = -6 ∧ xs_m0 23 j = -6 ∧ xs_m0 24 j = 0 := by decide +kernel
theorem start_set : xs_m0 1 0 = 1 ∧ xs_m0 1 1 = 10 ∧ xs_m0 1 2 = 5 ∧ xs_m0 1 3 = 20 ∧ xs_m0 0 4 = 0 ∧ xs_m0 18 6 = 0 ∧ xs_m0 3 5 = 0 ∧ xs_m0 2 0 = 255 ∧ xs_m0 2 1 = 255 ∧ xs_m0 2 2 = 255 := by decide +kernel
theorem start_cnt : cnt (fun p => !decide (xs_m0 4 p = -6)) 20 = 0 ∧ cnt (fun p => !decide (xs_m0 23 p = -6)) 20 = 0 ∧ sumN (fun _ => 0) 20 = 0 := by decide +kernel
theorem start_gA : gA 0 20000 xs_m0 (fun _ => []) (fun _ => 255) 1 0 20 5 := by
  obtain ⟨z1, z2, z3, z4, z5, z6, z7, z8, z9, z10⟩ := start_set
  refine ⟨fun sh hs => ⟨List.nodup_nil, fun q hq => absurd hq List.not_mem_nil, fun q hq => Or.inl ⟨List.not_mem_nil, ?_⟩⟩, fun sh hs q hq => absurd hq List.not_mem_nil, ⟨z1, by omega, fun sh hs => ⟨show 255 < 256 by omega, ?_⟩⟩, ⟨z5, by omega, z4, by omega, fun p hp => Or.inl (start_rows p hp).1, fun p hp => Or.inl (start_rows p hp).2.2.2.2.2.2.2.2.2.1⟩, by omega, ⟨fun p hp => Or.inl ⟨(start_rows p hp).2.2.2.2.2.1, (start_rows p hp).2.2.2.2.2.2.1, (start_rows p hp).2.2.2.2.2.2.2.1, (start_rows p hp).2.2.2.2.2.2.2.2.1⟩, fun p q hp hq hn h19 => absurd (start_rows p hp).2.2.2.2.2.1 h19⟩, ⟨fun p hp hr => ?_, fun sh hs q hq => absurd hq List.not_mem_nil⟩, fun k hk => ?_, z3, by omega, by omega⟩
  · obtain ⟨a4, a5, a7, a8, a9, -⟩ := start_rows q hq
    rcases (by omega : sh = 0 ∨ sh = 1 ∨ sh = 2) with rfl | rfl | rfl
    · exact a7
    · exact a8
    · exact a9
  · rcases (by omega : sh = 0 ∨ sh = 1 ∨ sh = 2) with rfl | rfl | rfl
    · exact z8
    · exact z9
    · exact z10
  · rw [(start_rows p hp).1, rg_6] at hr
    cases hr
  · rcases (by omega : k = 0 ∨ k = 1 ∨ k = 2 ∨ k = 3) with rfl | rfl | rfl | rfl
    · exact ⟨1, by omega, z1⟩
    · exact ⟨10, by omega, z2⟩
    · exact ⟨5, by omega, z3⟩
    · exact ⟨20, by omega, z4⟩
theorem start_cY : cY 0 0 xs_m0 (fun _ => []) 0 := by
  obtain ⟨z1, z2, z3, z4, z5, z6, z7, z8, z9, z10⟩ := start_set
  obtain ⟨y1, y2, y3⟩ := start_cnt
  refine ⟨fun sh hs => ⟨fun q hq => absurd hq List.not_mem_nil, List.Pairwise.nil⟩, fun p hp h19 => absurd (start_rows p hp).2.2.2.2.2.1 h19, fun p hp _ => (start_rows p hp).2.1, ⟨0, z7, by rw [y1]; omega, by omega⟩, ⟨0, fun _ => 0, z6, fun p hp => (start_rows p hp).2.2.2.2.2.2.2.2.2.2, by rw [y2, y3]; omega, by omega⟩⟩
theorem start_cF : cF xs_m0 (fun _ => []) (fun _ => 255) 1 := fun sh hs h => absurd rfl h
theorem start_now : xs_M0.1 2 = xs_m0 := by
  funext o j
  rfl
theorem start_Cl : Cl xs_M0 xs_m0 0 (fun _ => xs_m0) none := ⟨fun _ => 0, ⟨by omega, rfl, fun j _ => rfl, fun k _ => rfl, rfl, fun j _ => Or.inl rfl, fun i j _ _ _ h => absurd rfl h, fun j hj => by omega⟩, start_now, fun j hj => by omega, fun s hs => by cases hs⟩
theorem u7_ok : ∀ k, k < 6 → (256 - 2 ^ k).testBit k = true ∧ pcnt ((256 - 2 ^ k) ^^^ 2 ^ k) = 7 - k ∧ (256 - 2 ^ k) ^^^ 2 ^ k = 256 - 2 ^ (k + 1) := by decide +kernel
theorem l_33 {X : List Int32} (hX : (xp_stat X 0).length < 2 ^ 31) {σ : Nat → Nat → Int32} {W : Nat → List Nat} {U : Nat → Nat} {sq kp nt : Nat} (hA : gA 0 20000 σ W U sq 0 kp nt) (hY : cY 1000 0 σ W 0) (hF : cF σ W U sq) (hU : U 0 = 255) {M : xM} {n : Nat} {h : Nat → Nat → Nat → Int32} {sl : Option (Nat → Nat → Int32)} (c : Cl M σ n h sl) : ∃ M', xlp (f_L_law_l33 X) 4000 (1, 0, M) = some (1, M') ∧ ∃ τ n' h' sl', Cl M' τ n' h' sl' := by
  have hl := xlp_rule (body := f_L_law_l33 X) (Q := fun q => ∃ M', q = ((1 : Int32), M') ∧ ∃ τ n' h' sl', Cl M' τ n' h' sl') (fun k s => ∃ σ N n' h' W U, s = ((1 : Int32), nI k, N) ∧ Cl N σ n' h' sl ∧ gA 0 20000 σ W U sq 0 kp nt ∧ cY (1000 + 39 * k) 0 σ W 0 ∧ cF σ W U sq ∧ U 0 = 256 - 2 ^ k) 6 4000 (by omega) (fun k s hk hP => ?_) (fun s hP => ?_) (1, 0, M) ⟨σ, M, n, h, W, U, rfl, c, hA, hY, hF, hU⟩
  · obtain ⟨q, q1, M', rfl, q3⟩ := hl
    exact ⟨M', q1, q3⟩
  · obtain ⟨σ, N, n', h', W, U, rfl, c', hA, hY, hF, hU⟩ := hP
    obtain ⟨b1, b2, b3⟩ := u7_ok k hk
    obtain ⟨τ, W', e1, e2, e3, e4⟩ := use_ok (sh := 0) (k := k) (is := false) hA hY (by omega) (by omega) (by omega) (by rw [hU, b1]; decide)
    rw [hU, b2] at e1
    obtain ⟨N', r1, r2⟩ := call_yes (C := fun r => f_X5_changeUse r (nI 0) (nI k) (bI false)) (F6 := f_X6_use (nI 0) (nI k) (bI false)) (fun _ => rfl) c' (nI_pos (by omega)) e1
    have r1 : f_X6_use 0 (nI k) 0 N = some (nI (7 - k), N') := r1
    have e7 : (7 : Int32) - nI k = nI (7 - k) := sub_nI (a := 7) (b := k) (by omega)
    left
    refine ⟨_, ?_, τ, N', _, _, W', uX U 0 k, rfl, r2, e2, e3, e4, ?_⟩
    · unfold f_L_law_l33
      dsimp only
      rw [if_pos (show nI k < 6 from nI_lt (b := 6) hk (by omega)), if_neg (show ¬ (1 : Int32) = 0 by decide), r1, Option.bind_some]
      dsimp only
      rw [e7, if_pos rfl, up_1]
    · show (if 0 = 0 then U 0 ^^^ 2 ^ k else _) = _
      rw [if_pos rfl, hU, b3]
  · obtain ⟨σ, N, n', h', W, U, rfl, c', hA, hY, hF, hU⟩ := hP
    obtain ⟨M', r1, r2⟩ := l_loop hX (sZ.make (D := 0) (T' := 20000) (Bg' := 10000) (Bt' := 1000) hA hY hF (by omega) (by omega) (by omega) (by omega)) c'
    refine ⟨(1, M'), ?_, M', rfl, r2⟩
    unfold f_L_law_l33
    dsimp only
    rw [if_neg (show ¬ nI 6 < 6 by decide), r1]
    rfl
theorem law_ok {X : List Int32} (hX : (xp_stat X 0).length < 2 ^ 31) : ∃ M', f_L_law X xs_M0 = some (1, M') ∧ ∃ τ n' h' sl', Cl M' τ n' h' sl' := by
  obtain ⟨τ1, e1⟩ := c_hangs (M := xs_M0) (by rw [start_now]; exact start_gA) (by rw [start_now]; exact start_cY) (by rw [start_now]; exact start_cF) (by omega) (by omega) (by omega) (by omega) (by omega)
  have c1 : Cl (put xs_M0 4 τ1) xs_m0 0 (fun _ => xs_m0) none := start_Cl.put4
  obtain ⟨τ, W', sq', kp', nt', s1, s2, s3, s4, s5⟩ := set_ok (k := 0) (v := 0) start_gA start_cY (by omega) (by omega) (Nat.le_refl 0) (by decide)
  rw [start_set.1] at s1
  obtain ⟨N, r1, r2⟩ := call_yes (C := fun r => f_X5_changeSetting r (nI 0) (nI 0)) (F6 := f_X6_set (nI 0) (nI 0)) (fun _ => rfl) c1 (show ¬ (1 : Int32) < 0 by decide) s1
  have r1 : f_X6_set 0 0 (put xs_M0 4 τ1) = some (1, N) := r1
  obtain ⟨M', q1, q2⟩ := l_33 (X := X) hX s2 (s3.mono (by omega) (Nat.le_refl _)) s4 rfl r2
  refine ⟨M', ?_, q2⟩
  unfold f_L_law
  rw [e1, Option.bind_some]
  dsimp only
  rw [if_neg (by decide), r1, Option.bind_some]
  dsimp only
  rw [if_pos rfl]
  unfold f_L_law_j30
  exact q1
