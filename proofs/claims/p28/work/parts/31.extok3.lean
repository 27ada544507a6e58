/-! a new state -/
def yq (X : List Int32) (i pc : Nat) (ls : xl x1) (st : List (xv x1)) (h : xh) (r : Option (xv x1) × xh) : Prop := ∃ n, xp_exec X n i pc ls st h = some r
theorem yq_step {X : List Int32} {i pc pc' : Nat} {ls ls' : xl x1} {st st' : List (xv x1)} {h h' : xh} {r : Option (xv x1) × xh} (hs : xm_step xp_nul xp_rcv (xp_prim X) i pc ls st h = some (.inl ((pc', ls', st'), h'))) (hq : yq X i pc' ls' st' h' r) : yq X i pc ls st h r := by
  obtain ⟨n, hn⟩ := hq
  refine ⟨n + 1, ?_⟩
  unfold xp_exec xm_exec
  rw [hs]
  exact hn
theorem yq_ret {X : List Int32} {i pc : Nat} {ls : xl x1} {st : List (xv x1)} {h : xh} {v : Option (xv x1)} (hs : xm_step xp_nul xp_rcv (xp_prim X) i pc ls st h = some (.inr (.inr v))) : yq X i pc ls st h (v, h) := by
  refine ⟨1, ?_⟩
  unfold xp_exec xm_exec
  rw [hs]
theorem yq_call {X : List Int32} {i pc j pc' : Nat} {ls ls' : xl x1} {as st st' : List (xv x1)} {h : xh} {q r : Option (xv x1) × xh} (hs : xm_step xp_nul xp_rcv (xp_prim X) i pc ls st h = some (.inr (.inl (j, (as, (pc', (ls', st'))))))) (hc : yq X j 0 (xm_args 0 as) [] h q) (hq : yq X i pc' ls' (xm_push q.1 st') q.2 r) : yq X i pc ls st h r := by
  obtain ⟨n1, h1⟩ := hc
  obtain ⟨n2, h2⟩ := hq
  refine ⟨max n1 n2 + 1, ?_⟩
  unfold xp_exec xm_exec
  rw [hs]
  have e1 := xm_more2 h1 (max n1 n2) (Nat.le_max_left _ _)
  have e2 := xm_more2 h2 (max n1 n2) (Nat.le_max_right _ _)
  simp only [xm_via]
  rw [e1]
  exact e2
theorem xz_id : ∀ r : x1, xz 0 r = r := by
  rintro (_ | j | a)
  · rfl
  · rfl
  · show some (Sum.inr (0 + a)) = _
    rw [Nat.zero_add]
theorem xs_run_ok {n i ci : Nat} {chk : xh → Bool} (hr : xs_run n i ci chk = true) (X : List Int32) (h : xh) : ∃ H, chk H = true ∧ yq X i 0 [(0, .inr (.inr (some (.inr h.length))))] [] (h ++ [xp_new ci]) (none, h ++ H.map (xz_c h.length)) := by
  unfold xs_run at hr
  split at hr
  · next H he =>
    refine ⟨H, hr, n, ?_⟩
    have := (xz_sim (X := X) (h := h) n i 0 [(0, .inr (.inr (some (.inr 0))))] [] [xp_new ci] none H he (fun c hc => by rw [List.mem_singleton.mp hc]; exact xz_newo ci) (fun q hq => by rw [List.mem_singleton.mp hq]; exact xz_rr 0) (fun q hq => by cases hq)).1
    rw [List.map_cons, List.map_nil, xz_new] at this
    exact this
  · cases hr
theorem xs_cell_at (r : Nat) : ∀ o, o < 25 → xz_c (xd_rb r) (xd_cell (fun _ => xs_m0) (xd_so o) 5 o) = xd_cell (fun _ => xs_m0) (xd_so o) r o
  | 0, _ => rfl
  | 1, _ => rfl
  | 2, _ => rfl
  | 3, _ => rfl
  | 4, _ => rfl
  | 5, _ => rfl
  | 6, _ => rfl
  | 7, _ => rfl
  | 8, _ => rfl
  | 9, _ => rfl
  | 10, _ => rfl
  | 11, _ => rfl
  | 12, _ => rfl
  | 13, _ => rfl
  | 14, _ => rfl
  | 15, _ => rfl
  | 16, _ => rfl
  | 17, _ => rfl
  | 18, _ => rfl
  | 19, _ => rfl
  | 20, _ => rfl
  | 21, _ => rfl
  | 22, _ => rfl
  | 23, _ => rfl
  | 24, _ => rfl
  | n + 25, h => absurd h (by omega)
def xs_M1 (M : xM) : xM := (fun r o j => if r = M.2 then xs_m0 o j else M.1 r o j, M.2 + 1)
theorem xs_new_R {M : xM} {h H : xh} (hR : xd_R M h) (hn : M.2 < 100000) (hH : xs_cS H = true) : xd_R (xs_M1 M) (h ++ H.map (xz_c h.length)) := by
  obtain ⟨a1, a2, a3, a4, a5, a6⟩ := hR
  unfold xs_cS at hH
  simp only [Bool.and_eq_true, beq_iff_eq] at hH
  obtain ⟨hl, hH⟩ := hH
  have hb : xd_rb M.2 = h.length := by
    rw [a3]
    unfold xd_rb
    rw [if_neg (by omega), if_neg (by omega), if_neg (by omega), if_neg (by omega), if_neg (by omega)]
  have e5 : ∀ o j, (xs_M1 M).1 5 o j = M.1 5 o j := fun o j => if_neg (by omega)
  have hcode : ∀ w, xd_code M.2 w → xd_code (M.2 + 1) w := by
    rintro w (rfl | ⟨q, rfl, hq⟩)
    · exact Or.inl rfl
    · exact Or.inr ⟨q, rfl, xd_st_mono (by omega) hq⟩
  refine ⟨show 7 ≤ M.2 + 1 by omega, show M.2 + 1 ≤ 100000 by omega, ?_, fun r o k hk => ?_, fun j hj => ?_, fun j hj => ?_⟩
  · rw [List.length_append, List.length_map, hl, a3]
    show _ = 82 + 25 * (M.2 + 1 - 7)
    omega
  · have hk : xd_k (M.2 + 1) r o k := hk
    by_cases hr : r = M.2
    · subst hr
      have hs : xd_so o = k ∧ o < 25 := by
        rcases hk with ⟨-, z1, z2⟩ | ⟨z, -⟩ | ⟨z, -⟩
        · exact ⟨z1, z2⟩
        · omega
        · omega
      obtain ⟨rfl, ho⟩ := hs
      rw [hb, xz_get, xs_deq_ok (List.all_eq_true.mp hH o (List.mem_range.mpr ho)), Option.map_some, ← hb, xs_cell_at M.2 o ho]
      congr 1
      have e : ∀ j, xs_m0 o j = (xs_M1 M).1 M.2 o j := fun j => (if_pos rfl).symm
      exact xd_cell_congr (by have := xd_so_v o; have := xd_so_lt o ho; omega) (fun _ _ _ j _ => e j) (fun f _ _ => e f) (fun _ j _ => e j) (fun _ j _ => e j)
    · have hk2 : xd_k M.2 r o k := by
        rcases hk with ⟨z, z1⟩ | z
        · refine Or.inl ⟨?_, z1⟩
          unfold xd_st at z ⊢
          omega
        · exact Or.inr z
      have hg := a4 r o k hk2
      rw [List.getElem?_append_left (List.getElem?_eq_some_iff.mp hg).1, hg]
      congr 1
      have e : ∀ j, M.1 r o j = (xs_M1 M).1 r o j := fun j => (if_neg hr).symm
      exact xd_cell_congr (xd_k17 hk) (fun _ _ _ j _ => e j) (fun f _ _ => e f) (fun _ j _ => e j) (fun _ j _ => e j)
  · rw [e5]
    exact hcode _ (a5 j hj)
  · rw [e5]
    exact hcode _ (a6 j hj)
theorem xe28_tail {X : List Int32} {A B : Nat} {z : xv x1} {h h3 : xh} (hrcv : xp_rcv 5 [.inr (.inr (some (.inr A))), .inr (.inr (some (.inr B)))] h = true) (e3 : yq X 27 0 [(0, .inr (.inr (some (.inr A)))), (1, .inr (.inr (some (.inr B))))] [] h (none, h3)) : yq X 28 16 [(2, .inr (.inr (some (.inr A)))), (0, z), (1, .inr (.inr (some (.inr B))))] [] h (some (.inr (.inr (some (.inr A)))), h3) := by
  refine yq_step (pc' := 17) (ls' := [(2, .inr (.inr (some (.inr A)))), (0, z), (1, .inr (.inr (some (.inr B))))]) (st' := [.inr (.inr (some (.inr A)))]) (h' := h) rfl ?_
  refine yq_step (pc' := 18) (ls' := [(2, .inr (.inr (some (.inr A)))), (0, z), (1, .inr (.inr (some (.inr B))))]) (st' := [.inr (.inr (some (.inr B))), .inr (.inr (some (.inr A)))]) (h' := h) rfl ?_
  refine yq_call (j := 27) (as := [.inr (.inr (some (.inr A))), .inr (.inr (some (.inr B)))]) (pc' := 21) (ls' := [(2, .inr (.inr (some (.inr A)))), (0, z), (1, .inr (.inr (some (.inr B))))]) (st' := []) (q := (none, h3)) ?_ e3 ?_
  · unfold xm_step
    rw [show xt_ops 28 18 = some (.invokevirtual 40, 3) from rfl]
    simp only
    rw [show xm_core xp_nul (xt_R 28) (xt_L 28) 18 [(2, .inr (.inr (some (.inr A)))), (0, z), (1, .inr (.inr (some (.inr B))))] [.inr (.inr (some (.inr B))), .inr (.inr (some (.inr A)))] (.invokevirtual 40) = none from rfl]
    rw [show (xm_inv (.invokevirtual 40)).bind (fun ix => xt_call (xt_K 28) ix) = some (27, 2, 2) from rfl]
    simp only
    exact if_pos ⟨(by show 2 ≤ 2; omega), (by show 0 ≤ 8; omega), (by show 2 ≤ 2; omega), Or.inr hrcv⟩
  · refine yq_step (pc' := 22) (ls' := [(2, .inr (.inr (some (.inr A)))), (0, z), (1, .inr (.inr (some (.inr B))))]) (st' := [.inr (.inr (some (.inr A)))]) (h' := h3) rfl ?_
    exact yq_ret rfl
theorem xe_rcv {M : xM} {h : xh} {r : Nat} {as : List (xv x1)} (hR : xd_R M h) (hs : xd_st M.2 r) : xp_rcv 5 (.inr (.inr (some (.inr (xd_rb r + 0)))) :: as) h = true := by
  have hc := hR.2.2.2.1 r 0 0 (Or.inl ⟨hs, rfl, by omega⟩)
  unfold xp_rcv
  simp only [hc]
  rfl
theorem xd_ext28 {X : List Int32} {as : List (xv x2)} {M M' : xM} {v : Option (xv x2)} {h : xh} (hf : xe28 as M = some (v, M')) (hR : xd_R M h) : xn_ps (xd_wf M.2) as → xd_ran X 28 0 (xm_args 0 as) [] M h v M' := by
  unfold xe28 at hf
  split at hf
  · next r1 r2 =>
    intro hw
    obtain ⟨w1, w2⟩ := xn_pcons.mp hw
    have w1 : xd_wf M.2 (20, r1, 0) := w1
    have h2 : xd_st M.2 r2 := xd_wf_st (xn_pcons.mp w2).1 (Or.inl rfl)
    have k2 : xd_k M.2 r2 0 0 := Or.inl ⟨h2, rfl, by omega⟩
    by_cases h0 : r1 = 0
    · subst h0
      unfold xe_ci at hf
      rw [if_pos rfl] at hf
      by_cases hM : M.2 < 100000
      · rw [if_pos hM] at hf
        cases hf
        obtain ⟨H, hH, hrun⟩ := xs_run_ok xs_runS X h
        have hR1 := xs_new_R hR hM hH
        have s1 : xd_st (xs_M1 M).2 M.2 := Or.inr ⟨hR.1, Nat.lt_succ_self _⟩
        have s2 : xd_st (xs_M1 M).2 r2 := xd_st_mono (Nat.le_succ _) h2
        obtain ⟨n3, h3, e3, e4⟩ := xe27_ran (X := X) hR1 s1 s2
        have hb : h.length = xd_rb M.2 + 0 := by
          have a1 := hR.1
          rw [hR.2.2.1]
          unfold xd_rb
          rw [if_neg (by omega), if_neg (by omega), if_neg (by omega), if_neg (by omega), if_neg (by omega)]
          rfl
        have hcp : xe_cp M.2 r2 (xs_M1 M) = (fun r o j => if r = M.2 then M.1 r2 o j else M.1 r o j, M.2 + 1) := by
          refine Prod.ext ?_ rfl
          funext r o j
          show (if r = M.2 then (if r2 = M.2 then xs_m0 o j else M.1 r2 o j) else (if r = M.2 then xs_m0 o j else M.1 r o j)) = if r = M.2 then M.1 r2 o j else M.1 r o j
          have hne : r2 ≠ M.2 := by
            have a1 := hR.1
            unfold xd_st at h2
            omega
          by_cases hr : r = M.2
          · rw [if_pos hr, if_neg hne, if_pos hr]
          · rw [if_neg hr, if_neg hr, if_neg hr]
        rw [hcp] at e4
        have hnew : xm_step xp_nul xp_rcv (xp_prim X) 28 8 [(0, .inr (.inr none)), (1, .inr (.inr (some (.inr (xd_rb r2 + 0)))))] [.inr (.inr (some (.inr h.length))), .inr (.inr (some (.inr h.length)))] (h ++ [xp_new 5]) = some (.inr (.inl (25, ([.inr (.inr (some (.inr h.length)))], (11, ([(0, .inr (.inr none)), (1, .inr (.inr (some (.inr (xd_rb r2 + 0)))))], [.inr (.inr (some (.inr h.length)))])))))) := by
          unfold xm_step
          rw [show xt_ops 28 8 = some (.invokespecial 11, 3) from rfl]
          simp only
          rw [show xm_core xp_nul (xt_R 28) (xt_L 28) 8 [(0, .inr (.inr none)), (1, .inr (.inr (some (.inr (xd_rb r2 + 0)))))] [.inr (.inr (some (.inr h.length))), .inr (.inr (some (.inr h.length)))] (.invokespecial 11) = none from rfl]
          rw [show (xm_inv (.invokespecial 11)).bind (fun ix => xt_call (xt_K 28) ix) = some (25, 1, 5) from rfl]
          simp only
          refine if_pos ⟨(by show 1 ≤ 2; omega), (by show 1 ≤ 8; omega), (by show 1 ≤ 1; omega), Or.inr ?_⟩
          show xp_rcv 5 [.inr (.inr (some (.inr h.length)))] (h ++ [xp_new 5]) = true
          unfold xp_rcv
          simp only [List.getElem?_concat_length]
          rfl
        have hgo : yq X 28 0 [(0, .inr (.inr none)), (1, .inr (.inr (some (.inr (xd_rb r2 + 0)))))] [] h (some (.inr (.inr (some (.inr h.length)))), h3) := by
          refine yq_step (pc' := 1) (ls' := [(0, .inr (.inr none)), (1, .inr (.inr (some (.inr (xd_rb r2 + 0)))))]) (st' := [.inr (.inr none)]) (h' := h) rfl ?_
          refine yq_step (pc' := 4) (ls' := [(0, .inr (.inr none)), (1, .inr (.inr (some (.inr (xd_rb r2 + 0)))))]) (st' := []) (h' := h) rfl ?_
          refine yq_step (pc' := 7) (ls' := [(0, .inr (.inr none)), (1, .inr (.inr (some (.inr (xd_rb r2 + 0)))))]) (st' := [.inr (.inr (some (.inr h.length)))]) (h' := h ++ [xp_new 5]) rfl ?_
          refine yq_step (pc' := 8) (ls' := [(0, .inr (.inr none)), (1, .inr (.inr (some (.inr (xd_rb r2 + 0)))))]) (st' := [.inr (.inr (some (.inr h.length))), .inr (.inr (some (.inr h.length)))]) (h' := h ++ [xp_new 5]) rfl ?_
          refine yq_call (j := 25) (as := [.inr (.inr (some (.inr h.length)))]) (pc' := 11) (ls' := [(0, .inr (.inr none)), (1, .inr (.inr (some (.inr (xd_rb r2 + 0)))))]) (st' := [.inr (.inr (some (.inr h.length)))]) hnew hrun ?_
          refine yq_step (pc' := 15) (ls' := [(0, .inr (.inr none)), (1, .inr (.inr (some (.inr (xd_rb r2 + 0)))))]) (st' := [.inr (.inr (some (.inr h.length)))]) (h' := h ++ H.map (xz_c h.length)) rfl ?_
          refine yq_step (pc' := 16) (ls' := [(2, .inr (.inr (some (.inr h.length)))), (0, .inr (.inr none)), (1, .inr (.inr (some (.inr (xd_rb r2 + 0)))))]) (st' := []) (h' := h ++ H.map (xz_c h.length)) rfl ?_
          rw [hb]
          rw [hb] at hR1 e3
          exact xe28_tail (xe_rcv hR1 s1) ⟨n3, e3⟩
        obtain ⟨n, hn⟩ := hgo
        refine ⟨n, h3, ?_, e4, fun w hw => ?_, Nat.le_succ _⟩
        · show xp_exec X n 28 0 [(0, .inr (.inr (xd_ad (20, 0, 0)))), (1, .inr (.inr (xd_ad (0, r2, 0))))] [] h = some (some (.inr (.inr (xd_ad (0, M.2, 0)))), h3)
          rw [xd_ad_k 0 k2, xd_ad_st 0 s1, ← hb]
          exact hn
        · cases hw
          exact Or.inr (Or.inl (Or.inl ⟨s1, rfl, by show 0 < 25; omega⟩))
      · rw [if_neg hM] at hf
        cases hf
    · unfold xe_ci at hf
      rw [if_neg h0] at hf
      cases hf
      have h1 : xd_st M.2 r1 := xd_wf_st w1 (Or.inr ⟨rfl, h0⟩)
      obtain ⟨n3, h3, e3, e4⟩ := xe27_ran (X := X) hR h1 h2
      have hgo : yq X 28 0 [(0, .inr (.inr (some (.inr (xd_rb r1 + 0))))), (1, .inr (.inr (some (.inr (xd_rb r2 + 0)))))] [] h (some (.inr (.inr (some (.inr (xd_rb r1 + 0))))), h3) := by
        refine yq_step (pc' := 1) (ls' := [(0, .inr (.inr (some (.inr (xd_rb r1 + 0))))), (1, .inr (.inr (some (.inr (xd_rb r2 + 0)))))]) (st' := [.inr (.inr (some (.inr (xd_rb r1 + 0))))]) (h' := h) rfl ?_
        refine yq_step (pc' := 14) (ls' := [(0, .inr (.inr (some (.inr (xd_rb r1 + 0))))), (1, .inr (.inr (some (.inr (xd_rb r2 + 0)))))]) (st' := []) (h' := h) rfl ?_
        refine yq_step (pc' := 15) (ls' := [(0, .inr (.inr (some (.inr (xd_rb r1 + 0))))), (1, .inr (.inr (some (.inr (xd_rb r2 + 0)))))]) (st' := [.inr (.inr (some (.inr (xd_rb r1 + 0))))]) (h' := h) rfl ?_
        refine yq_step (pc' := 16) (ls' := [(2, .inr (.inr (some (.inr (xd_rb r1 + 0))))), (0, .inr (.inr (some (.inr (xd_rb r1 + 0))))), (1, .inr (.inr (some (.inr (xd_rb r2 + 0)))))]) (st' := []) (h' := h) rfl ?_
        exact xe28_tail (xe_rcv hR h1) ⟨n3, e3⟩
      obtain ⟨n, hn⟩ := hgo
      refine ⟨n, h3, ?_, e4, fun w hw => ?_, Nat.le_refl _⟩
      · show xp_exec X n 28 0 [(0, .inr (.inr (xd_ad (20, r1, 0)))), (1, .inr (.inr (xd_ad (0, r2, 0))))] [] h = some (some (.inr (.inr (xd_ad (0, r1, 0)))), h3)
        rw [xd_ad_st 20 h1, xd_ad_k 0 k2, xd_ad_st 0 h1]
        exact hn
      · cases hw
        exact Or.inr (Or.inl (Or.inl ⟨h1, rfl, by show 0 < 25; omega⟩))
  · cases hf
theorem xd_extx (X : List Int32) : xd_extok X xe := by
  intro j f hj as M v M' h hf hR hw
  unfold xe at hj
  split at hj
  · next e =>
    subst e
    cases hj
    exact xd_ext27 hf hR hw
  · split at hj
    · next e =>
      subst e
      cases hj
      exact xd_ext28 hf hR hw
    · cases hj
