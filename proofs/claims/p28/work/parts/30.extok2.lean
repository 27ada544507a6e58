/-! the copied state stands in tier 1's memory -/
theorem xd_R_cp {M N : xM} {h : xh} {r1 r2 : Nat} (hR : xd_R N h) (hc : xy_c r1 r2 M N xy_fin) (h1 : xd_st M.2 r1) : xd_R (xe_cp r1 r2 M) h := by
  obtain ⟨a1, a2, a3, a4, a5, a6⟩ := hR
  have hn := hc.1
  rw [hn] at a1 a2 a3 a4 a5 a6
  have h5 : ¬ (5 = r1) := by unfold xd_st at h1; omega
  have e5 : ∀ o j, (xe_cp r1 r2 M).1 5 o j = N.1 5 o j := by
    intro o j
    rw [hc.2, if_neg (fun z => h5 z.1)]
    show (if 5 = r1 then _ else _) = _
    rw [if_neg h5]
  refine ⟨a1, a2, a3, fun r o k hk => ?_, fun j hj => ?_, fun j hj => ?_⟩
  · rw [a4 r o k hk]
    congr 1
    by_cases hr : r = r1
    · subst hr
      have hs : xd_so o = k ∧ o < 25 := by
        rcases hk with ⟨-, z1, z2⟩ | ⟨z, -⟩ | ⟨z, -⟩
        · exact ⟨z1, z2⟩
        · exact absurd z.symm h5
        · exfalso
          unfold xd_st at h1
          omega
      obtain ⟨rfl, ho⟩ := hs
      have hck := xy_chk_ok o ho
      unfold xy_chk at hck
      rw [Bool.and_eq_true] at hck
      have hcp : ∀ j, xy_fin o j = true → N.1 r o j = (xe_cp r r2 M).1 r o j := by
        intro j hj
        rw [hc.2, if_pos ⟨rfl, hj⟩]
        show _ = (if r = r then _ else _)
        rw [if_pos rfl]
      have h17 := xd_k17 hk
      have hv := xd_so_v o
      have hl := xd_so_lt o ho
      refine xd_cell_congr h17 (fun t n ha j hj => hcp j ?_) (fun f hf hff => hcp f ?_) (fun e => by omega) (fun e => by omega)
      · have := hck.1
        rw [ha] at this
        exact List.all_eq_true.mp this j (List.mem_range.mpr hj)
      · have := List.all_eq_true.mp hck.2 f (List.mem_range.mpr hf)
        rw [hff] at this
        exact this
    · have e : ∀ j, N.1 r o j = (xe_cp r1 r2 M).1 r o j := by
        intro j
        rw [hc.2, if_neg (fun z => hr z.1)]
        show _ = (if r = r1 then _ else _)
        rw [if_neg hr]
      exact xd_cell_congr (xd_k17 hk) (fun _ _ _ j _ => e j) (fun f _ _ => e f) (fun _ j _ => e j) (fun _ j _ => e j)
  · show xd_code M.2 _
    rw [e5]
    exact a5 j hj
  · show xd_code M.2 _
    rw [e5]
    exact a6 j hj
theorem xd_ext0 (X : List Int32) : xd_extok X xe0 := fun j f h => by cases h
theorem xe27_ran {X : List Int32} {M : xM} {h : xh} {r1 r2 : Nat} (hR : xd_R M h) (h1 : xd_st M.2 r1) (h2 : xd_st M.2 r2) : ∃ n h', xp_exec X n 27 0 [(0, .inr (.inr (some (.inr (xd_rb r1 + 0))))), (1, .inr (.inr (some (.inr (xd_rb r2 + 0)))))] [] h = some (none, h') ∧ xd_R (xe_cp r1 r2 M) h' := by
  obtain ⟨N, e1, e2⟩ := xy_copy r1 r2 M
  obtain ⟨n, hn⟩ := f_X5_copyFrom_ok (X := X) e1
  have k1 : xd_k M.2 r1 0 0 := Or.inl ⟨h1, rfl, by omega⟩
  have k2 : xd_k M.2 r2 0 0 := Or.inl ⟨h2, rfl, by omega⟩
  obtain ⟨n', h', e3, e4, -, -⟩ := xd_sim (xd_ext0 X) n 27 0 _ _ M h _ _ hn hR (fun q hq => by
    rcases List.mem_cons.mp hq with rfl | hq
    · exact Or.inr (Or.inl k1)
    · rcases List.mem_cons.mp hq with rfl | hq
      · exact Or.inr (Or.inl k2)
      · cases hq) (fun q hq => by cases hq)
  refine ⟨n', h', ?_, xd_R_cp e4 e2 h1⟩
  refine Eq.trans ?_ e3
  show xp_exec X n' 27 0 _ _ h = xp_exec X n' 27 0 [(0, .inr (.inr (xd_ad (0, r1, 0)))), (1, .inr (.inr (xd_ad (0, r2, 0))))] [] h
  rw [xd_ad_k 0 k1, xd_ad_k 0 k2]
theorem xd_wf_st {n r k : Nat} (h : xd_wf n (k, r, 0)) (hk : k = 0 ∨ (k = 20 ∧ r ≠ 0)) : xd_st n r := by
  rcases h with ⟨h1, h2, h3⟩ | h | ⟨h1, h2⟩
  · simp only at h1 h3
    rcases h3 with h3 | h3
    · exfalso
      omega
    · exact h3
  · simp only at h
    have := xd_k17 h
    have hk0 : k = 0 := by omega
    subst hk0
    exact (xd_kS h (by omega)).1
  · simp only at h2
    omega
theorem xd_ad_st {n r : Nat} (k : Nat) (h : xd_st n r) : xd_ad (k, r, 0) = some (.inr (xd_rb r + 0)) := by
  have : xd_k n r 0 0 := Or.inl ⟨h, rfl, by omega⟩
  exact xd_ad_k k this
def xe1 : xd_ext := fun j => if j = 27 then some xe27 else none
theorem xd_ext27 {X : List Int32} {as : List (xv x2)} {M M' : xM} {v : Option (xv x2)} {h : xh} (hf : xe27 as M = some (v, M')) (hR : xd_R M h) : xn_ps (xd_wf M.2) as → xd_ran X 27 0 (xm_args 0 as) [] M h v M' := by
  have go : ∀ r1 r2 k, xd_st M.2 r1 → xd_st M.2 r2 → xd_ran X 27 0 (xm_args 0 [.inr (.inr (0, (r1, 0))), .inr (.inr (k, (r2, 0)))]) [] M h none (xe_cp r1 r2 M) := by
    intro r1 r2 k h1 h2
    obtain ⟨n, h', e1, e2⟩ := xe27_ran (X := X) hR h1 h2
    refine ⟨n, h', ?_, e2, fun w hw => (by cases hw), Nat.le_refl _⟩
    show xp_exec X n 27 0 [(0, .inr (.inr (xd_ad (0, r1, 0)))), (1, .inr (.inr (xd_ad (k, r2, 0))))] [] h = _
    rw [xd_ad_st 0 h1, xd_ad_st k h2]
    exact e1
  unfold xe27 at hf
  split at hf
  · cases hf
    intro hw
    obtain ⟨w1, w2⟩ := xn_pcons.mp hw
    exact go _ _ _ (xd_wf_st w1 (Or.inl rfl)) (xd_wf_st (xn_pcons.mp w2).1 (Or.inl rfl))
  · split at hf
    · next hne =>
      cases hf
      intro hw
      obtain ⟨w1, w2⟩ := xn_pcons.mp hw
      exact go _ _ _ (xd_wf_st w1 (Or.inl rfl)) (xd_wf_st (xn_pcons.mp w2).1 (Or.inr ⟨rfl, by simpa using hne⟩))
    · cases hf
  · cases hf
theorem xd_ext1 (X : List Int32) : xd_extok X xe1 := by
  intro j f hj as M v M' h hf hR hw
  unfold xe1 at hj
  split at hj
  · next e =>
    subst e
    cases hj
    exact xd_ext27 hf hR hw
  · cases hj
