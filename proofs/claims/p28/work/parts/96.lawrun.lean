/-! the law's start -/
theorem xs_R0 {H1 : xh} (h1 : xs_cB H1 = true) : xd_R xs_M0 H1 := by
  unfold xs_cB at h1
  simp only [Bool.and_eq_true, beq_iff_eq] at h1
  obtain ⟨l1, c1, c2⟩ := h1
  refine ⟨Nat.le_refl 7, by show 7 ≤ 100000; omega, ?_, fun r o k hk => ?_, fun j _ => Or.inl rfl, fun j _ => Or.inl rfl⟩
  · rw [l1]
    rfl
  · have hk : xd_k 7 r o k := hk
    rcases hk with ⟨hs, rfl, ho⟩ | ⟨rfl, rfl, ho⟩ | ⟨-, -, ho⟩
    · have c := List.all_eq_true.mp c1 o (List.mem_range.mpr ho)
      simp only [Bool.and_eq_true] at c
      have hr : r = 2 ∨ r = 3 ∨ r = 4 := by
        unfold xd_st at hs
        omega
      rcases hr with rfl | rfl | rfl
      · rw [show xd_rb 2 + o = 1 + o from rfl]
        exact xs_deq_ok c.1
      · rw [show xd_rb 3 + o = 26 + o from rfl]
        exact xs_deq_ok c.2.1
      · rw [show xd_rb 4 + o = 51 + o from rfl]
        exact xs_deq_ok c.2.2
    · have hm : o ∈ ([0, 76, 77, 78, 79, 80, 81] : List Nat) := by
        simp only [List.mem_cons, List.not_mem_nil, or_false]
        omega
      rw [show xd_rb 5 + o = 0 + o from rfl, Nat.zero_add]
      exact xs_deq_ok (List.all_eq_true.mp c2 o hm)
    · exact absurd ho (by omega)
/-- a call of a constructor right behind new -/
theorem yq_new {X : List Int32} {pc ix ix2 ci j : Nat} {ls : xl x1} {h H : xh} {r : Option (xv x1) × xh} {kind : Nat}
    (o1 : xt_ops 0 pc = some (.new ix, 3)) (n1 : xt_new 9 ix = some ci) (o2 : xt_ops 0 (pc + 3) = some (.dup, 1)) (o3 : xt_ops 0 (pc + 3 + 1) = some (.invokespecial ix2, 3)) (n2 : xt_call 9 ix2 = some (j, 1, kind)) (hk : xt_K j = ci) (hL : 1 ≤ xt_L j) (hc : xp_rcv ci [.inr (.inr (some (.inr h.length)))] (h ++ [xp_new ci]) = true)
    (hrun : yq X j 0 [(0, .inr (.inr (some (.inr h.length))))] [] (h ++ [xp_new ci]) (none, H)) (hq : yq X 0 (pc + 3 + 1 + 3) ls [.inr (.inr (some (.inr h.length)))] H r) : yq X 0 pc ls [] h r := by
  refine yq_step (pc' := pc + 3) (ls' := ls) (st' := [.inr (.inr (some (.inr h.length)))]) (h' := h ++ [xp_new ci]) ?_ ?_
  · unfold xm_step
    rw [o1]
    simp only
    rw [show xm_core xp_nul (xt_R 0) (xt_L 0) pc ls [] (.new ix) = none from rfl]
    simp only
    rw [show (xm_inv (.new ix)).bind (fun ix => xt_call (xt_K 0) ix) = none from rfl]
    simp only [xp_prim]
    rw [show xt_K 0 = 9 from rfl, n1]
  refine yq_step (pc' := pc + 3 + 1) (ls' := ls) (st' := [.inr (.inr (some (.inr h.length))), .inr (.inr (some (.inr h.length)))]) (h' := h ++ [xp_new ci]) ?_ ?_
  · unfold xm_step
    rw [o2]
    rfl
  refine yq_call (j := j) (as := [.inr (.inr (some (.inr h.length)))]) (pc' := pc + 3 + 1 + 3) (ls' := ls) (st' := [.inr (.inr (some (.inr h.length)))]) ?_ hrun hq
  unfold xm_step
  rw [o3]
  simp only
  rw [show xm_core xp_nul (xt_R 0) (xt_L 0) (pc + 3 + 1) ls [.inr (.inr (some (.inr h.length))), .inr (.inr (some (.inr h.length)))] (.invokespecial ix2) = none from rfl]
  simp only
  rw [show (xm_inv (.invokespecial ix2)).bind (fun ix => xt_call (xt_K 0) ix) = xt_call 9 ix2 from rfl, n2]
  simp only
  exact if_pos ⟨(by show 1 ≤ 2; omega), (by show 1 ≤ 8; omega), hL, Or.inr (by rw [hk]; exact hc)⟩
theorem xz_nil (H1 : xh) : ([] : xh) ++ H1.map (xz_c ([] : xh).length) = H1 := by
  show H1.map (xz_c 0) = H1
  have : ∀ c : xc, xz_c 0 c = c := by
    rintro (⟨ci, fs⟩ | q | ⟨t, l⟩)
    · show Sum.inl (ci, fs.map (xn_v (xz 0))) = _
      congr 2
      have : ∀ v : xv x1, xn_v (xz 0) v = v := by
        rintro (v | v | v)
        · rfl
        · rfl
        · show Sum.inr (Sum.inr (xz 0 v)) = _
          rw [xz_id]
      rw [show (xn_v (xz 0) : xv x1 → xv x1) = id from funext this, List.map_id]
    · rfl
    · show Sum.inr (Sum.inr (t, l.map (fun q => q.map (fun a => 0 + a)))) = _
      congr 3
      have : (fun q : Option Nat => q.map (fun a => 0 + a)) = id := by
        funext q
        rcases q with _ | a
        · rfl
        · show some (0 + a) = some a
          rw [Nat.zero_add]
      rw [this, List.map_id]
  rw [show xz_c 0 = id from funext this, List.map_id]
theorem xs_law {X : List Int32} {q : Int32 × xM} (h : f_L_law X xs_M0 = some q) : ∃ n h', xp_exec X n 0 0 [(0, .inr (.inr (some (.inl 0))))] [] [] = some (some (.inl q.1), h') ∧ xd_R q.2 h' := by
  obtain ⟨H1, c1, y1⟩ := xs_run_ok xs_runB X []
  have e1 := xz_nil H1
  rw [e1] at y1
  have hR := xs_R0 c1
  have hq : xq X xe 0 8 [(1, .inr (.inr (7, 5, 0))), (0, .inr (.inr (18, 1, 0)))] [] xs_M0 (some (.inl q.1), q.2) := f_L_law_run h (fun q' e => by rw [e])
  obtain ⟨n, hn⟩ := hq
  have k7 : xd_k 7 5 0 7 := Or.inr (Or.inl ⟨rfl, rfl, Or.inl rfl⟩)
  obtain ⟨n', h', e3, e4, -, -⟩ := xd_sim (xd_extx X) n 0 8 _ _ xs_M0 _ _ _ hn hR (fun z hz => by
    rcases List.mem_cons.mp hz with rfl | hz
    · exact Or.inr (Or.inl k7)
    · rcases List.mem_cons.mp hz with rfl | hz
      · exact Or.inr (Or.inr ⟨rfl, Or.inl ⟨rfl, rfl⟩⟩)
      · cases hz) (fun z hz => by cases hz)
  have y3 : yq X 0 8 [(1, .inr (.inr (some (.inr 0)))), (0, .inr (.inr (some (.inl 0))))] [] H1 (some (.inl q.1), h') := by
    refine ⟨n', ?_⟩
    refine Eq.trans ?_ e3
    rfl
  have y4 : yq X 0 0 [(0, .inr (.inr (some (.inl 0))))] [] [] (some (.inl q.1), h') := by
    refine yq_new (X := X) (pc := 0) (ci := 6) (j := 74) (h := []) rfl rfl rfl rfl rfl rfl (by decide) rfl y1 ?_
    refine yq_step (pc' := 8) (ls' := [(1, .inr (.inr (some (.inr 0)))), (0, .inr (.inr (some (.inl 0))))]) (st' := []) (h' := H1) rfl ?_
    exact y3
  obtain ⟨n5, h5⟩ := y4
  exact ⟨n5, h', h5, e4⟩
