/-! the start is related -/
theorem start_rows : ∀ j, j < 20 → xs_m0 4 j = -6 ∧ xs_m0 5 j = -6 ∧ xs_m0 7 j = -6 ∧ xs_m0 8 j = -6 ∧ xs_m0 9 j = -6 ∧ xs_m0 19 j = -6 ∧ xs_m0 20 j = -6 ∧ xs_m0 21 j = -6 ∧ xs_m0 22 j = -6 ∧ xs_m0 23 j = -6 ∧ xs_m0 24 j = 0 := by decide +kernel
theorem start_set : xs_m0 1 0 = 1 ∧ xs_m0 1 1 = 10 ∧ xs_m0 1 2 = 5 ∧ xs_m0 1 3 = 20 ∧ xs_m0 0 4 = 0 ∧ xs_m0 18 6 = 0 ∧ xs_m0 3 5 = 0 ∧ xs_m0 2 0 = 255 ∧ xs_m0 2 1 = 255 ∧ xs_m0 2 2 = 255 := by decide +kernel
theorem start_s : xs_s0 0 = 1 ∧ xs_s0 1 = 10 ∧ xs_s0 2 = 5 ∧ xs_s0 3 = 20 ∧ xs_s0 4 = 0 ∧ xs_s0 5 = 0 ∧ xs_s0 6 = 0 ∧ xs_s0 7 = 0 ∧ xs_s0 8 = 0 ∧ xs_s0 9 = 0 ∧ xs_s0 10 = 0 ∧ xs_s0 11 = 0 ∧ xs_s0 12 = 0 ∧ xs_s0 13 = 0 := by decide +kernel
set_option maxRecDepth 100000 in
theorem start_p : ∀ p, p < 20 → ∀ f, f < 8 → xs_s0 (0 + 14 + 8 * p + f) = xs_m0 (mF f) p := by decide +kernel
theorem start_sum : sumI (xs_m0 24) 20 = 0 := by decide +kernel
theorem start_gA : gA 9999 20000 xs_m0 (fun _ => []) (fun _ => 255) 1 0 20 5 := by
  obtain ⟨z1, z2, z3, z4, z5, z6, z7, z8, z9, z10⟩ := start_set
  refine ⟨fun sh hs => ⟨List.nodup_nil, fun q hq => absurd hq List.not_mem_nil, fun q hq => Or.inl ⟨List.not_mem_nil, ?_⟩⟩, fun sh hs q hq => absurd hq List.not_mem_nil, ⟨z1, by omega, fun sh hs => ⟨show 255 < 256 by omega, ?_⟩⟩, ⟨z5, by omega, z4, by omega, fun p hp => Or.inl (start_rows p hp).1, fun p hp => Or.inl (start_rows p hp).2.2.2.2.2.2.2.2.2.1⟩, by omega, ⟨fun p hp => Or.inl ⟨(start_rows p hp).2.2.2.2.2.1, (start_rows p hp).2.2.2.2.2.2.1, (start_rows p hp).2.2.2.2.2.2.2.1, (start_rows p hp).2.2.2.2.2.2.2.2.1⟩, fun p q hp hq hn h19 => absurd (start_rows p hp).2.2.2.2.2.1 h19⟩, ⟨fun p hp hr => ?_, fun sh hs q hq => absurd hq List.not_mem_nil⟩, fun k hk => ?_, z3, by omega, by omega⟩
  · obtain ⟨a4, a5, a7, a8, a9, -⟩ := start_rows q hq
    rcases (by omega : sh = 0 ∨ sh = 1 ∨ sh = 2) with rfl | rfl | rfl
    · exact a7
    · exact a8
    · exact a9
  · rcases (by omega : sh = 0 ∨ sh = 1 ∨ sh = 2) with rfl | rfl | rfl
    · exact z8
    · exact z9
    · exact z10
  · rw [(start_rows p hp).1, rg_6] at hr
    cases hr
  · rcases (by omega : k = 0 ∨ k = 1 ∨ k = 2 ∨ k = 3) with rfl | rfl | rfl | rfl
    · exact ⟨1, by omega, z1⟩
    · exact ⟨10, by omega, z2⟩
    · exact ⟨5, by omega, z3⟩
    · exact ⟨20, by omega, z4⟩
theorem start_mR : mR xs_m0 (fun _ => []) (fun _ => 255) xs_s0 0 := by
  obtain ⟨z1, z2, z3, z4, z5, z6, z7, z8, z9, z10⟩ := start_set
  obtain ⟨s0, s1, s2, s3, s4, s5, s6, s7, s8, s9, s10, s11, s12, s13⟩ := start_s
  refine ⟨⟨fun k hk => ?_, ?_, ?_, ?_, ?_⟩, fun k hk => ?_, fun k hk => ⟨?_, fun i q hi => by cases hi⟩, fun p f hp hf => start_p p hp f hf⟩
  · rcases (by omega : k = 0 ∨ k = 1 ∨ k = 2 ∨ k = 3) with rfl | rfl | rfl | rfl
    · exact s0.trans z1.symm
    · exact s1.trans z2.symm
    · exact s2.trans z3.symm
    · exact s3.trans z4.symm
  · exact s4.trans z5.symm
  · exact s5.trans start_sum.symm
  · exact s6.trans z6.symm
  · exact s7.trans z7.symm
  · rcases (by omega : k = 0 ∨ k = 1 ∨ k = 2) with rfl | rfl | rfl
    · exact s8
    · exact s9
    · exact s10
  · rcases (by omega : k = 0 ∨ k = 1 ∨ k = 2) with rfl | rfl | rfl
    · exact s11
    · exact s12
    · exact s13
theorem start_rel : Rel 20000 xs_M0 := by
  refine ⟨0, fun _ => 0, ⟨by omega, rfl, fun j _ => rfl, fun k _ => rfl, rfl, fun j _ => Or.inl rfl, fun i j _ _ _ h => absurd rfl h, fun j hj => by omega⟩, rfl, fun k _ => rfl, fun j hj => by omega, fun k _ h => absurd rfl h, ⟨_, _, 1, 0, 20, 5, start_mR, start_gA⟩, 0, by omega, rfl, rfl, fun i hi => by omega⟩
