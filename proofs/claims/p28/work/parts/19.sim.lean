/-! tier 2 in tier 1 -/
theorem xd_mo_v (o : Nat) : xd_mo o = 99 ∨ (7 ≤ xd_mo o ∧ xd_mo o ≤ 13) := by
  unfold xd_mo
  split <;> simp
theorem xd_ro_v (o : Nat) : xd_ro o = 99 ∨ (14 ≤ xd_ro o ∧ xd_ro o ≤ 17) := by
  unfold xd_ro
  split <;> simp
theorem xd_so_v (o : Nat) : xd_so o = 99 ∨ xd_so o ≤ 6 := by
  unfold xd_so
  split <;> simp
theorem xd_so_lt : ∀ o, o < 25 → xd_so o ≠ 99 := by decide
theorem xd_ro_lt : ∀ o, o < 0 → xd_ro o ≠ 99 := by decide
theorem xd_mo_lt : ∀ o, (o = 0 ∨ (76 ≤ o ∧ o ≤ 81)) → xd_mo o ≠ 99 := by
  intro o h
  rcases h with rfl | ⟨h1, h2⟩
  · decide
  · have h3 : o = 76 ∨ o = 77 ∨ o = 78 ∨ o = 79 ∨ o = 80 ∨ o = 81 := by omega
    rcases h3 with rfl | rfl | rfl | rfl | rfl | rfl <;> decide
theorem xd_kS {n r o k : Nat} (h : xd_k n r o k) (hk : k ≤ 6) : xd_st n r ∧ xd_so o = k ∧ o < 25 := by
  rcases h with h | ⟨-, h2, h3⟩ | ⟨-, h2, h3⟩
  · exact h
  · have := xd_mo_v o
    omega
  · have := xd_ro_v o
    omega
theorem xd_kM {n r o k : Nat} (h : xd_k n r o k) (hk : 7 ≤ k ∧ k ≤ 13) : r = 5 ∧ xd_mo o = k ∧ (o = 0 ∨ (76 ≤ o ∧ o ≤ 81)) := by
  rcases h with ⟨-, h2, h3⟩ | h | ⟨-, h2, h3⟩
  · have := xd_so_v o
    have := xd_so_lt o h3
    omega
  · exact h
  · have := xd_ro_v o
    have := xd_ro_lt o h3
    omega
theorem xd_kR {n r o k : Nat} (h : xd_k n r o k) (hk : 14 ≤ k ∧ k ≤ 17) : r = 6 ∧ xd_ro o = k ∧ o < 0 := by
  rcases h with ⟨-, h2, h3⟩ | ⟨-, h2, h3⟩ | h
  · have := xd_so_v o
    have := xd_so_lt o h3
    omega
  · have := xd_mo_v o
    have := xd_mo_lt o h3
    omega
  · exact h
theorem xd_k17 {n r o k : Nat} (h : xd_k n r o k) : k ≤ 17 := by
  rcases h with ⟨-, h2, h3⟩ | ⟨-, h2, h3⟩ | ⟨-, h2, h3⟩
  · have := xd_so_v o
    have := xd_so_lt o h3
    omega
  · have := xd_mo_v o
    have := xd_mo_lt o h3
    omega
  · have := xd_ro_v o
    have := xd_ro_lt o h3
    omega
theorem xd_kr {n r o k : Nat} (h : xd_k n r o k) : 2 ≤ r := by
  unfold xd_k xd_st at h
  omega
theorem xd_k_fun {n r o k k' : Nat} (h : xd_k n r o k) (h' : xd_k n r o k') : k = k' := by
  unfold xd_k xd_st at h h'
  omega
theorem xd_k_at {n r o k : Nat} (h : xd_k n r o k) : (r = 2 ∧ o < 25 ∧ xd_rb r = 1) ∨ (r = 3 ∧ o < 25 ∧ xd_rb r = 26) ∨ (r = 4 ∧ o < 25 ∧ xd_rb r = 51) ∨ (r = 5 ∧ (o = 0 ∨ (76 ≤ o ∧ o ≤ 81)) ∧ xd_rb r = 0) ∨ (r = 6 ∧ o < 0 ∧ xd_rb r = 82) ∨ (7 ≤ r ∧ o < 25 ∧ xd_rb r = 82 + 25 * (r - 7)) := by
  have h1 : (r = 2 ∧ o < 25) ∨ (r = 3 ∧ o < 25) ∨ (r = 4 ∧ o < 25) ∨ (r = 5 ∧ (o = 0 ∨ (76 ≤ o ∧ o ≤ 81))) ∨ (r = 6 ∧ o < 0) ∨ (7 ≤ r ∧ o < 25) := by
    unfold xd_k xd_st at h
    omega
  rcases h1 with ⟨rfl, h1⟩ | ⟨rfl, h1⟩ | ⟨rfl, h1⟩ | ⟨rfl, h1⟩ | ⟨rfl, h1⟩ | ⟨h3, h1⟩
  · exact Or.inl ⟨rfl, h1, rfl⟩
  · exact Or.inr (Or.inl ⟨rfl, h1, rfl⟩)
  · exact Or.inr (Or.inr (Or.inl ⟨rfl, h1, rfl⟩))
  · exact Or.inr (Or.inr (Or.inr (Or.inl ⟨rfl, h1, rfl⟩)))
  · exact Or.inr (Or.inr (Or.inr (Or.inr (Or.inl ⟨rfl, h1, rfl⟩))))
  · refine Or.inr (Or.inr (Or.inr (Or.inr (Or.inr ⟨h3, h1, ?_⟩))))
    unfold xd_rb
    rw [if_neg (by omega), if_neg (by omega), if_neg (by omega), if_neg (by omega), if_neg (by omega)]
theorem xd_k_inj {n r o k r' o' k' : Nat} (h : xd_k n r o k) (h' : xd_k n r' o' k') (e : xd_rb r + o = xd_rb r' + o') : r = r' ∧ o = o' := by
  have h1 := xd_k_at h
  have h2 := xd_k_at h'
  omega
theorem xd_ad_k {n r o k : Nat} (k0 : Nat) (h : xd_k n r o k) : xd_ad (k0, r, o) = some (.inr (xd_rb r + o)) := by
  have := xd_kr h
  unfold xd_ad
  rw [if_neg (by show ¬ r = 0; omega), if_neg (by show ¬ r = 1; omega)]
theorem xd_nul_ad {n : Nat} {a : x2} (h : xd_wf n a) : xp_nul (xd_ad a) = xd_nul a := by
  obtain ⟨k, r, o⟩ := a
  rcases h with ⟨h1, h2, h3⟩ | h | ⟨h1, h2⟩
  · simp only at h1 h2 h3
    subst h1; subst h2
    rcases h3 with rfl | h3
    · rfl
    · have hr : 2 ≤ r := by unfold xd_st at h3; omega
      unfold xd_ad xd_nul
      simp only
      rw [if_neg (by omega), if_neg (by omega)]
      show false = ((20 == 20) && (r == 0))
      rw [beq_eq_false_iff_ne.mpr (by omega : r ≠ 0)]
      rfl
  · simp only at h
    rw [xd_ad_k k h]
    have := xd_k17 h
    show false = ((k == 20) && (r == 0))
    rw [beq_eq_false_iff_ne.mpr (by omega : k ≠ 20)]
    rfl
  · simp only at h1 h2
    subst h1
    unfold xd_ad xd_nul
    simp only
    rw [if_neg (by omega), if_pos trivial]
    show false = ((k == 20) && _)
    rw [beq_eq_false_iff_ne.mpr (by omega : k ≠ 20)]
    rfl
/-- an object that may be looked into -/
theorem xd_obj {n k r o ci : Nat} (h : xd_wf n (k, r, o)) (hc : xd_ck k r ci = true) (hci : ci < 7) : ∃ k0, xd_k n r o k0 ∧ xd_cls k0 = ci ∧ (∀ f, xd_fld k0 f = xd_fld k f) ∧ ((k0 = k ∧ k ≠ 20) ∨ (k = 20 ∧ k0 = 0)) := by
  unfold xd_ck at hc
  simp only [Bool.and_eq_true, beq_iff_eq, Bool.or_eq_true, bne_iff_ne] at hc
  rcases h with ⟨h1, h2, h3⟩ | h | ⟨h1, h2⟩
  · simp only at h1 h2 h3
    subst h1; subst h2
    have hr : r ≠ 0 := by
      rcases hc.2 with z | z
      · exact absurd rfl z
      · exact z
    rcases h3 with z | h3
    · exact absurd z hr
    · refine ⟨0, Or.inl ⟨h3, rfl, by omega⟩, hc.1, fun f => ?_, Or.inr ⟨rfl, rfl⟩⟩
      match f with
      | 0 => rfl
      | 1 => rfl
      | 2 => rfl
      | 3 => rfl
      | 4 => rfl
      | f + 5 => rfl
  · simp only at h
    exact ⟨k, h, hc.1, fun _ => rfl, Or.inl ⟨rfl, by have := xd_k17 h; omega⟩⟩
  · simp only at h1 h2
    rcases h2 with ⟨rfl, -⟩ | ⟨rfl, -⟩
    · have := hc.1
      simp [xd_cls] at this
      omega
    · have := hc.1
      simp [xd_cls] at this
      omega
def xd_fs (m : Nat → Nat → Nat → Int32) (k r o : Nat) : List (xv x1) := (List.range (xp_n (xd_cls k))).map (fun f => match xd_fld k f with
      | some (some (_, z, o')) => .inr (.inr (some (.inr (xd_rb (if z = 0 then r else z) + o'))))
      | _ => .inl (m r o f))
theorem xd_cell_obj {k ci : Nat} (hc : xd_cls k = ci) (hci : ci < 7) (m : Nat → Nat → Nat → Int32) (r o : Nat) : xd_cell m k r o = .inl (ci, xd_fs m k r o) := by
  subst hc
  revert hci
  unfold xd_cls
  split <;> intro hci <;> first | rfl | (exact absurd hci (by omega))
theorem xd_arr_wf {n k r o t N : Nat} (h : xd_wf n (k, r, o)) (ha : xd_arr k = some (t, N)) : xd_k n r o k := by
  rcases h with ⟨h1, h2, h3⟩ | h | ⟨h1, h2⟩
  · simp only at h1
    subst h1
    cases ha
  · exact h
  · simp only at h2
    rcases h2 with ⟨rfl, -⟩ | ⟨rfl, -⟩ <;> cases ha
theorem xd_cell_arr {k t N : Nat} (ha : xd_arr k = some (t, N)) (m : Nat → Nat → Nat → Int32) (r o : Nat) : xd_cell m k r o = .inr (.inl (t, (List.range N).map (m r o))) := by
  unfold xd_cell
  rw [ha]
theorem xd_ral_wf {n k r o N : Nat} (h : xd_wf n (k, r, o)) (ha : xd_ral k = some N) : xd_k n r o k := by
  rcases h with ⟨h1, h2, h3⟩ | h | ⟨h1, h2⟩
  · simp only at h1
    subst h1
    cases ha
  · exact h
  · simp only at h2
    rcases h2 with ⟨rfl, -⟩ | ⟨rfl, -⟩ <;> cases ha
/-- one cell is written -/
theorem xd_R.set {M : xM} {h : xh} {r o k : Nat} {m : Nat → Nat → Nat → Int32} (hR : xd_R M h) (hk : xd_k M.2 r o k) (hm : ∀ r' o', ¬ (r' = r ∧ o' = o) → m r' o' = M.1 r' o') (h6 : r = 5 → o = 77 → ∀ j, j < 6 → xd_code M.2 (m 5 77 j)) (h2 : r = 5 → o = 78 → ∀ j, j < 2 → xd_code M.2 (m 5 78 j)) : xd_R (m, M.2) (h.set (xd_rb r + o) (xd_cell m k r o)) := by
  obtain ⟨a1, a2, a3, a4, a5, a6⟩ := hR
  have hat := a4 r o k hk
  have hlt := (List.getElem?_eq_some_iff.mp hat).1
  refine ⟨a1, a2, by rw [List.length_set]; exact a3, fun r' o' k' hk' => ?_, fun j hj => ?_, fun j hj => ?_⟩
  · by_cases e : r' = r ∧ o' = o
    · obtain ⟨rfl, rfl⟩ := e
      rw [List.getElem?_set_self hlt, xd_k_fun hk hk']
    · have hne : xd_rb r + o ≠ xd_rb r' + o' := fun z => e (by obtain ⟨z1, z2⟩ := xd_k_inj hk hk' z; exact ⟨z1.symm, z2.symm⟩)
      rw [List.getElem?_set_ne hne, a4 r' o' k' hk']
      have e2 : ∀ m1 m2 : Nat → Nat → Nat → Int32, m1 r' o' = m2 r' o' → xd_cell m1 k' r' o' = xd_cell m2 k' r' o' := by
        intro m1 m2 hh
        unfold xd_cell
        rw [hh]
      rw [e2 m M.1 (hm r' o' e)]
  · by_cases e : r = 5 ∧ o = 77
    · exact h6 e.1 e.2 j hj
    · have := hm 5 77 (fun z => e ⟨z.1.symm, z.2.symm⟩)
      show xd_code M.2 (m 5 77 j)
      rw [this]
      exact a5 j hj
  · by_cases e : r = 5 ∧ o = 78
    · exact h2 e.1 e.2 j hj
    · have := hm 5 78 (fun z => e ⟨z.1.symm, z.2.symm⟩)
      show xd_code M.2 (m 5 78 j)
      rw [this]
      exact a6 j hj
