/-! copying a state, place by place -/
def xy_c (r1 r2 : Nat) (M N : xM) (c : Nat → Nat → Bool) : Prop := N.2 = M.2 ∧ ∀ r o j, N.1 r o j = if r = r1 ∧ c o j = true then M.1 r2 o j else M.1 r o j
theorem xy_rd {r1 r2 : Nat} {M N : xM} {c : Nat → Nat → Bool} (h : xy_c r1 r2 M N c) (o j : Nat) : N.1 r2 o j = M.1 r2 o j := by
  rw [h.2]
  split
  · rfl
  · rfl
theorem xy_cpy {r1 r2 : Nat} {M N : xM} {c : Nat → Nat → Bool} (h : xy_c r1 r2 M N c) (o n : Nat) : xy_c r1 r2 M (xd_cpy N r2 o r1 o 0 0 n) (fun o' j => c o' j || (o' == o && decide (j < n))) := by
  refine ⟨h.1, fun r o' j => ?_⟩
  show (if r = r1 ∧ o' = o then (if 0 ≤ j ∧ j < 0 + n then N.1 r2 o (0 + (j - 0)) else N.1 r1 o j) else N.1 r o' j) = _
  by_cases h1 : r = r1 ∧ o' = o
  · obtain ⟨rfl, rfl⟩ := h1
    rw [if_pos ⟨rfl, rfl⟩]
    by_cases hj : j < n
    · rw [if_pos ⟨Nat.zero_le _, by omega⟩, if_pos ⟨rfl, by simp [hj]⟩, show 0 + (j - 0) = j by omega, xy_rd h]
    · rw [if_neg (by omega), h.2]
      simp [hj]
  · rw [if_neg h1, h.2]
    by_cases hr : r = r1
    · have ho : ¬ o' = o := fun e => h1 ⟨hr, e⟩
      simp [ho]
    · rw [if_neg (fun z => hr z.1), if_neg (fun z => hr z.1)]
theorem xy_up {r1 r2 : Nat} {M N : xM} {c : Nat → Nat → Bool} (h : xy_c r1 r2 M N c) (o f : Nat) : xy_c r1 r2 M (xd_up N r1 o f (N.1 r2 o f)) (fun o' j => c o' j || (o' == o && j == f)) := by
  refine ⟨h.1, fun r o' j => ?_⟩
  show (if r = r1 ∧ o' = o ∧ j = f then N.1 r2 o f else N.1 r o' j) = _
  by_cases h1 : r = r1 ∧ o' = o ∧ j = f
  · obtain ⟨rfl, rfl, rfl⟩ := h1
    rw [if_pos ⟨rfl, rfl, rfl⟩, if_pos ⟨rfl, by simp⟩, xy_rd h]
  · rw [if_neg h1, h.2]
    by_cases hr : r = r1
    · have ho : ¬ (o' = o ∧ j = f) := fun e => h1 ⟨hr, e⟩
      have : (o' == o && j == f) = false := by
        rw [Bool.eq_false_iff]
        intro z
        simp only [Bool.and_eq_true, beq_iff_eq] at z
        exact ho z
      show _ = if r = r1 ∧ (c o' j || (o' == o && j == f)) = true then _ else _
      rw [this, Bool.or_false]
    · rw [if_neg (fun z => hr z.1), if_neg (fun z => hr z.1)]
def xy_fin (o j : Nat) : Bool := ((((((((((((((((((((((false || (o == 1 && decide (j < 4))) || (o == 2 && decide (j < 3))) || (o == 4 && decide (j < 20))) || (o == 5 && decide (j < 20))) || (o == 7 + 0 && decide (j < 20))) || (o == 11 + 0 && decide (j < 20))) || (o == 15 + 0 && decide (j < 20))) || (o == 7 + 1 && decide (j < 20))) || (o == 11 + 1 && decide (j < 20))) || (o == 15 + 1 && decide (j < 20))) || (o == 7 + 2 && decide (j < 20))) || (o == 11 + 2 && decide (j < 20))) || (o == 15 + 2 && decide (j < 20))) || (o == 3 && j == 5)) || (o == 19 && decide (j < 20))) || (o == 20 && decide (j < 20))) || (o == 21 && decide (j < 20))) || (o == 22 && decide (j < 20))) || (o == 23 && decide (j < 20))) || (o == 24 && decide (j < 20))) || (o == 18 && j == 6)) || (o == 0 && j == 4))
def xy_chk (o : Nat) : Bool := (match xd_arr (xd_so o) with
  | some q => (List.range q.2).all (fun j => xy_fin o j)
  | none => true) && (List.range (xp_n (xd_cls (xd_so o)))).all (fun f => !(xd_fld (xd_so o) f == some none) || xy_fin o f)
theorem xy_chk_ok : ∀ o, o < 25 → xy_chk o = true := by decide
def xy_row (a b q : Nat) (M : xM) : xM := xd_cpy (xd_cpy (xd_cpy M b (7 + q) a (7 + q) 0 0 20) b (11 + q) a (11 + q) 0 0 20) b (15 + q) a (15 + q) 0 0 20
def xy_rows (a b : Nat) (M : xM) : xM := xy_row a b 2 (xy_row a b 1 (xy_row a b 0 M))
theorem xlp_in {σ ρ : Type} {body : σ → Option (σ ⊕ ρ)} {n : Nat} {s s' : σ} (h : body s = some (.inl s')) : xlp body (n + 1) s = xlp body n s' := by
  show (match body s with | some (.inl s') => xlp body n s' | some (.inr q) => some q | none => none) = _
  rw [h]
theorem xlp_out {σ ρ : Type} {body : σ → Option (σ ⊕ ρ)} {n : Nat} {s : σ} {q : ρ} (h : body s = some (.inr q)) : xlp body (n + 1) s = some q := by
  show (match body s with | some (.inl s') => xlp body n s' | some (.inr q) => some q | none => none) = _
  rw [h]
theorem f_X4_copyFrom_eq (a b : Nat) (M : xM) : f_X4_copyFrom a b M = some (xd_up (xy_rows a b (xd_cpy (xd_cpy M b 4 a 4 0 0 20) b 5 a 5 0 0 20)) a 3 5 ((xy_rows a b (xd_cpy (xd_cpy M b 4 a 4 0 0 20) b 5 a 5 0 0 20)).1 b 3 5)) := by
  have e0 : ∀ N, f_X4_copyFrom_l32 a b (0, N) = some (.inl (1, xy_row a b 0 N)) := fun N => rfl
  have e1 : ∀ N, f_X4_copyFrom_l32 a b (1, N) = some (.inl (2, xy_row a b 1 N)) := fun N => rfl
  have e2 : ∀ N, f_X4_copyFrom_l32 a b (2, N) = some (.inl (3, xy_row a b 2 N)) := fun N => rfl
  have e3 : ∀ N, f_X4_copyFrom_l32 a b (3, N) = some (.inr (xd_up N a 3 5 (N.1 b 3 5))) := fun N => rfl
  unfold f_X4_copyFrom xy_rows
  rw [xlp_in (n := 3999) (e0 _), xlp_in (n := 3998) (e1 _), xlp_in (n := 3997) (e2 _), xlp_out (n := 3996) (e3 _)]
theorem xy_row_c {r1 r2 : Nat} {M N : xM} {c : Nat → Nat → Bool} (h : xy_c r1 r2 M N c) (q : Nat) : xy_c r1 r2 M (xy_row r1 r2 q N) (fun o' j => ((c o' j || (o' == 7 + q && decide (j < 20))) || (o' == 11 + q && decide (j < 20))) || (o' == 15 + q && decide (j < 20))) := xy_cpy (xy_cpy (xy_cpy h (7 + q) 20) (11 + q) 20) (15 + q) 20
theorem xy_copy (r1 r2 : Nat) (M : xM) : ∃ N, f_X5_copyFrom r1 r2 M = some N ∧ xy_c r1 r2 M N xy_fin := by
  have h0 : xy_c r1 r2 M M (fun _ _ => false) := ⟨rfl, fun r o j => by rw [if_neg (fun z => by cases z.2)]⟩
  have h1 := xy_cpy (xy_cpy h0 1 4) 2 3
  have h2 := xy_cpy (xy_cpy h1 4 20) 5 20
  have h3 := xy_up (xy_row_c (xy_row_c (xy_row_c h2 0) 1) 2) 3 5
  have h4 := xy_up (xy_cpy (xy_cpy (xy_cpy (xy_cpy (xy_cpy (xy_cpy h3 19 20) 20 20) 21 20) 22 20) 23 20) 24 20) 18 6
  have h5 := xy_up h4 0 4
  refine ⟨_, ?_, h5⟩
  unfold f_X5_copyFrom
  rw [f_X4_copyFrom_eq]
  rfl
theorem xd_fld_some : ∀ k, k ≤ 17 → xd_arr k = none → k ≠ 6 → k ≠ 9 → k ≠ 10 → ∀ f, f < xp_n (xd_cls k) → xd_fld k f ≠ none := by
  intro k hk h1 h2 h3 h4 f hf hn
  have : (List.range 18).all (fun k => (xd_arr k).isSome || k == 6 || k == 9 || k == 10 || (List.range (xp_n (xd_cls k))).all (fun f => (xd_fld k f).isSome)) = true := by decide
  have := List.all_eq_true.mp this k (List.mem_range.mpr (by omega))
  rw [h1, beq_eq_false_iff_ne.mpr h2, beq_eq_false_iff_ne.mpr h3, beq_eq_false_iff_ne.mpr h4] at this
  simp only [Option.isSome_none, Bool.false_or] at this
  have := List.all_eq_true.mp this f (List.mem_range.mpr hf)
  rw [hn] at this
  cases this
/-- what is looked at in a cell -/
theorem xd_cell_congr {m m' : Nat → Nat → Nat → Int32} {k r o : Nat} (hk : k ≤ 17) (h1 : ∀ t n, xd_arr k = some (t, n) → ∀ j, j < n → m r o j = m' r o j) (h2 : ∀ f, f < xp_n (xd_cls k) → xd_fld k f = some none → m r o f = m' r o f) (h3 : k = 9 → ∀ j, j < 6 → m r o j = m' r o j) (h4 : k = 10 → ∀ j, j < 2 → m r o j = m' r o j) : xd_cell m k r o = xd_cell m' k r o := by
  unfold xd_cell
  cases ha : xd_arr k with
  | some q =>
    obtain ⟨t, n⟩ := q
    simp only
    congr 3
    apply List.map_congr_left
    intro j hj
    exact h1 t n ha j (List.mem_range.mp hj)
  | none =>
    simp only
    have ho : k ≠ 6 → k ≠ 9 → k ≠ 10 → ∀ k', xd_cls k' = xd_cls k → (∀ f, xd_fld k' f = xd_fld k f) → (Sum.inl (xd_cls k', (List.range (xp_n (xd_cls k'))).map (fun f => match xd_fld k' f with | some (some (_, z, o')) => (.inr (.inr (some (.inr (xd_rb (if z = 0 then r else z) + o')))) : xv x1) | _ => .inl (m r o f))) : xc) = Sum.inl (xd_cls k', (List.range (xp_n (xd_cls k'))).map (fun f => match xd_fld k' f with | some (some (_, z, o')) => (.inr (.inr (some (.inr (xd_rb (if z = 0 then r else z) + o')))) : xv x1) | _ => .inl (m' r o f))) := by
      intro n6 n9 n10 k' e1 e2
      congr 2
      apply List.map_congr_left
      intro f hf
      have hf := List.mem_range.mp hf
      rw [e1] at hf
      cases hq : xd_fld k' f with
      | none =>
        exfalso
        rw [e2] at hq
        exact xd_fld_some k hk ha n6 n9 n10 f hf hq
      | some q =>
        cases q with
        | some q => rfl
        | none =>
          simp only
          rw [h2 f hf (by rw [← e2]; exact hq)]
    by_cases h9 : k = 9
    · subst h9
      show Sum.inr (Sum.inr (4, _)) = Sum.inr (Sum.inr (4, _))
      congr 3
      apply List.map_congr_left
      intro j hj
      rw [h3 rfl j (List.mem_range.mp hj)]
    · by_cases h10 : k = 10
      · subst h10
        show Sum.inr (Sum.inr (4, _)) = Sum.inr (Sum.inr (4, _))
        congr 3
        apply List.map_congr_left
        intro j hj
        rw [h4 rfl j (List.mem_range.mp hj)]
      · split
        · rfl
        · exact absurd rfl h9
        · exact absurd rfl h10
        · next h6 _ _ => exact ho h6 h9 h10 k rfl (fun _ => rfl)
