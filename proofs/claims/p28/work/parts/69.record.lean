/-! the class's history -/
def rp (M : xM) (r o : Nat) (f : Nat → Int32) : xM := (fun r' o' => if r' = r ∧ o' = o then f else M.1 r' o', M.2)
theorem up_rp (M : xM) (r o j : Nat) (v : Int32) : xd_up M r o j v = rp M r o (us (M.1 r o) j v) := by
  refine Prod.ext ?_ rfl
  funext r' o' j'
  show (if r' = r ∧ o' = o ∧ j' = j then v else M.1 r' o' j') = (if r' = r ∧ o' = o then us (M.1 r o) j v else M.1 r' o') j'
  by_cases h : r' = r ∧ o' = o
  · rw [if_pos h]
    unfold us
    by_cases h2 : j' = j
    · rw [if_pos ⟨h.1, h.2, h2⟩, if_pos h2]
    · rw [if_neg (fun z => h2 z.2.2), if_neg h2, h.1, h.2]
  · rw [if_neg h, if_neg (fun z => h ⟨z.1, z.2.1⟩)]
theorem rp_get (M : xM) (r o : Nat) (f : Nat → Int32) : (rp M r o f).1 r o = f := if_pos ⟨rfl, rfl⟩
theorem rp_ne (M : xM) {r o r' o' : Nat} (f : Nat → Int32) (h : ¬ (r' = r ∧ o' = o)) : (rp M r o f).1 r' o' = M.1 r' o' := if_neg h
theorem rp_rp (M : xM) (r o : Nat) (f g : Nat → Int32) : rp (rp M r o f) r o g = rp M r o g := by
  refine Prod.ext ?_ rfl
  funext r' o'
  show (if r' = r ∧ o' = o then g else if r' = r ∧ o' = o then f else M.1 r' o') = _
  by_cases h : r' = r ∧ o' = o
  · rw [if_pos h]
    exact (if_pos h).symm
  · rw [if_neg h, if_neg h]
    exact (if_neg h).symm
theorem rp_2 (M : xM) (r o : Nat) (f : Nat → Int32) : (rp M r o f).2 = M.2 := rfl
theorem rp_self (M : xM) (r o : Nat) : rp M r o (M.1 r o) = M := by
  refine Prod.ext ?_ rfl
  funext r' o'
  show (if r' = r ∧ o' = o then M.1 r o else M.1 r' o') = M.1 r' o'
  by_cases h : r' = r ∧ o' = o
  · rw [if_pos h, h.1, h.2]
  · rw [if_neg h]
/-- the class's slots and history: R tells the region of each place; 6 and 7 are the slots -/
def hC (M : xM) (n : Nat) (R : Nat → Nat) : Prop := n ≤ 6 ∧ M.1 5 76 1 = nI n ∧ (∀ j, j < 6 → M.1 5 77 j = nI (R j)) ∧ (∀ k, k < 2 → M.1 5 78 k = nI (R (6 + k))) ∧ M.2 = 7 + cnt (fun j => decide (R j ≠ 0)) 8 ∧ (∀ j, j < 8 → R j = 0 ∨ (7 ≤ R j ∧ R j < M.2)) ∧ (∀ i j, i < 8 → j < 8 → i ≠ j → R i ≠ 0 → R i ≠ R j) ∧ ∀ j, j < n → R j ≠ 0
theorem hC.sz {M : xM} {n : Nat} {R : Nat → Nat} (h : hC M n R) : M.2 ≤ 15 := by
  have := cnt_le (fun j => decide (R j ≠ 0)) 8
  rw [h.2.2.2.2.1]
  omega
theorem hC.R_lt {M : xM} {n : Nat} {R : Nat → Nat} (h : hC M n R) {j : Nat} (hj : j < 8) : R j < 15 := by
  have := h.sz
  rcases h.2.2.2.2.2.1 j hj with z | z <;> omega
def rotR (R : Nat → Nat) (k : Nat) : Nat := if k < 5 then R (k + 1) else if k = 5 then R 0 else R k
theorem c_drop {M : xM} {R : Nat → Nat} (h : hC M 6 R) : ∃ f g, f_X2_dropOldest M = some (rp (rp M 5 77 f) 5 76 g) ∧ (∀ j, j < 6 → f j = nI (rotR R j)) ∧ g 1 = nI 5 ∧ ∀ j, j ≠ 1 → g j = M.1 5 76 j := by
  have hl := xlp_for (body := f_X2_dropOldest_l9 (R 0)) (q := rp (rp M 5 77 (us (fun j => if j < 5 then nI (R (j + 1)) else M.1 5 77 j) 5 (nI (R 0)))) 5 76 (us (M.1 5 76) 1 (nI 5))) (f := fun k => (nI (k + 1), rp M 5 77 (fun j => if j < k then nI (R (j + 1)) else M.1 5 77 j))) 5 4000 (by omega) (fun k hk => ?_) ?_
  · have e0 : (fun j => if j < 0 then nI (R (j + 1)) else M.1 5 77 j) = M.1 5 77 := by
      funext j
      exact if_neg (by omega)
    rw [e0, rp_self] at hl
    refine ⟨us (fun j => if j < 5 then nI (R (j + 1)) else M.1 5 77 j) 5 (nI (R 0)), us (M.1 5 76) 1 (nI 5), ?_, fun j hj => ?_, us_eq _ _ _, fun j hj => us_ne _ _ hj⟩
    · unfold f_X2_dropOldest
      have hR0 := h.R_lt (j := 0) (by omega)
      have e1 : M.1 5 77 (0 : Int32).toNatClampNeg = nI (R 0) := h.2.2.1 0 (by omega)
      rw [if_pos (show xp_in (0 : Int32) 6 = true from in_nI (k := 0) (by omega) (by omega)), e1, cl_nI (by omega)]
      exact hl
    · unfold rotR
      by_cases h5 : j = 5
      · subst h5
        rw [us_eq, if_neg (by omega), if_pos rfl]
      · rw [us_ne _ _ h5, if_pos (by omega), if_pos (by omega)]
  · have hR := h.R_lt (j := k + 1) (by omega)
    have hR0 := h.2.2.2.2.2.2.2 (k + 1) (by omega)
    have e2 : (if k + 1 < k then nI (R (k + 1 + 1)) else M.1 5 77 (k + 1)) = nI (R (k + 1)) := by
      rw [if_neg (by omega)]
      exact h.2.2.1 (k + 1) (by omega)
    have e3 : nI (k + 1) - 1 = nI k := sub_nI (a := k + 1) (b := 1) (by omega)
    unfold f_X2_dropOldest_l9
    simp (disch := omega) only [lt_6, if_true, in_nI, cl_nI, rp_get, e2, e3, aI_1, up_rp, rp_rp]
    rw [if_pos (by rw [bne_iff_ne]; exact hR0)]
    congr 4
    funext j
    show us _ k (nI (R (k + 1))) j = _
    by_cases hj : j = k
    · subst hj
      rw [us_eq, if_pos (by omega)]
    · rw [us_ne _ _ hj]
      by_cases hj2 : j < k
      · rw [if_pos hj2, if_pos (by omega)]
      · rw [if_neg hj2, if_neg (by omega)]
  · have hR0 := h.2.2.2.2.2.2.2 0 (by omega)
    have e1 : (M.1 5 76 1) - 1 = nI 5 := by
      rw [h.2.1]
      rfl
    unfold f_X2_dropOldest_l9
    dsimp only
    rw [if_neg (show ¬ nI 6 < 6 by decide), if_pos (by rw [bne_iff_ne]; exact hR0), if_pos (show xp_in (5 : Int32) 6 = true from in_nI (k := 5) (by omega) (by omega)), show (5 : Int32).toNatClampNeg = 5 from cl_nI (k := 5) (by omega), up_rp, up_rp, rp_get, rp_rp, rp_ne _ _ (by omega), e1]
    rfl
/-- one state more in the history: before stands at place n1 -/
theorem c_push {M : xM} {n : Nat} {R : Nat → Nat} (h : hC M n R) (hn : n < 6) : ∃ M1 q, f_X2_record_j13 3 M = some M1 ∧ hC M1 (n + 1) (fun k => if k = n then q else R k) ∧ 7 ≤ q ∧ (∀ j, j < 8 → j ≠ n → R j ≠ q) ∧ M1.1 q = M.1 3 ∧ (∀ r, r ≠ q → r ≠ 5 → M1.1 r = M.1 r) ∧ ∀ o, o ≠ 76 → o ≠ 77 → M1.1 5 o = M.1 5 o := by
  obtain ⟨h1, h2, h3, h4, h5, h6, h7, h8⟩ := h
  have hsz := hC.sz ⟨h1, h2, h3, h4, h5, h6, h7, h8⟩
  have hRn : R n < 15 := hC.R_lt ⟨h1, h2, h3, h4, h5, h6, h7, h8⟩ (by omega)
  have key : ∀ (q : Nat) (N : xM), xe_ci (R n) 3 M = some (q, N) → 7 ≤ q → q < 100 → N.2 = 7 + cnt (fun j => decide ((if j = n then q else R j) ≠ 0)) 8 → q < N.2 → M.2 ≤ N.2 → (∀ j, j < 8 → j ≠ n → R j ≠ q) → N.1 q = M.1 3 → (∀ r, r ≠ q → N.1 r = M.1 r) → ∃ M1 q, f_X2_record_j13 3 M = some M1 ∧ hC M1 (n + 1) (fun k => if k = n then q else R k) ∧ 7 ≤ q ∧ (∀ j, j < 8 → j ≠ n → R j ≠ q) ∧ M1.1 q = M.1 3 ∧ (∀ r, r ≠ q → r ≠ 5 → M1.1 r = M.1 r) ∧ ∀ o, o ≠ 76 → o ≠ 77 → M1.1 5 o = M.1 5 o := by
    intro q N hci q7 q100 hN2 hqN hMN hdis hNq hNr
    have e5 : ∀ o, N.1 5 o = M.1 5 o := fun o => by rw [hNr 5 (by omega)]
    refine ⟨rp (rp N 5 77 (us (N.1 5 77) n (nI q))) 5 76 (us (N.1 5 76) 1 (nI (n + 1))), q, ?_, ⟨by omega, ?_, fun j hj => ?_, fun k hk => ?_, ?_, fun j hj => ?_, fun i j hi hj hij hi0 => ?_, fun j hj => ?_⟩, q7, hdis, ?_, fun r hr hr5 => ?_, fun o ho ho2 => ?_⟩
    · unfold f_X2_record_j13
      simp (disch := omega) only [h2, in_nI, cl_nI, if_true, h3 n hn]
      rw [hci, Option.bind_some]
      simp (disch := omega) only [if_true, up_rp, rp_get, rp_rp, rp_ne]
      rw [e5 76, h2, aI_1]
      rfl
    · rw [rp_get, us_eq]
    · rw [rp_ne _ _ (by omega), rp_get]
      dsimp only
      by_cases e : j = n
      · subst e
        rw [us_eq, if_pos rfl]
      · rw [us_ne _ _ e, if_neg e, e5]
        exact h3 j hj
    · rw [rp_ne _ _ (by omega), rp_ne _ _ (by omega), e5]
      dsimp only
      rw [if_neg (by omega)]
      exact h4 k hk
    · exact hN2
    · dsimp only
      by_cases e : j = n
      · rw [if_pos e]
        exact Or.inr ⟨q7, hqN⟩
      · rw [if_neg e]
        rcases h6 j hj with z | z
        · exact Or.inl z
        · exact Or.inr ⟨z.1, Nat.lt_of_lt_of_le z.2 hMN⟩
    · dsimp only at hi0 ⊢
      by_cases e : i = n
      · rw [if_pos e, if_neg (by omega)]
        exact fun z => hdis j hj (by omega) z.symm
      · rw [if_neg e] at hi0 ⊢
        by_cases e2 : j = n
        · rw [if_pos e2]
          exact hdis i hi e
        · rw [if_neg e2]
          exact h7 i j hi hj hij hi0
    · dsimp only
      by_cases e : j = n
      · rw [if_pos e]
        omega
      · rw [if_neg e]
        exact h8 j (by omega)
    · rw [← hNq]
      funext o
      exact (rp_ne _ _ (by omega)).trans (rp_ne _ _ (by omega))
    · rw [← hNr r hr]
      funext o
      exact (rp_ne _ _ (by omega)).trans (rp_ne _ _ (by omega))
    · rw [rp_ne _ _ (by omega), rp_ne _ _ (by omega), e5]
  by_cases h0 : R n = 0
  · refine key M.2 (fun r o j => if r = M.2 then M.1 3 o j else M.1 r o j, M.2 + 1) ?_ (by omega) (by omega) ?_ (Nat.lt_succ_self _) (Nat.le_succ _) (fun j hj hjn => ?_) ?_ (fun r hr => ?_)
    · unfold xe_ci
      rw [if_pos h0, if_pos (by omega)]
    · show M.2 + 1 = _
      have ec := cnt_add (fun j => decide (R j ≠ 0)) n (by rw [h0]; rfl) 8
      rw [if_pos (by omega)] at ec
      have : cnt (fun j => decide ((if j = n then M.2 else R j) ≠ 0)) 8 = cnt (fun j => decide (R j ≠ 0)) 8 + 1 := by
        rw [← ec]
        refine cnt_congr 8 (fun j hj => ?_)
        by_cases e : j = n
        · subst e
          rw [if_pos rfl, beq_self_eq_true, Bool.or_true]
          exact decide_eq_true (by omega)
        · rw [if_neg e, beq_eq_false_iff_ne.mpr e, Bool.or_false]
      rw [this, h5]
      omega
    · rcases h6 j hj with z | z <;> omega
    · funext o j
      exact if_pos rfl
    · funext o j
      exact if_neg hr
  · have hR7 : 7 ≤ R n ∧ R n < M.2 := (h6 n (by omega)).resolve_left h0
    refine key (R n) (xe_cp (R n) 3 M) ?_ hR7.1 (by omega) ?_ hR7.2 (Nat.le_refl _) (fun j hj hjn e => ?_) ?_ (fun r hr => ?_)
    · unfold xe_ci
      rw [if_neg h0]
    · show M.2 = _
      rw [h5]
      congr 1
      refine cnt_congr 8 (fun j hj => ?_)
      by_cases e : j = n
      · rw [if_pos e, e]
      · rw [if_neg e]
    · exact h7 n j (by omega) hj (fun z => hjn z.symm) h0 e.symm
    · funext o j
      exact if_pos rfl
    · funext o j
      exact if_neg hr
/-- how many are dropped -/
def drp (n : Nat) : Nat := if n = 6 then 1 else 0
theorem c_record {M : xM} {n : Nat} {R : Nat → Nat} (h : hC M n R) : ∃ M1 R', f_X2_record 3 M = some M1 ∧ hC M1 (n - drp n + 1) R' ∧ (∀ k, k < n - drp n → R' k = R (k + drp n)) ∧ R' 6 = R 6 ∧ R' 7 = R 7 ∧ 7 ≤ R' (n - drp n) ∧ M1.1 (R' (n - drp n)) = M.1 3 ∧ (∀ r, r ≠ R' (n - drp n) → r ≠ 5 → M1.1 r = M.1 r) ∧ ∀ o, o ≠ 76 → o ≠ 77 → M1.1 5 o = M.1 5 o := by
  by_cases h6 : n = 6
  · subst h6
    obtain ⟨f, g, e1, e2, e3, e4⟩ := c_drop h
    have h8 := h.2.2.2.2.2.2.2
    have h7 := h.2.2.2.2.2.2.1
    have hrot : hC (rp (rp M 5 77 f) 5 76 g) 5 (rotR R) := by
      refine ⟨by omega, ?_, fun j hj => ?_, fun k hk => ?_, ?_, fun j hj => ?_, fun i j hi hj hij hi0 => ?_, fun j hj => ?_⟩
      · rw [rp_get, e3]
      · rw [rp_ne _ _ (by omega), rp_get, e2 j hj]
      · rw [rp_ne _ _ (by omega), rp_ne _ _ (by omega)]
        unfold rotR
        rw [if_neg (by omega), if_neg (by omega)]
        exact h.2.2.2.1 k hk
      · show M.2 = _
        rw [h.2.2.2.2.1]
        congr 1
        refine cnt_congr 8 (fun j hj => ?_)
        unfold rotR
        by_cases a : j < 5
        · rw [if_pos a, decide_eq_true (h8 j (by omega)), decide_eq_true (h8 (j + 1) (by omega))]
        · rw [if_neg a]
          by_cases b : j = 5
          · rw [if_pos b, decide_eq_true (h8 j (by omega)), decide_eq_true (h8 0 (by omega))]
          · rw [if_neg b]
      · unfold rotR
        by_cases a : j < 5
        · rw [if_pos a]
          exact h.2.2.2.2.2.1 (j + 1) (by omega)
        · rw [if_neg a]
          by_cases b : j = 5
          · rw [if_pos b]
            exact h.2.2.2.2.2.1 0 (by omega)
          · rw [if_neg b]
            exact h.2.2.2.2.2.1 j hj
      · have hp : ∀ k, k < 8 → ∃ k', k' < 8 ∧ rotR R k = R k' ∧ k' = (if k < 5 then k + 1 else if k = 5 then 0 else k) := by
          intro k hk
          unfold rotR
          by_cases a : k < 5
          · rw [if_pos a, if_pos a]
            exact ⟨k + 1, by omega, rfl, rfl⟩
          · rw [if_neg a, if_neg a]
            by_cases b : k = 5
            · rw [if_pos b, if_pos b]
              exact ⟨0, by omega, rfl, rfl⟩
            · rw [if_neg b, if_neg b]
              exact ⟨k, hk, rfl, rfl⟩
        obtain ⟨i', i1, i2, i3⟩ := hp i hi
        obtain ⟨j', j1, j2, j3⟩ := hp j hj
        rw [i2] at hi0 ⊢
        rw [j2]
        refine h7 i' j' i1 j1 ?_ hi0
        rw [i3, j3]
        split <;> split <;> (try split) <;> (try split) <;> omega
      · unfold rotR
        rw [if_pos hj]
        exact h8 (j + 1) (by omega)
    obtain ⟨M1, q, p1, p2, p3, p4, p5, p6, p7⟩ := c_push hrot (by omega)
    refine ⟨M1, fun k => if k = 5 then q else rotR R k, ?_, p2, fun k hk => ?_, rfl, rfl, p3, p5.trans ?_, fun r hr hr5 => (p6 r hr hr5).trans ?_, fun o ho ho2 => (p7 o ho ho2).trans ?_⟩
    · unfold f_X2_record
      rw [if_pos (show M.1 5 76 1 = (6 : Int32) from h.2.1), e1, Option.bind_some, p1]
    · have hk : k < 5 := hk
      show (if k = 5 then q else rotR R k) = R (k + 1)
      rw [if_neg (by omega)]
      unfold rotR
      rw [if_pos hk]
    · funext o
      exact (rp_ne _ _ (by omega)).trans (rp_ne _ _ (by omega))
    · funext o
      exact (rp_ne _ _ (by omega)).trans (rp_ne _ _ (by omega))
    · exact (rp_ne _ _ (by omega)).trans (rp_ne _ _ (by omega))
  · have hn : n < 6 := by
      have := h.1
      omega
    have hd : drp n = 0 := if_neg h6
    rw [hd, Nat.sub_zero]
    obtain ⟨M1, q, p1, p2, p3, p4, p5, p6, p7⟩ := c_push h hn
    have en : (if n = n then q else R n) = q := if_pos rfl
    refine ⟨M1, fun k => if k = n then q else R k, ?_, p2, fun k hk => if_neg (by omega), if_neg (by omega), if_neg (by omega), ?_, ?_, fun r hr hr5 => p6 r (fun z => hr ?_) hr5, p7⟩
    · unfold f_X2_record
      rw [if_neg (show ¬ M.1 5 76 1 = (6 : Int32) from ?_), p1]
      rw [h.2.1]
      exact fun z => h6 ((nI_eq (b := 6) (by omega) (by omega)).mp z)
    · dsimp only
      rw [en]
      exact p3
    · dsimp only
      rw [en]
      exact p5
    · dsimp only
      rw [en]
      exact z
