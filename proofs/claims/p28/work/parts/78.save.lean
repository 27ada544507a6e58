theorem isFrom_01 {x : Int32} {M : xM} : f_X6_isFrom 0 x 1 M = some (bI (rg 2 x)) := by
  rw [c_isFrom, show (1 : Int32) = nI 1 from rfl, rg_le (n := 1) (by omega)]
theorem c_slot {M : xM} {n k : Nat} {R : Nat → Nat} (h : hC M n R) (hk : k < 2) : ∃ M1 q, f_X6_save (nI k) M = some (M1.1 2 0 4, M1) ∧ hC M1 n (fun j => if j = 6 + k then q else R j) ∧ 7 ≤ q ∧ (∀ j, j < 8 → j ≠ 6 + k → R j ≠ q) ∧ M1.1 q = M.1 2 ∧ (∀ r, r ≠ q → r ≠ 5 → M1.1 r = M.1 r) ∧ ∀ o, o ≠ 78 → M1.1 5 o = M.1 5 o := by
  obtain ⟨h1, h2, h3, h4, h5, h6, h7, h8⟩ := h
  have hsz := hC.sz ⟨h1, h2, h3, h4, h5, h6, h7, h8⟩
  have hRn : R (6 + k) < 15 := hC.R_lt ⟨h1, h2, h3, h4, h5, h6, h7, h8⟩ (by omega)
  have key : ∀ (q : Nat) (N : xM), xe_ci (R (6 + k)) 2 M = some (q, N) → 7 ≤ q → q < 100 → N.2 = 7 + cnt (fun j => decide ((if j = 6 + k then q else R j) ≠ 0)) 8 → q < N.2 → M.2 ≤ N.2 → (∀ j, j < 8 → j ≠ 6 + k → R j ≠ q) → N.1 q = M.1 2 → (∀ r, r ≠ q → N.1 r = M.1 r) → ∃ M1 q, f_X6_save (nI k) M = some (M1.1 2 0 4, M1) ∧ hC M1 n (fun j => if j = 6 + k then q else R j) ∧ 7 ≤ q ∧ (∀ j, j < 8 → j ≠ 6 + k → R j ≠ q) ∧ M1.1 q = M.1 2 ∧ (∀ r, r ≠ q → r ≠ 5 → M1.1 r = M.1 r) ∧ ∀ o, o ≠ 78 → M1.1 5 o = M.1 5 o := by
    intro q N hci q7 q100 hN2 hqN hMN hdis hNq hNr
    have e5 : ∀ o, N.1 5 o = M.1 5 o := fun o => by rw [hNr 5 (by omega)]
    refine ⟨rp N 5 78 (us (N.1 5 78) k (nI q)), q, ?_, ⟨h1, ?_, fun j hj => ?_, fun i hi => ?_, ?_, fun j hj => ?_, fun i j hi hj hij hi0 => ?_, fun j hj => ?_⟩, q7, hdis, ?_, fun r hr hr5 => ?_, fun o ho => ?_⟩
    · unfold f_X6_save
      rw [isFrom_01, rg_nI hk (by omega), Option.bind_some, ite_bI, if_pos rfl, if_pos (in_nI hk (by omega)), cl_nI (by omega), h4 k hk, cl_nI (by omega), hci, Option.bind_some, if_pos (in_nI hk (by omega)), up_rp]
      rfl
    · rw [rp_ne _ _ (by omega), e5]
      exact h2
    · rw [rp_ne _ _ (by omega), e5]
      dsimp only
      rw [if_neg (by omega)]
      exact h3 j hj
    · rw [rp_get]
      dsimp only
      by_cases e : i = k
      · subst e
        rw [us_eq, if_pos rfl]
      · rw [us_ne _ _ e, if_neg (by omega), e5]
        exact h4 i hi
    · exact hN2
    · dsimp only
      by_cases e : j = 6 + k
      · rw [if_pos e]
        exact Or.inr ⟨q7, hqN⟩
      · rw [if_neg e]
        rcases h6 j hj with z | z
        · exact Or.inl z
        · exact Or.inr ⟨z.1, Nat.lt_of_lt_of_le z.2 hMN⟩
    · dsimp only at hi0 ⊢
      by_cases e : i = 6 + k
      · rw [if_pos e, if_neg (by omega)]
        exact fun z => hdis j hj (by omega) z.symm
      · rw [if_neg e] at hi0 ⊢
        by_cases e2 : j = 6 + k
        · rw [if_pos e2]
          exact hdis i hi e
        · rw [if_neg e2]
          exact h7 i j hi hj hij hi0
    · dsimp only
      rw [if_neg (by omega)]
      exact h8 j hj
    · rw [← hNq]
      funext o
      exact rp_ne _ _ (by omega)
    · rw [← hNr r hr]
      funext o
      exact rp_ne _ _ (by omega)
    · rw [rp_ne _ _ (by omega), e5]
  by_cases h0 : R (6 + k) = 0
  · refine key M.2 (fun r o j => if r = M.2 then M.1 2 o j else M.1 r o j, M.2 + 1) ?_ (by omega) (by omega) ?_ (Nat.lt_succ_self _) (Nat.le_succ _) (fun j hj hjn => ?_) ?_ (fun r hr => ?_)
    · unfold xe_ci
      rw [if_pos h0, if_pos (by omega)]
    · show M.2 + 1 = _
      have ec := cnt_add (fun j => decide (R j ≠ 0)) (6 + k) (by rw [h0]; rfl) 8
      rw [if_pos (by omega)] at ec
      have : cnt (fun j => decide ((if j = 6 + k then M.2 else R j) ≠ 0)) 8 = cnt (fun j => decide (R j ≠ 0)) 8 + 1 := by
        rw [← ec]
        refine cnt_congr 8 (fun j hj => ?_)
        by_cases e : j = 6 + k
        · subst e
          rw [if_pos rfl, beq_self_eq_true, Bool.or_true]
          exact decide_eq_true (by omega)
        · rw [if_neg e, beq_eq_false_iff_ne.mpr e, Bool.or_false]
      rw [this, h5]
      omega
    · rcases h6 j hj with z | z <;> omega
    · funext o j
      exact if_pos rfl
    · funext o j
      exact if_neg hr
  · have hR7 : 7 ≤ R (6 + k) ∧ R (6 + k) < M.2 := (h6 (6 + k) (by omega)).resolve_left h0
    refine key (R (6 + k)) (xe_cp (R (6 + k)) 2 M) ?_ hR7.1 (by omega) ?_ hR7.2 (Nat.le_refl _) (fun j hj hjn e => ?_) ?_ (fun r hr => ?_)
    · unfold xe_ci
      rw [if_neg h0]
    · show M.2 = _
      rw [h5]
      congr 1
      refine cnt_congr 8 (fun j hj => ?_)
      by_cases e : j = 6 + k
      · rw [if_pos e, e]
      · rw [if_neg e]
    · exact h7 (6 + k) j (by omega) hj (fun z => hjn z.symm) h0 e.symm
    · funext o j
      exact if_pos rfl
    · funext o j
      exact if_neg hr
theorem bI_7 (a : Nat) : (7 : Int32) + nI a = nI (7 + a) := nI_add 7 a
