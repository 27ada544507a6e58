/-! the class's loops -/
theorem xlp_acc {ρ : Type} {body : Int32 × Int32 → Option ((Int32 × Int32) ⊕ ρ)} {q : ρ} (K : Nat) (hK : K < 4000) (g : Nat → Int32 → Int32) (ac : Nat → Int32) (h0 : ac 0 = 0) (hs : ∀ k, ac (k + 1) = g k (ac k)) (hb : ∀ p, p < K → ∀ n, body (n, nI p) = some (.inl (g p n, nI p + 1))) (he : body (ac K, nI K) = some (.inr q)) : xlp body 4000 (0, 0) = some q := by
  have := xlp_for (body := body) (q := q) (f := fun k => (ac k, nI k)) K 4000 hK (fun k hk => by rw [hb k hk, up_1 k, hs]) he
  rw [h0] at this
  exact this
theorem c_countPeople {r o : Nat} {M : xM} : f_X6_countPeople r o M = some (nI (cnt (fun p => !decide (M.1 r o p = -6)) 20)) := by
  unfold f_X6_countPeople
  refine xlp_cnt (fun p => !decide (M.1 r o p = -6)) (fun p hp n => ?_) rfl
  unfold f_X6_countPeople_l4
  simp only [show (20 : Int32) = nI 20 from rfl, lt_nI hp (by omega), in_nI hp (by omega), cl_nI (show p < 2 ^ 31 by omega), if_true]
  by_cases h : M.1 r o p = -6
  · rw [if_pos h, decide_eq_true h]
    rfl
  · rw [if_neg h, decide_eq_false h]
    rfl
theorem c_countWaiting {r sh : Nat} {M : xM} (hs : sh < 3) : f_X4_countWaiting r (nI sh) M = some (nI (cnt (fun p => !decide (M.1 r (7 + sh) p = -6)) 20)) := by
  unfold f_X4_countWaiting
  rw [if_pos (in_nI hs (by omega)), cl_nI (by omega), c_countPeople]
  rfl
/-- all columns below k changed -/
def pm (σ F : Nat → Nat → Int32) (k : Nat) : Nat → Nat → Int32 := fun o j => if j < k then F o j else σ o j
theorem pm_0 (σ F : Nat → Nat → Int32) : pm σ F 0 = σ := by
  funext o j
  exact if_neg (by omega)
theorem pm_at (σ F : Nat → Nat → Int32) (o k : Nat) : pm σ F k o k = σ o k := if_neg (by omega)
theorem pm_same {σ F : Nat → Nat → Int32} {k o j : Nat} (h : F o j = σ o j) : pm σ F k o j = σ o j := by
  unfold pm
  split
  · exact h
  · rfl
theorem pm_next (σ F τ : Nat → Nat → Int32) (k : Nat) (h1 : ∀ o, τ o k = F o k) (h2 : ∀ o j, j ≠ k → τ o j = pm σ F k o j) : τ = pm σ F (k + 1) := by
  funext o j
  by_cases hj : j = k
  · subst hj
    rw [h1]
    exact (if_pos (by omega)).symm
  · rw [h2 o j hj]
    unfold pm
    by_cases h : j < k
    · rw [if_pos h, if_pos (by omega)]
    · rw [if_neg h, if_neg (by omega)]
theorem ud_col (σ : Nat → Nat → Int32) (o j : Nat) (v : Int32) {o' j' : Nat} (h : j' ≠ j) : ud σ o j v o' j' = σ o' j' := if_neg (fun z => h z.2)
theorem c_end {r p : Nat} {M : xM} (hp : p < 20) : f_X4_end r (nI p) M = some (put M r (ud (ud (M.1 r) 4 p (-6)) 5 p (-6))) := by
  unfold f_X4_end
  rw [if_pos (in_nI hp (by omega)), if_pos (in_nI hp (by omega)), cl_nI (by omega), up_put, up_put, put_get, put_put]
theorem xlp_pm {ρ : Type} {r : Nat} {M : xM} {body : Int32 × xM → Option ((Int32 × xM) ⊕ ρ)} {q : ρ} (F : Nat → Nat → Int32) (hb : ∀ k, k < 20 → body (nI k, put M r (pm (M.1 r) F k)) = some (.inl (nI (k + 1), put M r (pm (M.1 r) F (k + 1))))) (he : body (nI 20, put M r (pm (M.1 r) F 20)) = some (.inr q)) : xlp body 4000 (0, M) = some q := by
  have := xlp_for (body := body) (q := q) (f := fun k => (nI k, put M r (pm (M.1 r) F k))) 20 4000 (by omega) hb he
  rw [pm_0, put_self] at this
  exact this
theorem st_put {ρ : Type} {r k : Nat} {M : xM} {τ τ' : Nat → Nat → Int32} (h : τ = τ') : (some (.inl (nI k, put M r τ)) : Option ((Int32 × xM) ⊕ ρ)) = some (.inl (nI k, put M r τ')) := by rw [h]
def zEnd (d : Int32) (σ : Nat → Nat → Int32) (o j : Nat) : Int32 := if (o = 4 ∨ o = 5) ∧ rg 3 (σ 4 j) = true ∧ σ 5 j < d then -6 else σ o j
theorem c_endBefore {r : Nat} {d : Int32} {M : xM} : f_X4_endBefore r d M = some (put M r (pm (M.1 r) (zEnd d (M.1 r)) 20)) := by
  unfold f_X4_endBefore
  refine xlp_pm (zEnd d (M.1 r)) (fun k hk => ?_) rfl
  unfold f_X4_endBefore_l2
  simp only [show (20 : Int32) = nI 20 from rfl, lt_nI hk (by omega), in_nI hk (by omega), cl_nI (show k < 2 ^ 31 by omega), if_true, c_hasPermit hk, c_end hk, put_get, put_put, pm_at, Option.bind_some, ite_bI, up_1]
  by_cases h1 : rg 3 (M.1 r 4 k) = true
  · rw [if_pos h1]
    by_cases h2 : M.1 r 5 k < d
    · rw [if_pos h2]
      refine st_put (pm_next _ _ _ k (fun o => ?_) (fun o j hj => ?_))
      · unfold zEnd ud
        by_cases h5 : o = 5
        · rw [if_pos ⟨h5, rfl⟩, if_pos ⟨Or.inr h5, h1, h2⟩]
        · rw [if_neg (fun z => h5 z.1)]
          by_cases h4 : o = 4
          · rw [if_pos ⟨h4, rfl⟩, if_pos ⟨Or.inl h4, h1, h2⟩]
          · rw [if_neg (fun z => h4 z.1), if_neg (fun z => by rcases z.1 with z | z; exact h4 z; exact h5 z), pm_at]
      · rw [ud_col _ _ _ _ hj, ud_col _ _ _ _ hj]
    · rw [if_neg h2]
      refine st_put (pm_next _ _ _ k (fun o => ?_) (fun o j hj => rfl))
      rw [pm_at]
      exact (if_neg (fun z => h2 z.2.2)).symm
  · rw [if_neg h1]
    refine st_put (pm_next _ _ _ k (fun o => ?_) (fun o j hj => rfl))
    rw [pm_at]
    exact (if_neg (fun z => h1 z.2.1)).symm
