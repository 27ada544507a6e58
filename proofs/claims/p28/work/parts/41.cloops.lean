/-! the class's loops -/
theorem xlp_acc {ρ : Type} {body : Int32 × Int32 → Option ((Int32 × Int32) ⊕ ρ)} {q : ρ} (K : Nat) (hK : K < 4000) (g : Nat → Int32 → Int32) (ac : Nat → Int32) (h0 : ac 0 = 0) (hs : ∀ k, ac (k + 1) = g k (ac k)) (hb : ∀ p, p < K → ∀ n, body (n, nI p) = some (.inl (g p n, nI p + 1))) (he : body (ac K, nI K) = some (.inr q)) : xlp body 4000 (0, 0) = some q := by
  have := xlp_for (body := body) (q := q) (f := fun k => (ac k, nI k)) K 4000 hK (fun k hk => by rw [hb k hk, up_1 k, hs]) he
  rw [h0] at this
  exact this
theorem c_countPeople {r o : Nat} {M : xM} : f_X6_countPeople r o M = some (nI (cnt (fun p => !decide (M.1 r o p = -6)) 20)) := by
  unfold f_X6_countPeople
  refine xlp_cnt (fun p => !decide (M.1 r o p = -6)) (fun p hp n => ?_) rfl
  unfold f_X6_countPeople_l4
  simp only [show (20 : Int32) = nI 20 from rfl, lt_nI hp (by omega), in_nI hp (by omega), cl_nI (show p < 2 ^ 31 by omega), if_true]
  by_cases h : M.1 r o p = -6
  · rw [if_pos h, decide_eq_true h]
    rfl
  · rw [if_neg h, decide_eq_false h]
    rfl
theorem c_countWaiting {r sh : Nat} {M : xM} (hs : sh < 3) : f_X4_countWaiting r (nI sh) M = some (nI (cnt (fun p => !decide (M.1 r (7 + sh) p = -6)) 20)) := by
  unfold f_X4_countWaiting
  rw [if_pos (in_nI hs (by omega)), cl_nI (by omega), c_countPeople]
  rfl
/-- all columns below k changed -/
def pm (σ F : Nat → Nat → Int32) (k : Nat) : Nat → Nat → Int32 := fun o j => if j < k then F o j else σ o j
theorem pm_0 (σ F : Nat → Nat → Int32) : pm σ F 0 = σ := by
  funext o j
  exact if_neg (by omega)
theorem pm_at (σ F : Nat → Nat → Int32) (o k : Nat) : pm σ F k o k = σ o k := if_neg (by omega)
theorem pm_same {σ F : Nat → Nat → Int32} {k o j : Nat} (h : F o j = σ o j) : pm σ F k o j = σ o j := by
  unfold pm
  split
  · exact h
  · rfl
theorem pm_next (σ F τ : Nat → Nat → Int32) (k : Nat) (h1 : ∀ o, τ o k = F o k) (h2 : ∀ o j, j ≠ k → τ o j = pm σ F k o j) : τ = pm σ F (k + 1) := by
  funext o j
  by_cases hj : j = k
  · subst hj
    rw [h1]
    exact (if_pos (by omega)).symm
  · rw [h2 o j hj]
    unfold pm
    by_cases h : j < k
    · rw [if_pos h, if_pos (by omega)]
    · rw [if_neg h, if_neg (by omega)]
theorem ud_col (σ : Nat → Nat → Int32) (o j : Nat) (v : Int32) {o' j' : Nat} (h : j' ≠ j) : ud σ o j v o' j' = σ o' j' := if_neg (fun z => h z.2)
theorem c_end {r p : Nat} {M : xM} (hp : p < 20) : f_X4_end r (nI p) M = some (put M r (ud (ud (M.1 r) 4 p (-6)) 5 p (-6))) := by
  unfold f_X4_end
  rw [if_pos (in_nI hp (by omega)), if_pos (in_nI hp (by omega)), cl_nI (by omega), up_put, up_put, put_get, put_put]
theorem xlp_pm {ρ : Type} {r : Nat} {M : xM} {body : Int32 × xM → Option ((Int32 × xM) ⊕ ρ)} {q : ρ} (F : Nat → Nat → Int32) (hb : ∀ k, k < 20 → body (nI k, put M r (pm (M.1 r) F k)) = some (.inl (nI (k + 1), put M r (pm (M.1 r) F (k + 1))))) (he : body (nI 20, put M r (pm (M.1 r) F 20)) = some (.inr q)) : xlp body 4000 (0, M) = some q := by
  have := xlp_for (body := body) (q := q) (f := fun k => (nI k, put M r (pm (M.1 r) F k))) 20 4000 (by omega) hb he
  rw [pm_0, put_self] at this
  exact this
theorem st_put {ρ : Type} {r k : Nat} {M : xM} {τ τ' : Nat → Nat → Int32} (h : τ = τ') : (some (.inl (nI k, put M r τ)) : Option ((Int32 × xM) ⊕ ρ)) = some (.inl (nI k, put M r τ')) := by rw [h]
def zEnd (d : Int32) (σ : Nat → Nat → Int32) (o j : Nat) : Int32 := if (o = 4 ∨ o = 5) ∧ rg 3 (σ 4 j) = true ∧ σ 5 j < d then -6 else σ o j
theorem c_endBefore {r : Nat} {d : Int32} {M : xM} : f_X4_endBefore r d M = some (put M r (pm (M.1 r) (zEnd d (M.1 r)) 20)) := by
  unfold f_X4_endBefore
  refine xlp_pm (zEnd d (M.1 r)) (fun k hk => ?_) rfl
  unfold f_X4_endBefore_l2
  simp only [show (20 : Int32) = nI 20 from rfl, lt_nI hk (by omega), in_nI hk (by omega), cl_nI (show k < 2 ^ 31 by omega), if_true, c_hasPermit hk, c_end hk, put_get, put_put, pm_at, Option.bind_some, ite_bI, up_1]
  by_cases h1 : rg 3 (M.1 r 4 k) = true
  · rw [if_pos h1]
    by_cases h2 : M.1 r 5 k < d
    · rw [if_pos h2]
      refine st_put (pm_next _ _ _ k (fun o => ?_) (fun o j hj => ?_))
      · unfold zEnd ud
        by_cases h5 : o = 5
        · rw [if_pos ⟨h5, rfl⟩, if_pos ⟨Or.inr h5, h1, h2⟩]
        · rw [if_neg (fun z => h5 z.1)]
          by_cases h4 : o = 4
          · rw [if_pos ⟨h4, rfl⟩, if_pos ⟨Or.inl h4, h1, h2⟩]
          · rw [if_neg (fun z => h4 z.1), if_neg (fun z => by rcases z.1 with z | z; exact h4 z; exact h5 z), pm_at]
      · rw [ud_col _ _ _ _ hj, ud_col _ _ _ _ hj]
    · rw [if_neg h2]
      refine st_put (pm_next _ _ _ k (fun o => ?_) (fun o j hj => rfl))
      rw [pm_at]
      exact (if_neg (fun z => h2 z.2.2)).symm
  · rw [if_neg h1]
    refine st_put (pm_next _ _ _ k (fun o => ?_) (fun o j hj => rfl))
    rw [pm_at]
    exact (if_neg (fun z => h1 z.2.1)).symm
def zSell (ld : Int32) (σ : Nat → Nat → Int32) (o j : Nat) : Int32 := if ¬ σ 23 j = -6 ∧ ¬ ld < σ 23 j then (if o = 23 then -6 else if o = 24 then σ 24 j + 1 else σ o j) else σ o j
theorem c_sell {r : Nat} {ld : Int32} {M : xM} : f_X0_sellFromPound r ld M = some (put M r (pm (M.1 r) (zSell ld (M.1 r)) 20)) := by
  unfold f_X0_sellFromPound
  refine xlp_pm (zSell ld (M.1 r)) (fun k hk => ?_) rfl
  unfold f_X0_sellFromPound_l2
  simp only [show (20 : Int32) = nI 20 from rfl, lt_nI hk (by omega), in_nI hk (by omega), cl_nI (show k < 2 ^ 31 by omega), if_true, c_isInPound hk, put_get, put_put, pm_at, Option.bind_some, ite_bI, up_1, up_put]
  by_cases h1 : M.1 r 23 k = -6
  · rw [decide_eq_true h1, if_neg (by decide)]
    refine st_put (pm_next _ _ _ k (fun o => ?_) (fun o j hj => rfl))
    rw [pm_at]
    exact (if_neg (fun z => z.1 h1)).symm
  · rw [decide_eq_false h1, if_pos (by decide)]
    by_cases h2 : ld < M.1 r 23 k
    · rw [if_pos h2]
      refine st_put (pm_next _ _ _ k (fun o => ?_) (fun o j hj => rfl))
      rw [pm_at]
      exact (if_neg (fun z => z.2 h2)).symm
    · rw [if_neg h2]
      refine st_put (pm_next _ _ _ k (fun o => ?_) (fun o j hj => ?_))
      · unfold zSell
        rw [if_pos ⟨h1, h2⟩]
        by_cases h24 : o = 24
        · subst h24
          rw [ud_eq, ud_ne _ _ (fun z => by cases z.1), pm_at]
          rfl
        · rw [ud_ne _ _ (fun z => h24 z.1)]
          by_cases h23 : o = 23
          · subst h23
            rw [ud_eq]
            rfl
          · rw [ud_ne _ _ (fun z => h23 z.1), pm_at, if_neg h23, if_neg h24]
      · rw [ud_col _ _ _ _ hj, ud_col _ _ _ _ hj]
theorem c_leaveRack {r p : Nat} {M : xM} (hp : p < 20) : f_X0_leaveRack r (nI p) M = some (put M r (ud (ud (ud (ud (M.1 r) 19 p (-6)) 20 p (-6)) 21 p (-6)) 22 p (-6))) := by
  unfold f_X0_leaveRack
  simp only [in_nI hp (by omega), if_true, cl_nI (show p < 2 ^ 31 by omega), up_put, put_get, put_put]
def zDue (sh lt : Int32) (σ : Nat → Nat → Int32) (j : Nat) : Bool := decide (σ 19 j = sh) && (!decide (σ 22 j = -6) && !decide (lt < σ 22 j))
def zTake (sh lt d : Int32) (σ : Nat → Nat → Int32) (o j : Nat) : Int32 := if zDue sh lt σ j = true then (if o = 23 then d else if o = 19 ∨ o = 20 ∨ o = 21 ∨ o = 22 then -6 else σ o j) else σ o j
theorem c_takeTagged {r : Nat} {sh lt d : Int32} {M : xM} : f_X0_takeTagged r sh lt d M = some (nI (cnt (zDue sh lt (M.1 r)) 20), put M r (ud (pm (M.1 r) (zTake sh lt d (M.1 r)) 20) 18 6 (M.1 r 18 6 + nI (cnt (zDue sh lt (M.1 r)) 20)))) := by
  unfold f_X0_takeTagged
  have := xlp_for (body := f_X0_takeTagged_l6 r sh lt d) (q := (nI (cnt (zDue sh lt (M.1 r)) 20), put M r (ud (pm (M.1 r) (zTake sh lt d (M.1 r)) 20) 18 6 (M.1 r 18 6 + nI (cnt (zDue sh lt (M.1 r)) 20))))) (f := fun k => (nI (cnt (zDue sh lt (M.1 r)) k), nI k, put M r (pm (M.1 r) (zTake sh lt d (M.1 r)) k))) 20 4000 (by omega) (fun k hk => ?_) ?_
  · rw [pm_0, put_self] at this
    exact this
  · unfold f_X0_takeTagged_l6
    simp only [show (20 : Int32) = nI 20 from rfl, lt_nI hk (by omega), in_nI hk (by omega), cl_nI (show k < 2 ^ 31 by omega), if_true, c_isDue hk, c_leaveRack hk, put_get, put_put, pm_at, Option.bind_some, ite_bI, up_1, up_put]
    have hd : (decide (M.1 r 19 k = sh) && (!decide (M.1 r 22 k = -6) && !decide (lt < M.1 r 22 k))) = zDue sh lt (M.1 r) k := rfl
    rw [hd, cnt_succ]
    cases h : zDue sh lt (M.1 r) k with
    | false =>
      rw [if_neg (by decide), if_neg (by decide)]
      congr 5
      refine pm_next _ _ _ k (fun o => ?_) (fun o j hj => rfl)
      rw [pm_at]
      unfold zTake
      rw [h, if_neg (by decide)]
    | true =>
      rw [if_pos rfl, if_pos rfl]
      congr 5
      refine pm_next _ _ _ k (fun o => ?_) (fun o j hj => ?_)
      · unfold zTake
        rw [h, if_pos rfl]
        by_cases h23 : o = 23
        · subst h23
          rw [ud_eq, if_pos rfl]
        · rw [ud_ne _ _ (fun z => h23 z.1), if_neg h23]
          by_cases h22 : o = 22
          · subst h22
            rw [ud_eq, if_pos (by omega)]
          · rw [ud_ne _ _ (fun z => h22 z.1)]
            by_cases h21 : o = 21
            · subst h21
              rw [ud_eq, if_pos (by omega)]
            · rw [ud_ne _ _ (fun z => h21 z.1)]
              by_cases h20 : o = 20
              · subst h20
                rw [ud_eq, if_pos (by omega)]
              · rw [ud_ne _ _ (fun z => h20 z.1)]
                by_cases h19 : o = 19
                · subst h19
                  rw [ud_eq, if_pos (by omega)]
                · rw [ud_ne _ _ (fun z => h19 z.1), if_neg (by omega), pm_at]
      · rw [ud_col _ _ _ _ hj, ud_col _ _ _ _ hj, ud_col _ _ _ _ hj, ud_col _ _ _ _ hj, ud_col _ _ _ _ hj]
  · unfold f_X0_takeTagged_l6
    have e : pm (M.1 r) (zTake sh lt d (M.1 r)) 20 18 6 = M.1 r 18 6 := pm_same (by
      unfold zTake
      split
      · rw [if_neg (by omega), if_neg (by omega)]
      · rfl)
    simp only [put_get, up_put, put_put, e]
    rfl
def zAb (σ : Nat → Nat → Int32) (j : Nat) : Bool := !decide (σ 0 4 - σ 21 j < σ 1 1) || !decide (σ 4 j = σ 19 j)
def zTag (sh : Int32) (σ : Nat → Nat → Int32) (o j : Nat) : Int32 := if o = 22 ∧ σ 19 j = sh ∧ σ 22 j = -6 ∧ zAb σ j = true then σ 0 4 else σ o j
def zSweep (sh : Int32) (σ : Nat → Nat → Int32) : Nat → Nat → Int32 := pm σ (zTag sh σ) 20
theorem c_sweepShed {r sh : Nat} {M : xM} (hs : sh < 3) : f_X5_sweepShed r (nI sh) M = f_X0_takeTagged r (nI sh) (M.1 r 0 4 + 0 - M.1 r 1 2) (M.1 r 0 4) (put M r (zSweep (nI sh) (M.1 r))) := by
  unfold f_X5_sweepShed
  rw [c_isShed, rg_nI hs (by omega)]
  simp only [Option.bind_some, ite_bI, if_true]
  rw [c_takeTagged]
  have e : ∀ o j, o ≠ 22 → ∀ k, pm (M.1 r) (zTag (nI sh) (M.1 r)) k o j = M.1 r o j := fun o j h k => pm_same (if_neg (fun z => h z.1))
  refine xlp_pm (r := r) (zTag (nI sh) (M.1 r)) (fun k hk => ?_) ?_
  · unfold f_X5_sweepShed_l11
    simp only [show (20 : Int32) = nI 20 from rfl, lt_nI hk (by omega), in_nI hk (by omega), cl_nI (show k < 2 ^ 31 by omega), if_true, c_isTagged hk, c_looksAbandoned hk, put_get, put_put, pm_at, Option.bind_some, ite_bI, up_1, up_put, e 0 4 (by omega), e 1 1 (by omega)]
    have hd : (!decide (M.1 r 0 4 - M.1 r 21 k < M.1 r 1 1) || !decide (M.1 r 4 k = M.1 r 19 k)) = zAb (M.1 r) k := rfl
    rw [hd]
    have no : ¬ (M.1 r 19 k = nI sh ∧ M.1 r 22 k = -6 ∧ zAb (M.1 r) k = true) → (some (.inl (nI (k + 1), put M r (pm (M.1 r) (zTag (nI sh) (M.1 r)) k))) : Option ((Int32 × xM) ⊕ (Int32 × xM))) = some (.inl (nI (k + 1), put M r (pm (M.1 r) (zTag (nI sh) (M.1 r)) (k + 1)))) := by
      intro h
      refine st_put (pm_next _ _ _ k (fun o => ?_) (fun o j hj => rfl))
      rw [pm_at]
      exact (if_neg (fun z => h z.2)).symm
    by_cases h1 : M.1 r 19 k = nI sh
    · rw [if_pos h1]
      by_cases h2 : M.1 r 22 k = -6
      · rw [decide_eq_true h2, if_neg (by decide)]
        by_cases h3 : zAb (M.1 r) k = true
        · rw [if_pos h3]
          refine st_put (pm_next _ _ _ k (fun o => ?_) (fun o j hj => ?_))
          · unfold zTag
            by_cases h22 : o = 22
            · subst h22
              rw [ud_eq, if_pos ⟨rfl, h1, h2, h3⟩]
            · rw [ud_ne _ _ (fun z => h22 z.1), if_neg (fun z => h22 z.1), pm_at]
          · rw [ud_col _ _ _ _ hj]
        · rw [if_neg h3]
          exact no (fun z => h3 z.2.2)
      · rw [decide_eq_false h2, if_pos (by decide)]
        exact no (fun z => h2 z.2.1)
    · rw [if_neg h1]
      exact no (fun z => h1 z.1)
  · unfold f_X5_sweepShed_l11
    rw [if_neg (show ¬ nI 20 < 20 by decide)]
    unfold f_X5_latestDueTag
    simp only [put_get, Option.bind_some, e 0 4 (by omega), e 1 2 (by omega), c_takeTagged, put_put, Option.map_some]
    unfold zSweep
    rfl
