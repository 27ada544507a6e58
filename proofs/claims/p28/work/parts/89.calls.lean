/-! the class as a whole: the state of now, the history, the second slot -/
def Cl (M : xM) (σ : Nat → Nat → Int32) (n : Nat) (h : Nat → Nat → Nat → Int32) (sl : Option (Nat → Nat → Int32)) : Prop := ∃ R, hC M n R ∧ M.1 2 = σ ∧ (∀ j, j < n → M.1 (R j) = h j) ∧ ∀ s, sl = some s → R 7 ≠ 0 ∧ M.1 (R 7) = s
/-- the history with one state more -/
def psh (h : Nat → Nat → Nat → Int32) (n : Nat) (σ : Nat → Nat → Int32) : Nat → Nat → Nat → Int32 := fun j => if j = n - drp n then σ else h (j + drp n)
def nx (n : Nat) : Nat := n - drp n + 1
theorem Cl.now {M : xM} {σ : Nat → Nat → Int32} {n : Nat} {h : Nat → Nat → Nat → Int32} {sl : Option (Nat → Nat → Int32)} (c : Cl M σ n h sl) : M.1 2 = σ := by
  obtain ⟨R, -, h2, -⟩ := c
  exact h2
theorem Cl.le {M : xM} {σ : Nat → Nat → Int32} {n : Nat} {h : Nat → Nat → Nat → Int32} {sl : Option (Nat → Nat → Int32)} (c : Cl M σ n h sl) : n ≤ 6 := by
  obtain ⟨R, h1, -⟩ := c
  exact h1.1
theorem Cl.len {M : xM} {σ : Nat → Nat → Int32} {n : Nat} {h : Nat → Nat → Nat → Int32} {sl : Option (Nat → Nat → Int32)} (c : Cl M σ n h sl) : f_X6_count (14 : Int32) M = some (nI n) := by
  obtain ⟨R, h1, -⟩ := c
  exact c_count14 h1.2.1
theorem Cl.put4 {M : xM} {σ τ : Nat → Nat → Int32} {n : Nat} {h : Nat → Nat → Nat → Int32} {sl : Option (Nat → Nat → Int32)} (c : Cl M σ n h sl) : Cl (put M 4 τ) σ n h sl := by
  obtain ⟨R, h1, h2, h3, h4⟩ := c
  have hn := h1.1
  refine ⟨R, h1.congr (by rw [put_ne _ _ (by omega)]) (by rw [put_ne _ _ (by omega)]) (by rw [put_ne _ _ (by omega)]) rfl, (put_ne _ _ (by omega)).trans h2, fun j hj => ?_, fun s hs => ?_⟩
  · have := h1.big (j := j) (by omega) (h1.2.2.2.2.2.2.2 j hj)
    rw [put_ne _ _ (by omega)]
    exact h3 j hj
  · obtain ⟨a, b⟩ := h4 s hs
    have := h1.big (j := 7) (by omega) a
    rw [put_ne _ _ (by omega)]
    exact ⟨a, b⟩
theorem Cl.forget {M : xM} {σ : Nat → Nat → Int32} {n : Nat} {h : Nat → Nat → Nat → Int32} {sl : Option (Nat → Nat → Int32)} (c : Cl M σ n h sl) : Cl M σ n h none := by
  obtain ⟨R, h1, h2, h3, h4⟩ := c
  exact ⟨R, h1, h2, h3, fun s hs => by cases hs⟩
/-- region 3 holds the state before, region 2 a new one; it is recorded -/
theorem rec_cl {P : xM} {σ τ : Nat → Nat → Int32} {n : Nat} {R : Nat → Nat} {h : Nat → Nat → Nat → Int32} {sl : Option (Nat → Nat → Int32)} (hP : hC P n R) (p3 : P.1 3 = σ) (p2 : P.1 2 = τ) (hh : ∀ j, j < n → P.1 (R j) = h j) (hs : ∀ s, sl = some s → R 7 ≠ 0 ∧ P.1 (R 7) = s) : ∃ M1, f_X2_record 3 P = some M1 ∧ Cl M1 τ (nx n) (psh h n σ) sl := by
  obtain ⟨M1, R', r1, c1, c2, c3, c4, c5, c6, c7, c8⟩ := c_record hP
  have hn := hP.1
  have hd : n - drp n + drp n = n := by
    unfold drp
    split <;> omega
  refine ⟨M1, r1, R', c1, (c7 2 (by omega) (by omega)).trans p2, fun j hj => ?_, fun s hsl => ?_⟩
  · have hj' : j < n - drp n + 1 := hj
    unfold psh
    by_cases e : j = n - drp n
    · rw [if_pos e, e, c6, p3]
    · rw [if_neg e]
      have hRj := c1.2.2.2.2.2.2.2 j hj'
      have hb := c1.big (j := j) (by have := c1.1; omega) hRj
      rw [c7 _ (fun z => c1.2.2.2.2.2.2.1 j (n - drp n) (by have := c1.1; omega) (by have := c1.1; omega) e hRj z) (by omega), c2 j (by omega)]
      exact hh _ (by omega)
  · obtain ⟨a, b⟩ := hs s hsl
    have hb := hP.big (j := 7) (by omega) a
    refine ⟨by rw [c4]; exact a, ?_⟩
    rw [c7 _ (fun z => c1.2.2.2.2.2.2.1 7 (n - drp n) (by omega) (by have := c1.1; omega) (by have := c1.1; omega) (by rw [c4]; exact a) z) (by rw [c4]; omega), c4]
    exact b
theorem Cl.cp3 {M : xM} {σ : Nat → Nat → Int32} {n : Nat} {h : Nat → Nat → Nat → Int32} {sl : Option (Nat → Nat → Int32)} (c : Cl M σ n h sl) : Cl (xe_cp 3 2 M) σ n h sl ∧ (xe_cp 3 2 M).1 3 = σ := by
  obtain ⟨R, h1, h2, h3, h4⟩ := c
  have hn := h1.1
  refine ⟨⟨R, h1.congr (by rw [cp_ne _ (by omega)]) (by rw [cp_ne _ (by omega)]) (by rw [cp_ne _ (by omega)]) rfl, (cp_ne _ (by omega)).trans h2, fun j hj => ?_, fun s hs => ?_⟩, (cp_to M 3 2).trans h2⟩
  · have := h1.big (j := j) (by omega) (h1.2.2.2.2.2.2.2 j hj)
    rw [cp_ne _ (by omega)]
    exact h3 j hj
  · obtain ⟨a, b⟩ := h4 s hs
    have := h1.big (j := 7) (by omega) a
    rw [cp_ne _ (by omega)]
    exact ⟨a, b⟩
theorem call_yes {C : Nat → xM → Option (Int32 × xM)} {F6 : xM → Option (Int32 × xM)} {M : xM} {σ τ : Nat → Nat → Int32} {n : Nat} {h : Nat → Nat → Nat → Int32} {sl : Option (Nat → Nat → Int32)} {ans : Int32} (hF : ∀ M, F6 M = (C 2 (xe_cp 3 2 M)).bind (fun q1 => (f_X6_recorded q1.1 q1.2).bind (fun q3 => some ((q3.1, q3.2))))) (c : Cl M σ n h sl) (ha : ¬ ans < 0) (hC' : ∀ r M, M.1 r = σ → C r M = some (ans, put M r τ)) : ∃ M', F6 M = some (ans, M') ∧ Cl M' τ (nx n) (psh h n σ) sl := by
  obtain ⟨c', e3⟩ := c.cp3
  rw [hF]
  generalize xe_cp 3 2 M = N at c' e3 ⊢
  obtain ⟨R, h1, h2, h3, h4⟩ := c'
  have hn := h1.1
  have hP : hC (put N 2 τ) n R := h1.congr (by rw [put_ne _ _ (by omega)]) (by rw [put_ne _ _ (by omega)]) (by rw [put_ne _ _ (by omega)]) rfl
  obtain ⟨M1, r1, r2⟩ := rec_cl (σ := σ) (τ := τ) (h := h) (sl := sl) hP ((put_ne _ _ (by omega)).trans e3) (put_get _ _ _) (fun j hj => by
    have := h1.big (j := j) (by omega) (h1.2.2.2.2.2.2.2 j hj)
    rw [put_ne _ _ (by omega)]
    exact h3 j hj) (fun s hs => by
    obtain ⟨a, b⟩ := h4 s hs
    have := h1.big (j := 7) (by omega) a
    rw [put_ne _ _ (by omega)]
    exact ⟨a, b⟩)
  refine ⟨M1, ?_, r2⟩
  rw [hC' 2 N h2, Option.bind_some, recorded_pos ha r1]
  rfl
theorem call_no {C : Nat → xM → Option (Int32 × xM)} {F6 : xM → Option (Int32 × xM)} {M : xM} {σ : Nat → Nat → Int32} {n : Nat} {h : Nat → Nat → Nat → Int32} {sl : Option (Nat → Nat → Int32)} {e : Int32} (hF : ∀ M, F6 M = (C 2 (xe_cp 3 2 M)).bind (fun q1 => (f_X6_recorded q1.1 q1.2).bind (fun q3 => some ((q3.1, q3.2))))) (c : Cl M σ n h sl) (he : e < 0) (hC' : ∀ r M, M.1 r = σ → C r M = some (e, M)) : ∃ M', F6 M = some (e, M') ∧ Cl M' σ n h sl := by
  obtain ⟨c', e3⟩ := c.cp3
  refine ⟨xe_cp 3 2 M, ?_, c'⟩
  rw [hF, hC' 2 _ c'.now, Option.bind_some, recorded_neg he]
  rfl
theorem cl_undo {M : xM} {σ : Nat → Nat → Int32} {m : Nat} {h : Nat → Nat → Nat → Int32} {sl : Option (Nat → Nat → Int32)} (c : Cl M σ (m + 1) h sl) : ∃ M', f_X6_undo M = some (nI m, M') ∧ Cl M' (h m) m h sl := by
  obtain ⟨R, h1, h2, h3, h4⟩ := c
  have hn := h1.1
  have hne : ¬ nI (m + 1) = (0 : Int32) := fun z => by
    have := (nI_eq (b := 0) (by omega) (by omega)).mp z
    omega
  have hRm := h1.2.2.2.2.2.2.2 m (by omega)
  have hRlt := h1.R_lt (j := m) (by omega)
  have hb := h1.big (j := m) (by omega) hRm
  have es : nI (m + 1) - (1 : Int32) = nI m := sub_nI (a := m + 1) (b := 1) (by omega)
  have e5 : ∀ o, (xe_cp 2 (R m) M).1 5 o = M.1 5 o := fun o => by rw [cp_ne M (by omega)]
  have c : f_X6_undo M = some (nI m, xd_up (xe_cp 2 (R m) M) 5 76 1 (nI m)) := by
    unfold f_X6_undo f_X2_takeBack
    rw [h1.2.1, if_neg hne, es, if_pos (in_nI (by omega) (by omega)), cl_nI (by omega), h1.2.2.1 m (by omega), cl_nI (by omega)]
    have hnl : xd_nul (20, R m, 0) = false := by
      show (20 == 20 && R m == 0) = false
      rw [beq_eq_false_iff_ne.mpr hRm, Bool.and_false]
    rw [hnl, if_neg (by decide), if_pos (by rw [bne_iff_ne]; exact hRm), nar_1, e5, h1.2.1, es]
    rw [Option.bind_some]
    dsimp only
    rw [if_neg (by decide), xu_eq]
  refine ⟨_, c, R, ⟨by omega, xu_eq _ _ _ _ _, fun j hj => ?_, fun k hk => ?_, h1.2.2.2.2.1, h1.2.2.2.2.2.1, h1.2.2.2.2.2.2.1, fun j hj => h1.2.2.2.2.2.2.2 j (by omega)⟩, ?_, fun j hj => ?_, fun s hs => ?_⟩
  · rw [xu_ne _ _ _ (by omega), e5]
    exact h1.2.2.1 j hj
  · rw [xu_ne _ _ _ (by omega), e5]
    exact h1.2.2.2.1 k hk
  · rw [← h3 m (by omega), ← cp_to M 2 (R m)]
    funext o
    exact xu_ne _ _ _ (by omega)
  · have := h1.big (j := j) (by omega) (h1.2.2.2.2.2.2.2 j (by omega))
    rw [← h3 j (by omega), ← cp_ne M (a := 2) (b := R m) (show R j ≠ 2 by omega)]
    funext o
    exact xu_ne _ _ _ (by omega)
  · obtain ⟨a, b⟩ := h4 s hs
    have := h1.big (j := 7) (by omega) a
    refine ⟨a, ?_⟩
    rw [← b, ← cp_ne M (a := 2) (b := R m) (show R 7 ≠ 2 by omega)]
    funext o
    exact xu_ne _ _ _ (by omega)
theorem cl_save {M : xM} {σ : Nat → Nat → Int32} {n : Nat} {h : Nat → Nat → Nat → Int32} {sl : Option (Nat → Nat → Int32)} (c : Cl M σ n h sl) : ∃ M', f_X6_save 1 M = some (σ 0 4, M') ∧ Cl M' σ n h (some σ) := by
  obtain ⟨R, h1, h2, h3, h4⟩ := c
  have hn := h1.1
  obtain ⟨M1, q, c, c1, c2, c3, c4, c5, c6⟩ := c_slot (k := 1) h1 (by omega)
  have r2 : M1.1 2 = σ := (c5 2 (by omega) (by omega)).trans h2
  have c : f_X6_save 1 M = some (M1.1 2 0 4, M1) := c
  rw [r2] at c
  refine ⟨M1, c, _, c1, r2, fun j hj => ?_, fun s hs => ?_⟩
  · have := h1.big (j := j) (by omega) (h1.2.2.2.2.2.2.2 j hj)
    rw [if_neg (by omega), c5 _ (c3 j (by omega) (by omega)) (by omega)]
    exact h3 j hj
  · cases hs
    rw [if_pos rfl]
    exact ⟨by omega, c4.trans h2⟩
theorem cl_restore {M : xM} {σ s : Nat → Nat → Int32} {n d : Nat} {h : Nat → Nat → Nat → Int32} (c : Cl M σ n h (some s)) (hd : s 0 4 = nI d) (hd2 : d < 2 ^ 31) : ∃ M', f_X6_restore 1 M = some (nI d, M') ∧ Cl M' s (nx n) (psh h n σ) (some s) := by
  obtain ⟨R, h1, h2, h3, h4⟩ := c
  have hn := h1.1
  obtain ⟨h0, hsl⟩ := h4 s rfl
  have hb := h1.big (j := 7) (by omega) h0
  have hR15 := h1.R_lt (j := 7) (by omega)
  generalize hP : xe_cp 2 (R 7) (xe_cp 3 2 M) = P
  have p5 : P.1 5 = M.1 5 := by rw [← hP, cp_ne _ (by omega), cp_ne _ (by omega)]
  have p3 : P.1 3 = σ := by rw [← hP, cp_ne _ (by omega), cp_to, h2]
  have p2 : P.1 2 = s := by rw [← hP, cp_to, cp_ne _ (by omega), hsl]
  have pr : ∀ r, 7 ≤ r → P.1 r = M.1 r := fun r hr => by rw [← hP, cp_ne _ (by omega), cp_ne _ (by omega)]
  have hPC : hC P n R := h1.congr (by rw [p5]) (by rw [p5]) (by rw [p5]) (by rw [← hP]; rfl)
  obtain ⟨M1, r1, r2⟩ := rec_cl (σ := σ) (τ := s) (h := h) (sl := some s) hPC p3 p2 (fun j hj => by
    rw [pr _ (h1.big (j := j) (by omega) (h1.2.2.2.2.2.2.2 j hj))]
    exact h3 j hj) (fun s' hs' => by
    cases hs'
    rw [pr _ hb]
    exact ⟨h0, hsl⟩)
  refine ⟨M1, ?_, r2⟩
  have ed : P.1 2 0 4 = nI d := by
    rw [p2]
    exact hd
  unfold f_X6_restore
  have hnl : xd_nul (20, R 7, 0) = false := by
    show (20 == 20 && R 7 == 0) = false
    rw [beq_eq_false_iff_ne.mpr h0, Bool.and_false]
  have e7 : M.1 5 78 (1 : Int32).toNatClampNeg = nI (R 7) := h1.2.2.2.1 1 (by omega)
  have hx : rg 2 1 = true := rg_nI (k := 1) (by omega) (by omega)
  rw [isFrom_01, hx, Option.bind_some, ite_bI, if_pos rfl, if_pos (show xp_in (1 : Int32) 2 = true from in_nI (k := 1) (by omega) (by omega)), e7, cl_nI (by omega), hnl, if_neg (by decide), if_pos (by rw [bne_iff_ne]; exact h0), hP, ed, recorded_pos (nI_pos hd2) r1]
  rfl
/-! every call that changes, over any state that may be -/
def ClS (D T Bg Bt : Nat) (σ : Nat → Nat → Int32) (F6 : xM → Option (Int32 × xM)) : Prop := ∃ ans τ, (ans < 0 → τ = σ) ∧ sZ (D + 6) (T + 99) (Bg + 1000) (Bt + 20) τ ∧ ∀ M n h sl, Cl M σ n h sl → ∃ M', F6 M = some (ans, M') ∧ Cl M' τ (if ans < 0 then n else nx n) (if ans < 0 then h else psh h n σ) sl
theorem ClS.of {D T Bg Bt : Nat} {σ : Nat → Nat → Int32} {C : Nat → xM → Option (Int32 × xM)} {F6 : xM → Option (Int32 × xM)} (hZ : sZ D T Bg Bt σ) (ho : opS D T Bg Bt σ C) (hF : ∀ M, F6 M = (C 2 (xe_cp 3 2 M)).bind (fun q1 => (f_X6_recorded q1.1 q1.2).bind (fun q3 => some ((q3.1, q3.2))))) : ClS D T Bg Bt σ F6 := by
  rcases ho with ⟨e, e1, e2⟩ | ⟨ans, τ, e1, e2, e3⟩
  · refine ⟨e, σ, fun _ => rfl, hZ.mono (by omega) (by omega) (by omega) (by omega), fun M n h sl c => ?_⟩
    rw [if_pos e1, if_pos e1]
    exact call_no hF c e1 e2
  · refine ⟨ans, τ, fun z => absurd z e1, e3, fun M n h sl c => ?_⟩
    rw [if_neg e1, if_neg e1]
    exact call_yes hF c e1 e2
