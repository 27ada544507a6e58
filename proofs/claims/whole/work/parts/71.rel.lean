/-! both sides together -/
def padR (M : xM) : Prop := ∃ L, L ≤ 60 ∧ M.1 5 80 1 = nI L ∧ M.1 6 0 4 = nI L ∧ ∀ i, i < L → ∃ c, 33 ≤ c ∧ c ≤ 126 ∧ M.1 5 81 i = nI c ∧ M.1 6 3 i = nI c
def Rel (T : Nat) (M : xM) : Prop := ∃ n R, hC M n R ∧ M.1 6 0 1 = nI n ∧ (∀ k, k < 2 → M.1 6 2 k = bI (decide (R (6 + k) ≠ 0))) ∧ (∀ j, j < n → gS 9999 T (M.1 (R j)) (M.1 6 1) (354 * (j + 1))) ∧ (∀ k, k < 2 → R (6 + k) ≠ 0 → gS 9999 T (M.1 (R (6 + k))) (M.1 6 1) (354 * (7 + k))) ∧ gS 9999 T (M.1 2) (M.1 6 1) 0 ∧ padR M
theorem hC.congr {M N : xM} {n : Nat} {R : Nat → Nat} (h : hC M n R) (e1 : N.1 5 76 = M.1 5 76) (e2 : N.1 5 77 = M.1 5 77) (e3 : N.1 5 78 = M.1 5 78) (e4 : N.2 = M.2) : hC N n R := by
  obtain ⟨h1, h2, h3, h4, h5, h6, h7, h8⟩ := h
  refine ⟨h1, ?_, ?_, ?_, ?_, ?_, h7, h8⟩
  · rw [e1]
    exact h2
  · rw [e2]
    exact h3
  · rw [e3]
    exact h4
  · rw [e4]
    exact h5
  · rw [e4]
    exact h6
theorem padR.congr {M N : xM} (h : padR M) (e1 : N.1 5 80 = M.1 5 80) (e2 : N.1 5 81 = M.1 5 81) (e3 : N.1 6 0 4 = M.1 6 0 4) (e4 : N.1 6 3 = M.1 6 3) : padR N := by
  obtain ⟨L, h1, h2, h3, h4⟩ := h
  refine ⟨L, h1, ?_, ?_, fun i hi => ?_⟩
  · rw [e1]
    exact h2
  · rw [e3]
    exact h3
  · rw [e2, e4]
    exact h4 i hi
theorem hC.big {M : xM} {n : Nat} {R : Nat → Nat} (h : hC M n R) {j : Nat} (hj : j < 8) (h0 : R j ≠ 0) : 7 ≤ R j := ((h.2.2.2.2.2.1 j hj).resolve_left h0).1
theorem Rel.mono {T T' : Nat} {M : xM} (h : Rel T M) (e : T ≤ T') : Rel T' M := by
  obtain ⟨n, R, h1, h2, h3, h4, h5, h6, h7⟩ := h
  exact ⟨n, R, h1, h2, h3, fun j hj => (h4 j hj).mono e, fun k hk h0 => (h5 k hk h0).mono e, h6.mono e, h7⟩
/-- only the regions 3 and 4, and the places 79 and 5 to 9 of numbers, may differ -/
theorem Rel.congr {T : Nat} {M N : xM} (h : Rel T M) (e2 : N.2 = M.2) (er : ∀ r, r = 2 ∨ 7 ≤ r → N.1 r = M.1 r) (e5 : ∀ o, o ≠ 79 → N.1 5 o = M.1 5 o) (e6 : N.1 6 1 = M.1 6 1) (e62 : N.1 6 2 = M.1 6 2) (e63 : N.1 6 3 = M.1 6 3) (e61 : N.1 6 0 1 = M.1 6 0 1) (e64 : N.1 6 0 4 = M.1 6 0 4) : Rel T N := by
  obtain ⟨n, R, h1, h2, h3, h4, h5, h6, h7⟩ := h
  refine ⟨n, R, h1.congr (e5 76 (by omega)) (e5 77 (by omega)) (e5 78 (by omega)) e2, by rw [e61]; exact h2, fun k hk => by rw [e62]; exact h3 k hk, fun j hj => ?_, fun k hk h0 => ?_, ?_, h7.congr (e5 80 (by omega)) (e5 81 (by omega)) e64 e63⟩
  · have := h1.1
    rw [e6, er _ (Or.inr (h1.big (by omega) (h1.2.2.2.2.2.2.2 j hj)))]
    exact h4 j hj
  · rw [e6, er _ (Or.inr (h1.big (by omega) h0))]
    exact h5 k hk h0
  · rw [e6, er 2 (Or.inl rfl)]
    exact h6
theorem cp_to (M : xM) (a b : Nat) : (xe_cp a b M).1 a = M.1 b := by
  funext o j
  exact if_pos rfl
theorem cp_ne (M : xM) {a b r : Nat} (h : r ≠ a) : (xe_cp a b M).1 r = M.1 r := by
  funext o j
  exact if_neg h
theorem cp_2 (M : xM) (a b : Nat) : (xe_cp a b M).2 = M.2 := rfl
theorem sp_ne (M : xM) (s : Nat → Int32) {r o : Nat} (h : ¬ (r = 6 ∧ o = 1)) : (sp M s).1 r o = M.1 r o := if_neg h
theorem sp_reg (M : xM) (s : Nat → Int32) {r : Nat} (h : r ≠ 6) : (sp M s).1 r = M.1 r := by
  funext o
  exact sp_ne M s (fun z => h z.1)
/-- what is recorded, with the state of now as it is behind the change; the state before it in region 3 -/
theorem rec_both {T T' : Nat} {M M1 : xM} {n : Nat} {R R' : Nat → Nat} {τ : Nat → Nat → Int32} {ans : Int32} {F : xM → Option (Int32 × xM)} (hT : T ≤ T') (h1 : hC M n R) (h2 : M.1 6 0 1 = nI n) (h3 : ∀ k, k < 2 → M.1 6 2 k = bI (decide (R (6 + k) ≠ 0))) (h4 : ∀ j, j < n → gS 9999 T (M.1 (R j)) (M.1 6 1) (354 * (j + 1))) (h5 : ∀ k, k < 2 → R (6 + k) ≠ 0 → gS 9999 T (M.1 (R (6 + k))) (M.1 6 1) (354 * (7 + k))) (h6 : gS 9999 T (M.1 3) (M.1 6 1) 0) (h7 : padR M) (hτ : M.1 2 = τ)
    (c1 : hC M1 (n - drp n + 1) R') (c2 : ∀ k, k < n - drp n → R' k = R (k + drp n)) (c3 : R' 6 = R 6) (c4 : R' 7 = R 7) (c5 : 7 ≤ R' (n - drp n)) (c6 : M1.1 (R' (n - drp n)) = M.1 3) (c7 : ∀ r, r ≠ R' (n - drp n) → r ≠ 5 → M1.1 r = M.1 r) (c8 : ∀ o, o ≠ 76 → o ≠ 77 → M1.1 5 o = M.1 5 o)
    (hF : ∀ M'' : xM, mAg (M1.1 6 1) (M''.1 6 1) 0 → (∀ j, 2478 ≤ j → M''.1 6 1 j = M1.1 6 1 j) → ∃ t, F M'' = some (ans, sp M'' t) ∧ gS 9999 T' τ t 0 ∧ mFr (M''.1 6 1) t 0) : ∃ M2, (f_X7_changes M1).bind F = some (ans, M2) ∧ Rel T' M2 := by
  have hn := h1.1
  have hdn : n - drp n ≤ 5 := by
    unfold drp
    split <;> omega
  have hdn2 : n - drp n + drp n = n := by
    unfold drp
    split <;> omega
  have r6 : M1.1 6 = M.1 6 := c7 6 (by omega) (by omega)
  have hch := m_changes (n := n) (M := M1) hn (by rw [r6]; exact h2)
  have es : M1.1 6 1 = M.1 6 1 := by rw [r6]
  obtain ⟨t, t1, t2, t3⟩ := hF (sp (xd_up M1 6 0 1 (nI (n - drp n + 1))) (chR (M1.1 6 1) n)) (fun j _ hj => by rw [sp_get]; exact chR_0 (by omega)) (fun j hj => by rw [sp_get]; exact chR_far hn hj)
  rw [sp_sp] at t1
  rw [sp_get] at t3
  refine ⟨sp (xd_up M1 6 0 1 (nI (n - drp n + 1))) t, ?_, n - drp n + 1, R', ?_, ?_, fun k hk => ?_, fun j hj => ?_, fun k hk h0 => ?_, ?_, ?_⟩
  · rw [hch, Option.bind_some, t1]
  · refine c1.congr ?_ ?_ ?_ rfl
    · rw [sp_ne _ _ (by omega), xu_ne _ _ _ (by omega)]
    · rw [sp_ne _ _ (by omega), xu_ne _ _ _ (by omega)]
    · rw [sp_ne _ _ (by omega), xu_ne _ _ _ (by omega)]
  · rw [sp_ne _ _ (by omega), xu_eq]
  · rw [sp_ne _ _ (by omega), xu_ne _ _ _ (by omega), r6, h3 k hk]
    have : R' (6 + k) = R (6 + k) := by
      rcases (by omega : k = 0 ∨ k = 1) with rfl | rfl
      · exact c3
      · exact c4
    rw [this]
  · have reg : ∀ r, r ≠ 6 → (sp (xd_up M1 6 0 1 (nI (n - drp n + 1))) t).1 r = M1.1 r := by
      intro r hr
      rw [sp_reg _ _ hr]
      funext o
      exact xu_ne _ _ _ (by omega)
    have hb := c1.big (j := j) (by omega) (c1.2.2.2.2.2.2.2 j hj)
    rw [reg _ (by omega), sp_get]
    by_cases e : j = n - drp n
    · rw [e, c6]
      refine ((h6.mono hT).shift (b' := 354 * (n - drp n + 1)) (fun i hi => ?_))
      rw [t3 _ (by omega), chR_new hi, es, Nat.zero_add]
    · have hj2 : j < n - drp n := by omega
      rw [c7 _ (fun z => c1.2.2.2.2.2.2.1 j (n - drp n) (by omega) (by omega) e (c1.2.2.2.2.2.2.2 j hj) z) (by omega), c2 j hj2]
      refine (((h4 (j + drp n) (by omega)).mono hT).shift (fun i hi => ?_))
      rw [t3 _ (by omega), chR_old hn hj2 hi, es]
  · have eR : R' (6 + k) = R (6 + k) := by
      rcases (by omega : k = 0 ∨ k = 1) with rfl | rfl
      · exact c3
      · exact c4
    have hb := c1.big (j := 6 + k) (by omega) h0
    have reg : (sp (xd_up M1 6 0 1 (nI (n - drp n + 1))) t).1 (R' (6 + k)) = M1.1 (R' (6 + k)) := by
      rw [sp_reg _ _ (by omega)]
      funext o
      exact xu_ne _ _ _ (by omega)
    rw [reg, sp_get, c7 _ (fun z => c1.2.2.2.2.2.2.1 (6 + k) (n - drp n) (by omega) (by omega) (by omega) h0 z) (by omega), eR]
    refine (((h5 k hk (by rw [← eR]; exact h0)).mono hT).shift (fun i hi => ?_))
    rw [t3 _ (by omega), chR_far hn (by omega), es]
  · have reg : (sp (xd_up M1 6 0 1 (nI (n - drp n + 1))) t).1 2 = τ := by
      rw [sp_reg _ _ (by omega), ← hτ, ← c7 2 (by omega) (by omega)]
      funext o
      exact xu_ne _ _ _ (by omega)
    rw [reg, sp_get]
    exact t2
  · refine h7.congr ?_ ?_ ?_ ?_
    · rw [sp_ne _ _ (by omega), xu_ne _ _ _ (by omega)]
      exact c8 80 (by omega) (by omega)
    · rw [sp_ne _ _ (by omega), xu_ne _ _ _ (by omega)]
      exact c8 81 (by omega) (by omega)
    · rw [sp_ne _ _ (by omega), up_rp, rp_get, us_ne _ _ (by omega), r6]
    · rw [sp_ne _ _ (by omega), xu_ne _ _ _ (by omega), r6]
theorem recorded_neg {e : Int32} {M : xM} (h : e < 0) : f_X6_recorded e M = some (e, M) := if_pos h
theorem recorded_pos {e : Int32} {M M1 : xM} (h : ¬ e < 0) (h1 : f_X2_record 3 M = some M1) : f_X6_recorded e M = some (e, M1) := by
  unfold f_X6_recorded
  rw [if_neg h, h1]
  rfl
theorem ch_call {T T' : Nat} {C G F6 : xM → Option (Int32 × xM)} (hch : chOK 9999 T T' C G) (hT : T ≤ T') (hF : ∀ M, F6 M = (C (xe_cp 3 2 M)).bind (fun q1 => (f_X6_recorded q1.1 q1.2).bind (fun q3 => some ((q3.1, q3.2))))) (M : xM) (h : Rel T M) : ∃ ans M1 M2, F6 M = some (ans, M1) ∧ G M1 = some (ans, M2) ∧ Rel T' M2 := by
  have hN : Rel T (xe_cp 3 2 M) := h.congr rfl (fun r hr => cp_ne M (by omega)) (fun o _ => by rw [cp_ne M (by omega)]) (by rw [cp_ne M (by omega)]) (by rw [cp_ne M (by omega)]) (by rw [cp_ne M (by omega)]) (by rw [cp_ne M (by omega)]) (by rw [cp_ne M (by omega)])
  have e3 : (xe_cp 3 2 M).1 3 = (xe_cp 3 2 M).1 2 := by
    rw [cp_to, cp_ne M (by omega)]
  rw [hF]
  generalize xe_cp 3 2 M = N at hN e3 ⊢
  obtain ⟨n, R, h1, h2, h3, h4, h5, h6, h7⟩ := hN
  rcases hch N N h6 with ⟨e, e1, e2, e4⟩ | ⟨ans, τ, e1, e2, -⟩
  · refine ⟨e, N, N, ?_, e4, Rel.mono ⟨n, R, h1, h2, h3, h4, h5, h6, h7⟩ hT⟩
    rw [e2, Option.bind_some, recorded_neg e1]
    rfl
  · have p6 : (put N 2 τ).1 6 = N.1 6 := put_ne _ _ (by omega)
    have p5 : (put N 2 τ).1 5 = N.1 5 := put_ne _ _ (by omega)
    have p3 : (put N 2 τ).1 3 = N.1 3 := put_ne _ _ (by omega)
    have hP : hC (put N 2 τ) n R := h1.congr (by rw [p5]) (by rw [p5]) (by rw [p5]) rfl
    obtain ⟨M1, R', r1, c1, c2, c3, c4, c5, c6, c7, c8⟩ := c_record hP
    have r6 : M1.1 6 = N.1 6 := (c7 6 (by have := c1.R_lt (j := n - drp n) (by have := h1.1; unfold drp; split <;> omega); omega) (by omega)).trans p6
    rcases hch N M1 (by rw [r6]; exact h6) with ⟨e, g1, g2, -⟩ | ⟨ans', τ', g1, g2, F, g3, g4⟩
    · rw [e2] at g2
      have : ans = e := congrArg Prod.fst (Option.some.inj g2)
      rw [this] at e1
      exact absurd g1 e1
    · rw [e2] at g2
      have q1 : ans = ans' := congrArg Prod.fst (Option.some.inj g2)
      have q2 : put N 2 τ = put N 2 τ' := congrArg Prod.snd (Option.some.inj g2)
      have q3 : τ = τ' := by
        have := congrArg (fun Q : xM => Q.1 2) q2
        rw [put_get, put_get] at this
        exact this
      subst q1 q3
      have big : ∀ j, j < n → (put N 2 τ).1 (R j) = N.1 (R j) := fun j hj => put_ne _ _ (by
        have := h1.1
        have := h1.big (j := j) (by omega) (h1.2.2.2.2.2.2.2 j hj)
        omega)
      obtain ⟨M2, m1, m2⟩ := rec_both (T := T) (T' := T') (M := put N 2 τ) (τ := τ) (ans := ans) (F := F) hT hP (by rw [p6]; exact h2) (by rw [p6]; exact h3) (fun j hj => by rw [p6, big j hj]; exact h4 j hj) (fun k hk h0 => by
        have := h1.big (j := 6 + k) (by omega) h0
        rw [p6, put_ne _ _ (by omega)]
        exact h5 k hk h0) (by rw [p3, p6, e3]; exact h6) (h7.congr (by rw [p5]) (by rw [p5]) (by rw [p6]) (by rw [p6])) (put_get _ _ _) c1 c2 c3 c4 c5 c6 c7 c8 (fun M'' a _ => g4 M'' a)
      refine ⟨ans, M1, M2, ?_, ?_, m2⟩
      · rw [e2, Option.bind_some, recorded_pos e1 r1]
        rfl
      · rw [g3, m1]
