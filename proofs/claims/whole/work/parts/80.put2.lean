/-! put and wipe -/
theorem char_nI : ∀ c, c < 127 → vp_nar .char (((nI c).toUInt32 % 65536).toInt32) = nI c := by decide +kernel
def tx8 (u : UInt64) (L K m : Nat) (f : Nat → Int32) : Nat → Int32 := fun j => if L ≤ j ∧ j < L + m then nI (cd8 u (K - 1 - (j - L))) else f j
theorem tx8_0 {u : UInt64} {L K : Nat} {f : Nat → Int32} : tx8 u L K 0 f = f := by
  funext j
  exact if_neg (by omega)
theorem tx8_s {u : UInt64} {L K m : Nat} {f : Nat → Int32} : us (tx8 u L K m f) (L + m) (nI (cd8 u (K - 1 - m))) = tx8 u L K (m + 1) f := by
  funext j
  by_cases h : j = L + m
  · subst h
    rw [us_eq]
    unfold tx8
    rw [if_pos (by omega), Nat.add_sub_cancel_left]
  · rw [us_ne _ _ h]
    unfold tx8
    by_cases h2 : L ≤ j ∧ j < L + m
    · rw [if_pos h2, if_pos (by omega)]
    · rw [if_neg h2, if_neg (by omega)]
theorem good8_at {u : UInt64} {k : Nat} (h : good8 u k = true) : 33 ≤ cd8 u k ∧ cd8 u k ≤ 126 := of_decide_eq_true h
theorem lt60_nI {a : Nat} (h : a < 2 ^ 31) : ((60 : Int32) < nI a) = (60 < a) := propext ⟨fun z => (nI_ltI (a := 60) (by omega) h).mp z, fun z => nI_lt (a := 60) z h⟩
theorem q_put {T : Nat} (x : Int64) : callOK T T (f_X6_put x) (f_X7_put x) := by
  intro M hRel
  obtain ⟨K, k1, k2, k3⟩ := stop8 x.toUInt64
  have hC := fun M M' => (count8 k1 k2 k3 M M').1
  have hM := fun M M' => (count8 k1 k2 k3 M M').2
  have hRel' := hRel
  obtain ⟨n, R, h1, h2, h3, h4, h5, h6, ⟨L, p1, p2, p3, p4⟩⟩ := hRel'
  by_cases h0 : x.toUInt64.toNat >>> (8 * K) = 0 ∧ K ≠ 0
  · have hKne : ¬ nI K = (0 : Int32) := fun z => h0.2 ((nI_eq (b := 0) (by omega) (by omega)).mp z)
    by_cases h60 : 60 < L + K
    · refine ⟨-4, M, M, ?_, ?_, hRel⟩
      · unfold f_X6_put f_X3_append
        rw [hC M M, if_pos h0.1, Option.bind_some, if_neg hKne, p2, nI_add, if_pos (by rw [lt60_nI (by omega)]; exact h60)]
        rfl
      · unfold f_X7_put
        rw [hM M M, if_pos h0.1, Option.bind_some, if_neg hKne, p3, nI_add, if_pos (by rw [lt60_nI (by omega)]; exact h60)]
    · have hcl := xlp_for (body := f_X3_append_l31 x) (q := (nI (L + K), rp (rp M 5 81 (tx8 x.toUInt64 L K K (M.1 5 81))) 5 80 (us (M.1 5 80) 1 (nI (L + K))))) (f := fun m => (if m < K then nI (K - 1 - m) else -1, rp (rp M 5 81 (tx8 x.toUInt64 L K m (M.1 5 81))) 5 80 (us (M.1 5 80) 1 (nI (L + m))))) K 4000 (by omega) (fun m hm => ?_) ?_
      · have e0 : us (M.1 5 80) 1 (nI (L + 0)) = M.1 5 80 := by
          funext j
          by_cases h : j = 1
          · subst h
            rw [us_eq, p2]
            rfl
          · rw [us_ne _ _ h]
        rw [tx8_0, rp_self, e0, rp_self, if_pos (by omega)] at hcl
        have hml := xlp_for (body := f_X7_put_l29 x (nI K)) (q := (nI (L + K), xd_up (rp (rp (rp M 5 81 (tx8 x.toUInt64 L K K (M.1 5 81))) 5 80 (us (M.1 5 80) 1 (nI (L + K)))) 6 3 (tx8 x.toUInt64 L K K (M.1 6 3))) 6 0 4 (nI (L + K)))) (f := fun m => (nI m, rp (rp (rp M 5 81 (tx8 x.toUInt64 L K K (M.1 5 81))) 5 80 (us (M.1 5 80) 1 (nI (L + K)))) 6 3 (tx8 x.toUInt64 L K m (M.1 6 3)))) K 4000 (by omega) (fun m hm => ?_) ?_
        · generalize hN : rp (rp M 5 81 (tx8 x.toUInt64 L K K (M.1 5 81))) 5 80 (us (M.1 5 80) 1 (nI (L + K))) = N at hcl hml
          have n6 : N.1 6 = M.1 6 := by
            rw [← hN]
            funext o
            rw [rp_ne _ _ (by omega), rp_ne _ _ (by omega)]
          have nr : ∀ r, r ≠ 5 → N.1 r = M.1 r := fun r hr => by
            rw [← hN]
            funext o
            rw [rp_ne _ _ (by omega), rp_ne _ _ (by omega)]
          have n5 : ∀ o, o ≠ 80 → o ≠ 81 → N.1 5 o = M.1 5 o := fun o a1 a2 => by
            rw [← hN, rp_ne _ _ (by omega), rp_ne _ _ (by omega)]
          have n80 : N.1 5 80 1 = nI (L + K) := by
            rw [← hN, rp_get, us_eq]
          have n81 : N.1 5 81 = tx8 x.toUInt64 L K K (M.1 5 81) := by
            rw [← hN, rp_ne _ _ (by omega), rp_get]
          rw [tx8_0, ← n6, rp_self] at hml
          refine ⟨nI (L + K), N, xd_up (rp N 6 3 (tx8 x.toUInt64 L K K (N.1 6 3))) 6 0 4 (nI (L + K)), ?_, ?_, n, R, h1.congr ?_ ?_ ?_ ?_, ?_, fun k hk => ?_, fun j hj => ?_, fun k hk hk0 => ?_, ?_, L + K, by omega, ?_, ?_, fun i hi => ?_⟩
          · unfold f_X6_put f_X3_append
            have e1 : nI K - (1 : Int32) = nI (K - 1) := sub_nI (a := K) (b := 1) (by omega)
            rw [hC M M, if_pos h0.1, Option.bind_some, if_neg hKne, p2, nI_add, if_neg (by rw [lt60_nI (by omega)]; exact h60), e1]
            have hcl : xlp (f_X3_append_l31 x) 4000 (nI (K - 1), M) = _ := hcl
            rw [hcl]
            rfl
          · unfold f_X7_put
            rw [hM M N, if_pos h0.1, Option.bind_some, if_neg hKne, n6, p3, nI_add, if_neg (by rw [lt60_nI (by omega)]; exact h60), ← n6]
            exact hml
          · rw [xu_ne _ _ _ (by omega), rp_ne _ _ (by omega), n5 76 (by omega) (by omega)]
          · rw [xu_ne _ _ _ (by omega), rp_ne _ _ (by omega), n5 77 (by omega) (by omega)]
          · rw [xu_ne _ _ _ (by omega), rp_ne _ _ (by omega), n5 78 (by omega) (by omega)]
          · rw [← hN]
            rfl
          · rw [up_rp, rp_get, us_ne _ _ (by omega), rp_ne _ _ (by omega), n6]
            exact h2
          · rw [xu_ne _ _ _ (by omega), rp_ne _ _ (by omega), n6]
            exact h3 k hk
          · have := h1.big (j := j) (by have := h1.1; omega) (h1.2.2.2.2.2.2.2 j hj)
            have reg : (xd_up (rp N 6 3 (tx8 x.toUInt64 L K K (N.1 6 3))) 6 0 4 (nI (L + K))).1 (R j) = M.1 (R j) := by
              rw [← nr (R j) (by omega)]
              funext o
              rw [xu_ne _ _ _ (by omega), rp_ne _ _ (by omega)]
            rw [reg, xu_ne _ _ _ (by omega), rp_ne _ _ (by omega), n6]
            exact h4 j hj
          · have := h1.big (j := 6 + k) (by omega) hk0
            have reg : (xd_up (rp N 6 3 (tx8 x.toUInt64 L K K (N.1 6 3))) 6 0 4 (nI (L + K))).1 (R (6 + k)) = M.1 (R (6 + k)) := by
              rw [← nr (R (6 + k)) (by omega)]
              funext o
              rw [xu_ne _ _ _ (by omega), rp_ne _ _ (by omega)]
            rw [reg, xu_ne _ _ _ (by omega), rp_ne _ _ (by omega), n6]
            exact h5 k hk hk0
          · have reg : (xd_up (rp N 6 3 (tx8 x.toUInt64 L K K (N.1 6 3))) 6 0 4 (nI (L + K))).1 2 = M.1 2 := by
              rw [← nr 2 (by omega)]
              funext o
              rw [xu_ne _ _ _ (by omega), rp_ne _ _ (by omega)]
            rw [reg, xu_ne _ _ _ (by omega), rp_ne _ _ (by omega), n6]
            exact h6
          · rw [xu_ne _ _ _ (by omega), rp_ne _ _ (by omega)]
            exact n80
          · exact xu_eq _ _ _ _ _
          · rw [xu_ne _ _ _ (by omega), rp_ne _ _ (by omega), xu_ne _ _ _ (by omega), rp_get, n81, n6]
            unfold tx8
            by_cases hi2 : L ≤ i ∧ i < L + K
            · have hg := good8_at (k2 (K - 1 - (i - L)) (by omega))
              exact ⟨cd8 x.toUInt64 (K - 1 - (i - L)), hg.1, hg.2, if_pos hi2, if_pos hi2⟩
            · rw [if_neg hi2, if_neg hi2]
              exact p4 i (by omega)
        · have e4 : (rp (rp (rp M 5 81 (tx8 x.toUInt64 L K K (M.1 5 81))) 5 80 (us (M.1 5 80) 1 (nI (L + K)))) 6 3 (tx8 x.toUInt64 L K m (M.1 6 3))).1 6 0 4 = nI L := by
            rw [rp_ne _ _ (by omega), rp_ne _ _ (by omega), rp_ne _ _ (by omega)]
            exact p3
          have es : nI K - (1 : Int32) - nI m = nI (K - 1 - m) := by
            have e1 : nI K - (1 : Int32) = nI (K - 1) := sub_nI (a := K) (b := 1) (by omega)
            rw [e1, sub_nI (by omega)]
          unfold f_X7_put_l29
          dsimp only
          rw [if_pos (nI_lt hm (by omega)), e4, nI_add, if_pos (in_nI (by omega) (by omega)), cl_nI (by omega), es, code8 (by omega), up_rp, rp_get, rp_rp, tx8_s, aI_1]
        · have e4 : (rp (rp (rp M 5 81 (tx8 x.toUInt64 L K K (M.1 5 81))) 5 80 (us (M.1 5 80) 1 (nI (L + K)))) 6 3 (tx8 x.toUInt64 L K K (M.1 6 3))).1 6 0 4 = nI L := by
            rw [rp_ne _ _ (by omega), rp_ne _ _ (by omega), rp_ne _ _ (by omega)]
            exact p3
          unfold f_X7_put_l29
          dsimp only
          rw [if_neg (nI_nlt (Nat.le_refl K) (by omega)), e4, nI_add, xu_eq]
          rfl
      · have e80 : (rp (rp M 5 81 (tx8 x.toUInt64 L K m (M.1 5 81))) 5 80 (us (M.1 5 80) 1 (nI (L + m)))).1 5 80 1 = nI (L + m) := by
          rw [rp_get, us_eq]
        have e81 : (rp (rp M 5 81 (tx8 x.toUInt64 L K m (M.1 5 81))) 5 80 (us (M.1 5 80) 1 (nI (L + m)))).1 5 81 = tx8 x.toUInt64 L K m (M.1 5 81) := by
          rw [rp_ne _ _ (by omega), rp_get]
        have hg := good8_at (k2 (K - 1 - m) (by omega))
        have en : nI (K - 1 - m) + (-1 : Int32) = if m + 1 < K then nI (K - 1 - (m + 1)) else -1 := by
          by_cases h : m + 1 < K
          · rw [if_pos h, show K - 1 - m = (K - 1 - (m + 1)) + 1 by omega]
            exact dec_nI
          · rw [if_neg h, show K - 1 - m = 0 by omega]
            rfl
        have ec : rp (rp (rp M 5 81 (tx8 x.toUInt64 L K m (M.1 5 81))) 5 80 (us (M.1 5 80) 1 (nI (L + m)))) 5 81 (tx8 x.toUInt64 L K (m + 1) (M.1 5 81)) = rp (rp M 5 81 (tx8 x.toUInt64 L K (m + 1) (M.1 5 81))) 5 80 (us (M.1 5 80) 1 (nI (L + m))) := by
          refine Prod.ext ?_ rfl
          funext r o
          show (if r = 5 ∧ o = 81 then _ else if r = 5 ∧ o = 80 then _ else if r = 5 ∧ o = 81 then _ else M.1 r o) = (if r = 5 ∧ o = 80 then _ else if r = 5 ∧ o = 81 then _ else M.1 r o)
          by_cases a : r = 5 ∧ o = 81
          · rw [if_pos a, if_neg (by omega), if_pos a]
          · rw [if_neg a, if_neg a, if_neg a]
        have eu : us (us (M.1 5 80) 1 (nI (L + m))) 1 (nI (L + (m + 1))) = us (M.1 5 80) 1 (nI (L + (m + 1))) := by
          funext j
          by_cases h : j = 1
          · subst h
            rw [us_eq, us_eq]
          · rw [us_ne _ _ h, us_ne _ _ h, us_ne _ _ h]
        unfold f_X3_append_l31
        dsimp only
        rw [if_pos hm, if_neg (nI_pos (by omega)), c_codeAt (by omega), Option.bind_some, e80, if_pos (in_nI (by omega) (by omega)), cl_nI (by omega), char_nI _ (by omega), up_rp _ 5 81, e81, tx8_s, ec, up_rp, rp_get, us_eq, rp_rp, aI_1, Nat.add_assoc, eu, en]
      · unfold f_X3_append_l31
        dsimp only
        rw [if_neg (Nat.lt_irrefl K), if_pos (by decide), rp_get, us_eq]
        rfl
  · have hz : (if x.toUInt64.toNat >>> (8 * K) = 0 then nI K else 0) = (0 : Int32) := by
      by_cases a : x.toUInt64.toNat >>> (8 * K) = 0
      · rw [if_pos a]
        have : K = 0 := by
          by_cases b : K = 0
          · exact b
          · exact absurd ⟨a, b⟩ h0
        rw [this]
        rfl
      · rw [if_neg a]
    refine ⟨-2, M, M, ?_, ?_, hRel⟩
    · unfold f_X6_put f_X3_append
      rw [hC M M, hz]
      rfl
    · unfold f_X7_put
      rw [hM M M, hz]
      rfl
theorem q_wipe {T : Nat} : callOK T T (f_X6_wipe) (f_X7_wipe) := by
  intro M hRel
  obtain ⟨n, R, h1, h2, h3, h4, h5, h6, ⟨L, p1, p2, p3, p4⟩⟩ := hRel
  have reg : ∀ r, r ≠ 5 → r ≠ 6 → (xd_up (xd_up M 5 80 1 0) 6 0 4 0).1 r = M.1 r := fun r a b => by
    funext o
    rw [xu_ne _ _ _ (by omega), xu_ne _ _ _ (by omega)]
  have e4 : (xd_up M 5 80 1 0).1 6 0 4 = nI L := by
    rw [xu_ne _ _ _ (by omega)]
    exact p3
  refine ⟨nI L, xd_up M 5 80 1 0, xd_up (xd_up M 5 80 1 0) 6 0 4 0, ?_, ?_, n, R, h1.congr ?_ ?_ ?_ rfl, ?_, fun k hk => ?_, fun j hj => ?_, fun k hk hk0 => ?_, ?_, 0, by omega, ?_, ?_, fun i hi => by omega⟩
  · unfold f_X6_wipe f_X3_clear
    rw [p2]
    rfl
  · unfold f_X7_wipe
    rw [e4]
  · rw [xu_ne _ _ _ (by omega), xu_ne _ _ _ (by omega)]
  · rw [xu_ne _ _ _ (by omega), xu_ne _ _ _ (by omega)]
  · rw [xu_ne _ _ _ (by omega), xu_ne _ _ _ (by omega)]
  · rw [up_rp, rp_get, us_ne _ _ (by omega), xu_ne _ _ _ (by omega)]
    exact h2
  · rw [xu_ne _ _ _ (by omega), xu_ne _ _ _ (by omega)]
    exact h3 k hk
  · have := h1.big (j := j) (by have := h1.1; omega) (h1.2.2.2.2.2.2.2 j hj)
    rw [reg _ (by omega) (by omega), xu_ne _ _ _ (by omega), xu_ne _ _ _ (by omega)]
    exact h4 j hj
  · have := h1.big (j := 6 + k) (by omega) hk0
    rw [reg _ (by omega) (by omega), xu_ne _ _ _ (by omega), xu_ne _ _ _ (by omega)]
    exact h5 k hk hk0
  · rw [reg _ (by omega) (by omega), xu_ne _ _ _ (by omega), xu_ne _ _ _ (by omega)]
    exact h6
  · rw [xu_ne _ _ _ (by omega), xu_eq]
    rfl
  · rw [xu_eq]
    rfl
