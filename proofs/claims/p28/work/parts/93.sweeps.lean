/-! how many bicycles a sweep would take, is what is when it is done -/
theorem c_ifSwept {sh b : Nat} {M : xM} (hs : sh < 3) (hb : b ≤ 99) : f_X6_ifSwept (nI sh) (nI b) M = some (nI (cnt (zDue (nI sh) ((M.1 2 0 4 + nI b) - M.1 2 1 2) (M.1 2)) 20)) := by
  unfold f_X6_ifSwept f_X5_latestDueTag
  have hfm : (!decide (nI b < 0) && !decide ((99 : Int32) < nI b)) = true := frm_in (a := 0) (b := 99) (by omega) hb (by omega)
  simp only [c_isShed, rg3_nI hs, c_isFrom, hfm, Option.bind_some, ite_bI, if_true, c_countTagged]
/-- a sweep's own tags are not due -/
theorem zDue_new {σ : Nat → Nat → Int32} {sh d nt p : Nat} (hd : σ 0 4 = nI d) (hd2 : d ≤ 20000) (hn : σ 1 2 = nI nt) (hn1 : 1 ≤ nt) (hn2 : nt ≤ 30) (hp : p < 20) : zDue (nI sh) (σ 0 4 - σ 1 2) (zSweep (nI sh) σ) p = zDue (nI sh) (σ 0 4 - σ 1 2) σ p := by
  rw [zDue_at hp]
  unfold zDue
  congr 1
  unfold zT
  by_cases h : σ 22 p = -6 ∧ zAb σ p = true
  · rw [if_pos h, h.1, hd, hn, decide_eq_true (show nI d - nI nt < nI d from (sub_lt (by omega) (by omega) (by omega)).mpr (by omega)), Bool.not_true, Bool.and_false]
    rfl
  · rw [if_neg h]
theorem sw_tag {σ : Nat → Nat → Int32} {sh d p : Nat} {lt : Int32} (hs : sh < 3) (hd : σ 0 4 = nI d) (hd2 : d ≤ 20000) (hp : p < 20) (h19 : zSw (nI sh) lt (σ 0 4) σ 20 19 p = nI sh) (hab : zAb σ p = true) : zSw (nI sh) lt (σ 0 4) σ 20 22 p ≠ -6 := by
  rcases sw_dich (lt := lt) (sh := sh) hd hp with ⟨a1, a2, a3, a4, a5, a6, a7⟩ | ⟨a1, a2, a3, a4, a5, a6⟩
  · exact absurd (a3.symm.trans h19) (fun e => nI_ne6 (k := sh) (by omega) e.symm)
  · rw [a5, if_pos (a2.symm.trans h19)]
    unfold zT
    by_cases h : σ 22 p = -6 ∧ zAb σ p = true
    · rw [if_pos h, hd]
      exact nI_ne6 (by omega)
    · rw [if_neg h]
      exact fun e => h ⟨e, hab⟩
theorem orB_sub {σ : Nat → Nat → Int32} {d sh : Nat} {A B : Nat → Bool} (hB : cB σ d) (hs : sh < 3) (hA : ∀ p, p < 20 → A p = true → σ 19 p = nI sh) (hB' : ∀ p, p < 20 → B p = true → σ 19 p = nI sh) (hAB : ∀ p, p < 20 → A p = true → B p = true) : orB A (σ 20) 20 &&& (orB B (σ 20) 20 ^^^ (-1 : Int32)) = 0 := by
  have hg : ∀ p, p < 20 → σ 19 p = nI sh → σ 20 p = nI ((σ 20 p).toNatClampNeg) ∧ (σ 20 p).toNatClampNeg < 8 := by
    intro p hp h
    rcases hB.1 p hp with z | ⟨sh', k, pk, b1, b2, b3, b4, b5, b6, b7⟩
    · exact absurd (h.symm.trans z.1) (nI_ne6 (by omega))
    · rw [b5, cl_nI (by omega)]
      exact ⟨rfl, b2⟩
  have oA := orB_nI (P := A) (gi := σ 20) (g := fun p => (σ 20 p).toNatClampNeg) 20 (fun p hp h => hg p hp (hA p hp h))
  have oB := orB_nI (P := B) (gi := σ 20) (g := fun p => (σ 20 p).toNatClampNeg) 20 (fun p hp h => hg p hp (hB' p hp h))
  have lA := orN_lt (P := A) (g := fun p => (σ 20 p).toNatClampNeg) 20 (fun p hp h => (hg p hp (hA p hp h)).2)
  have lB := orN_lt (P := B) (g := fun p => (σ 20 p).toNatClampNeg) 20 (fun p hp h => (hg p hp (hB' p hp h)).2)
  rw [oA, oB, not_and lB lA, and_0 ?_ lA]
  · rfl
  · intro k hk ht
    rw [bit_255 hk]
    obtain ⟨p, p1, p2, p3⟩ := (orN_bit 20).mp ht
    rw [(orN_bit (P := B) (g := fun p => (σ 20 p).toNatClampNeg) (k := k) 20).mpr ⟨p, p1, hAB p p1 p2, p3⟩]
    rfl
theorem undo_two {N : xM} {σ τ ζ : Nat → Nat → Int32} {n : Nat} {h : Nat → Nat → Nat → Int32} {sl : Option (Nat → Nat → Int32)} (hn : n ≤ 6) (c : Cl N ζ (nx (nx n)) (psh (psh h n σ) (nx n) τ) sl) : ∃ N1 N2 k1 k2 h', k1 ≤ 6 ∧ k2 ≤ 6 ∧ f_X6_undo N = some (nI k1, N1) ∧ Cl N1 τ k1 (psh (psh h n σ) (nx n) τ) sl ∧ f_X6_undo N1 = some (nI k2, N2) ∧ Cl N2 σ k2 h' sl := by
  obtain ⟨N1, e1, e2⟩ := undo_back c
  have hd1 : drp n ≤ 1 ∧ (drp n = 1 → n = 6) ∧ (drp n = 0 → n ≠ 6) := by
    unfold drp
    split <;> omega
  have hd2 : drp (nx n) ≤ 1 ∧ (drp (nx n) = 1 → nx n = 6) ∧ (drp (nx n) = 0 → nx n ≠ 6) := by
    unfold drp
    split <;> omega
  have hnx : nx n = n - drp n + 1 := rfl
  obtain ⟨m, hm⟩ : ∃ m, nx n - drp (nx n) = m + 1 := ⟨nx n - drp (nx n) - 1, by omega⟩
  have e2' := e2
  rw [hm] at e2
  obtain ⟨N2, e3, e4⟩ := cl_undo e2
  have hh : psh (psh h n σ) (nx n) τ m = σ := by
    unfold psh
    rw [if_neg (by omega), if_pos (by omega)]
  rw [hh] at e4
  have hk1 : nx n - drp (nx n) ≤ 6 := by omega
  have hk2 : m ≤ 6 := by
    rw [hm] at hk1
    omega
  exact ⟨N1, N2, nx n - drp (nx n), m, psh (psh h n σ) (nx n) τ, hk1, hk2, e1, e2', e3, e4⟩
section SWP
variable {T Bg Bt sh b sq d kp nt n : Nat} {σ τ : Nat → Nat → Int32} {W : Nat → List Nat} {U : Nat → Nat} {v : Int64} {N : xM} {h : Nat → Nat → Nat → Int32} {sl : Option (Nat → Nat → Int32)}
/-- from the sweep on; τ the state of now; behind it, by 'hu', the calls are taken back -/
theorem s_30 {σ0 : Nat → Nat → Int32} (hs : sh < 3) (hA : gA d T τ W U sq d kp nt) (hY : cY Bg Bt τ W d) (hF : cF τ W U sq) (hT2 : T < 2 ^ 30) (h1 : d + 300 ≤ 20000) (h2 : d + 300 + 99 ≤ T) (hBg : Bg < 2 ^ 29) (hBt : Bt < 2 ^ 29) (c : Cl N τ n h sl) (hu : ∀ N' ζ, Cl N' ζ (nx n) (psh h n τ) sl → ∃ M' n' h', f_L_sweeps_j231 (nI b) v 1 N' = some (1, M') ∧ Cl M' σ0 n' h' sl) : ∃ M' n' h', f_L_sweeps_j25 (nI sh) (nI b) (nI (cnt (zDue (nI sh) (τ 0 4 - τ 1 2) τ) 20)) v N = some (1, M') ∧ Cl M' σ0 n' h' sl := by
  have v1 := hA.2.2.2.1.1
  have v2 := hA.2.2.2.1.2.1
  obtain ⟨-, n1, n2, n3⟩ := hA.2.2.2.2.2.2.2
  have hcl := cnt_le (zDue (nI sh) (τ 0 4 - τ 1 2) τ) 20
  have hnew : cnt (zDue (nI sh) (τ 0 4 - τ 1 2) (zSweep (nI sh) τ)) 20 = cnt (zDue (nI sh) (τ 0 4 - τ 1 2) τ) 20 := cnt_congr 20 (fun p hp => zDue_new v1 v2 n1 n2 n3 hp)
  have hsw : ∀ r M, M.1 r = τ → f_X5_sweepShed r (nI sh) M = some (nI (cnt (zDue (nI sh) (τ 0 4 - τ 1 2) τ) 20), put M r (zSw (nI sh) (τ 0 4 - τ 1 2) (τ 0 4) τ 20)) := by
    intro r M hM
    subst hM
    rw [c_sweep hs, hnew]
  obtain ⟨N1, e1, e2⟩ := call_yes (C := fun r => f_X5_sweepShed r (nI sh)) (F6 := f_X6_sweep (nI sh)) (fun _ => rfl) c (nI_pos (by omega)) hsw
  have hA' := hA.sweep hs
  have hY' : cY Bg (Bt + 20) (zSw (nI sh) (τ 0 4 - τ 1 2) (τ 0 4) τ 20) W d := hY.sweep hs v1 v2
  have lo : ∀ o j, o < 18 → zSw (nI sh) (τ 0 4 - τ 1 2) (τ 0 4) τ 20 o j = τ o j := fun o j ho => (zSw_2 (fun z => by omega)).trans (pm_same (zG_18 (by omega)))
  have hF' : cF (zSw (nI sh) (τ 0 4 - τ 1 2) (τ 0 4) τ 20) W U sq := hF.congr (fun j => lo 4 j (by omega))
  have hpo := sw_pound (lt := τ 0 4 - τ 1 2) (sh := sh) v1 v2 hs hY.2.1
  have hra := sw_racks (lt := τ 0 4 - τ 1 2) (sh := sh) v1 hs
  rw [hnew] at hpo hra
  have h186 : zSw (nI sh) (τ 0 4 - τ 1 2) (τ 0 4) τ 20 18 6 = τ 18 6 + nI (cnt (zDue (nI sh) (τ 0 4 - τ 1 2) τ) 20) := by
    rw [← hnew]
    exact ud_eq _ _ _ _
  have htag : ∀ p, p < 20 → zSw (nI sh) (τ 0 4 - τ 1 2) (τ 0 4) τ 20 19 p = nI sh → zAb τ p = true → zSw (nI sh) (τ 0 4 - τ 1 2) (τ 0 4) τ 20 22 p ≠ -6 := fun p hp a b => sw_tag hs v1 v2 hp a b
  have h21 : ∀ p, p < 20 → zSw (nI sh) (τ 0 4 - τ 1 2) (τ 0 4) τ 20 19 p = nI sh → τ 19 p = nI sh ∧ zSw (nI sh) (τ 0 4 - τ 1 2) (τ 0 4) τ 20 21 p = τ 21 p := by
    intro p hp a
    rcases sw_dich (lt := τ 0 4 - τ 1 2) (sh := sh) v1 hp with ⟨a1, a2, a3, a4, a5, a6, a7⟩ | ⟨a1, a2, a3, a4, a5, a6⟩
    · exact absurd (a3.symm.trans a) (fun e => nI_ne6 (k := sh) (by omega) e.symm)
    · exact ⟨a2.symm.trans a, a4⟩
  have i0 : f_X6_ifSwept (nI sh) 0 N = some (nI (cnt (zDue (nI sh) (τ 0 4 - τ 1 2) τ) 20)) := by
    have := c_ifSwept (sh := sh) (b := 0) (M := N) hs (by omega)
    have this : f_X6_ifSwept (nI sh) 0 N = some (nI (cnt (zDue (nI sh) ((N.1 2 0 4 + 0) - N.1 2 1 2) (N.1 2)) 20)) := this
    rw [this, c.now, Int32.add_zero]
  generalize zSw (nI sh) (τ 0 4 - τ 1 2) (τ 0 4) τ 20 = ζ at e2 hA' hY' hF' hpo hra h186 htag h21 lo
  generalize cnt (zDue (nI sh) (τ 0 4 - τ 1 2) τ) 20 = due at *
  obtain ⟨τ3, g⟩ := c_hangs (M := N1) (by rw [e2.now]; exact hA') (by rw [e2.now]; exact hY') (by rw [e2.now]; exact hF') hT2 h1 h2 (by omega) (by omega)
  have c3 : Cl (put N1 4 τ3) ζ (nx n) (psh h n τ) sl := e2.put4
  obtain ⟨M', n', h', u1, u2⟩ := hu _ _ c3
  refine ⟨M', n', h', ?_, u2⟩
  -- the last loop
  have hloop : xlp (f_L_sweeps_l167 (nI sh) (nI b) v (put N1 4 τ3)) 4000 (1, 0) = some (1, M') := by
    refine xlp_for (body := f_L_sweeps_l167 (nI sh) (nI b) v (put N1 4 τ3)) (q := (1, M')) (f := fun k => ((1 : Int32), nI k)) 20 4000 (by omega) (fun k hk => ?_) ?_
    · unfold f_L_sweeps_l167
      dsimp only
      rw [if_pos (show nI k < 20 from nI_lt (b := 20) hk (by omega)), if_neg (show ¬ (1 : Int32) = 0 by decide), c_p3 hk, Option.bind_some, c3.now]
      by_cases a : ζ 19 k = nI sh
      · obtain ⟨b1, b2⟩ := h21 k hk a
        rw [if_pos a, c_p5 hk, Option.bind_some, c3.now, c_n1, Option.bind_some, c3.now, if_neg (show ¬ ζ 19 k = -6 by rw [a]; exact nI_ne6 (by omega)), b2, lo 0 4 (by omega), lo 1 1 (by omega)]
        by_cases e : τ 0 4 - τ 21 k < τ 1 1
        · rw [if_pos e, up_1]
        · have hab : zAb τ k = true := by
            unfold zAb
            rw [decide_eq_false e]
            rfl
          rw [if_neg e, c_p6 hk, Option.bind_some, c3.now, if_neg (htag k hk a hab), up_1]
      · rw [if_neg a, up_1]
    · unfold f_L_sweeps_l167
      dsimp only
      rw [if_neg (show ¬ nI 20 < 20 by decide), u1]
      rfl
  have h131 : f_L_sweeps_j131 (nI sh) (nI b) v 1 (put N1 4 τ3) = some (1, M') := by
    unfold f_L_sweeps_j131
    have z6 := c_s6 (M := put N1 4 τ3) (W := W) (U := U) (sq := sq) hs (by rw [c3.now]; exact hA'.1) (by rw [c3.now]; exact hA'.2.2.1)
    have z5 := c_s5 (M := put N1 4 τ3) (W := W) (U := U) (sq := sq) hs (by rw [c3.now]; exact hA'.1) (by rw [c3.now]; exact hA'.2.2.1)
    rw [if_neg (by decide), z6, Option.bind_some, z5, Option.bind_some, c3.now, orB_sub hA'.2.2.2.2.2.1 hs (fun p _ z => of_decide_eq_true (Bool.and_eq_true_iff.mp z).1) (fun p _ z => of_decide_eq_true (Bool.and_eq_true_iff.mp z).1) (fun p hp z => ?_), if_pos rfl]
    · exact hloop
    · obtain ⟨z1, z2⟩ := Bool.and_eq_true_iff.mp z
      have z1 := of_decide_eq_true z1
      have z2 : ¬ ζ 4 p = ζ 19 p := by
        rw [Bool.not_eq_true', decide_eq_false_iff_not] at z2
        exact z2
      obtain ⟨b1, b2⟩ := h21 p hp z1
      have hab : zAb τ p = true := by
        unfold zAb
        rw [decide_eq_false (show ¬ τ 4 p = τ 19 p by rw [b1, ← lo 4 p (by omega), ← z1]; exact z2), Bool.not_false, Bool.or_true]
      rw [decide_eq_true z1, decide_eq_false (htag p hp z1 hab)]
      rfl
  unfold f_L_sweeps_j25 f_L_sweeps_j30
  rw [c_n11, Option.bind_some, c_n9, Option.bind_some, c_n7, Option.bind_some, if_neg (by decide), i0, Option.bind_some, if_pos rfl, e1, Option.bind_some]
  dsimp only
  rw [if_pos rfl, c_n11, Option.bind_some, e2.now, c.now, h186, if_pos rfl, c_n9, Option.bind_some, e2.now, hpo, nI_add, if_pos rfl, c_n7, Option.bind_some, e2.now, hra, sub_nI (by omega), Nat.add_sub_cancel, if_pos rfl, g, Option.bind_some]
  dsimp only
  rw [if_neg (by decide)]
  exact h131
end SWP
theorem c_sweeps {D T Bg Bt sh b : Nat} {σ : Nat → Nat → Int32} (hZ : sZ D T Bg Bt σ) (hs : sh < 3) (hb : b ≤ 99) (hT2 : T < 2 ^ 30) (hD : D + 400 ≤ 9999) (hDT : D + 499 ≤ T) (hBg : Bg + 4000 < 2 ^ 29) (hBt : Bt < 2 ^ 29) {M : xM} {n : Nat} {h : Nat → Nat → Nat → Int32} {sl : Option (Nat → Nat → Int32)} (c : Cl M σ n h sl) : ∃ M' n' h', f_L_sweeps (nI sh) (nI b) M = some (1, M') ∧ Cl M' σ n' h' sl := by
  obtain ⟨v, hv⟩ := hZ.print
  obtain ⟨W, U, sq, d, kp, nt, hA, hY, hF, hd⟩ := hZ
  have v1 := hA.2.2.2.1.1
  have n6 := c.le
  have i0 : f_X6_ifSwept (nI sh) (nI b) M = some (nI (cnt (zDue (nI sh) ((σ 0 4 + nI b) - σ 1 2) σ) 20)) := by
    rw [c_ifSwept hs hb, c.now]
  unfold f_L_sweeps
  rw [i0, Option.bind_some, hv M c.now, Option.bind_some]
  have fin : ∀ N : xM, N.1 2 = σ → f_L_sweeps_j254 v N = some (1, N) := by
    intro N hN
    unfold f_L_sweeps_j254
    rw [hv N hN, Option.bind_some, lg_same, if_pos rfl, nar_1]
  by_cases e : b = 0
  · subst e
    rw [if_pos (show nI 0 = 0 from rfl)]
    have e0 : (σ 0 4 + nI 0) - σ 1 2 = σ 0 4 - σ 1 2 := by
      rw [show nI 0 = (0 : Int32) from rfl, Int32.add_zero]
    rw [e0]
    refine s_30 hs hA hY hF hT2 (by omega) (by omega) (by omega) (by omega) c (fun N' ζ cN => ?_)
    obtain ⟨N1, e1, e2⟩ := undo_back cN
    refine ⟨N1, _, _, ?_, e2⟩
    unfold f_L_sweeps_j231
    rw [if_neg (by decide), e1, Option.bind_some]
    dsimp only
    rw [if_neg (nI_pos (by omega)), if_pos (show nI 0 = 0 from rfl), fin N1 e2.now]
  · have hne : ¬ nI b = 0 := fun z => e ((nI_eq (b := 0) (by omega) (by omega)).mp z)
    rw [if_neg hne]
    obtain ⟨m, m1, m2, m3⟩ := pass_ok (a := b) hA hT2 (by omega) (by omega) (by omega) (by omega)
    obtain ⟨N, e1, e2⟩ := call_yes (C := fun r => f_X5_letPass r (nI b)) (F6 := f_X6_pass (nI b)) (fun _ => rfl) c (nI_pos (by omega)) m3
    have hAb := gA.days (q := (σ, W)) hA hT2 b (by omega) (by omega)
    have hYb := cY.days (q := (σ, W)) hY hA hT2 b (by omega) (by omega)
    have hFb := cF.days (q := (σ, W)) hF hA hT2 b (by omega) (by omega)
    have vb := hAb.2.2.2.1.1
    have ot : ∀ o j, ¬ (o = 0 ∧ j = 4) → o ≠ 3 → o ≠ 4 → o ≠ 5 → o ≠ 23 → o ≠ 24 → ¬ (7 ≤ o ∧ o < 10) → (zDays U sq b (σ, W)).1 o j = σ o j := fun o j a1 a2 a3 a4 a5 a6 a7 => zDays_other (q := (σ, W)) a1 a2 a3 a4 a5 a6 a7 b
    have elt : (σ 0 4 + nI b) - σ 1 2 = (zDays U sq b (σ, W)).1 0 4 - (zDays U sq b (σ, W)).1 1 2 := by
      rw [vb, ot 1 2 (by omega) (by omega) (by omega) (by omega) (by omega) (by omega) (by omega), v1, nI_add]
    have edue : cnt (zDue (nI sh) ((σ 0 4 + nI b) - σ 1 2) σ) 20 = cnt (zDue (nI sh) ((zDays U sq b (σ, W)).1 0 4 - (zDays U sq b (σ, W)).1 1 2) (zDays U sq b (σ, W)).1) 20 := by
      rw [elt]
      refine cnt_congr 20 (fun p _ => ?_)
      unfold zDue
      rw [ot 19 p (by omega) (by omega) (by omega) (by omega) (by omega) (by omega) (by omega), ot 22 p (by omega) (by omega) (by omega) (by omega) (by omega) (by omega) (by omega)]
    rw [e1, Option.bind_some]
    dsimp only
    rw [if_neg (nI_pos (by omega)), edue]
    refine s_30 hs hAb hYb hFb hT2 (by omega) (by omega) (by omega) (by omega) e2 (fun N' ζ cN => ?_)
    obtain ⟨N1, N2, k1, k2, h', k16, k26, u1, u2, u3, u4⟩ := undo_two n6 cN
    refine ⟨N2, _, _, ?_, u4⟩
    unfold f_L_sweeps_j231
    rw [if_neg (by decide), u1, Option.bind_some]
    dsimp only
    rw [if_neg (nI_pos (by omega)), if_neg hne, u3, Option.bind_some]
    dsimp only
    rw [if_neg (nI_pos (by omega)), fin N2 u4.now]
