/-! questions: shed -/
def bitsN (B : Nat → Bool) : Nat → Nat
  | 0 => 0
  | n + 1 => bitsN B n ||| (if B n = true then 2 ^ n else 0)
theorem bitsN_bit {B : Nat → Bool} : ∀ n k, (bitsN B n).testBit k = (decide (k < n) && B k)
  | 0, k => by
    show (0 : Nat).testBit k = _
    rw [Nat.zero_testBit]
    rfl
  | n + 1, k => by
    show (bitsN B n ||| (if B n = true then 2 ^ n else 0)).testBit k = _
    rw [Nat.testBit_or, bitsN_bit n k]
    have e : (if B n = true then 2 ^ n else 0).testBit k = (decide (k = n) && B n) := by
      cases hb : B n
      · rw [if_neg (by decide), Nat.zero_testBit, Bool.and_false]
      · rw [if_pos rfl, Nat.testBit_two_pow, Bool.and_true]
        exact decide_eq_decide.mpr ⟨fun z => z.symm, fun z => z.symm⟩
    rw [e]
    by_cases h : k = n
    · subst h
      rw [decide_eq_false (Nat.lt_irrefl k), decide_eq_true rfl, decide_eq_true (Nat.lt_succ_self k)]
      rfl
    · rw [decide_eq_false h]
      by_cases h2 : k < n
      · rw [decide_eq_true h2, decide_eq_true (show k < n + 1 by omega), Bool.false_and, Bool.or_false]
      · rw [decide_eq_false h2, decide_eq_false (show ¬ k < n + 1 by omega)]
        rfl
theorem bitsN_lt {B : Nat → Bool} : ∀ n, n ≤ 8 → bitsN B n < 256
  | 0, _ => by
    show 0 < 256
    omega
  | n + 1, h => by
    show (bitsN B n ||| (if B n = true then 2 ^ n else 0)) < 256
    refine Nat.or_lt_two_pow (n := 8) (bitsN_lt n (by omega)) ?_
    split
    · exact pow_lt_256 (by omega)
    · omega
theorem bitsI {B : Nat → Bool} {n : Nat} (hn : n < 8) : nI (bitsN B n) ||| (bI (B n) <<< (nI n &&& 31)) = nI (bitsN B (n + 1)) := by
  have h1 := bitsN_lt (B := B) n (by omega)
  have h2 := pow_lt_256 hn
  cases hb : B n
  · have e0 : bI false <<< (nI n &&& 31) = nI 0 := by
      have : ∀ k, k < 8 → bI false <<< (nI k &&& 31) = nI 0 := by decide +kernel
      exact this n hn
    rw [e0, or_nI' h1 (by omega)]
    show _ = nI (bitsN B n ||| (if B n = true then 2 ^ n else 0))
    rw [hb, if_neg (by decide)]
  · rw [show bI true = 1 from rfl, shl_1 n hn, or_nI' h1 h2]
    show _ = nI (bitsN B n ||| (if B n = true then 2 ^ n else 0))
    rw [hb, if_pos rfl]
/-- the condition under which a rack is told, of its bicycle's owner -/
def qB (σ : Nat → Nat → Int32) (sh : Nat) (cd : Nat → Bool) (k : Nat) : Bool := !decide (own σ sh k 20 = -6) && cd (own σ sh k 20).toNatClampNeg
theorem m_racks {what sh : Nat} {σ : Nat → Nat → Int32} {cd : Nat → Bool} {M : xM} (h : ∀ k, k < 8 → ∀ v, f_X7_racks_l5 (nI sh) (nI what) M (v, nI k) = some (.inl (v ||| (bI (qB σ sh cd k) <<< (nI k &&& 31)), nI k + 1))) : f_X7_racks (nI sh) (nI what) M = some (nI (bitsN (qB σ sh cd) 8)) := by
  unfold f_X7_racks
  have hl := xlp_for (body := f_X7_racks_l5 (nI sh) (nI what) M) (q := nI (bitsN (qB σ sh cd) 8)) (f := fun k => (nI (bitsN (qB σ sh cd) k), nI k)) 8 4000 (by omega) (fun k hk => ?_) rfl
  · exact hl
  · rw [h k hk, bitsI hk, aI_1]
theorem m_j83 {what sh k : Nat} {v : Int32} {b : Bool} {M : xM} : f_X7_racks_j83_5 (nI sh) (nI what) v (nI k) (bI b) M = some (.inl (v ||| (bI b <<< (nI k &&& 31)), nI k + 1)) := by
  unfold f_X7_racks_j83_5
  rw [m_flag]
  rfl
/-- the class's racks, for a condition -/
theorem c_racks {σ : Nat → Nat → Int32} {d sh : Nat} {cd : Nat → Bool} {P : Nat → Bool} (hB : cB σ d) (hs : sh < 3) (hP : ∀ p, p < 20 → P p = (decide (σ 19 p = nI sh) && cd p)) : orB P (σ 20) 20 = nI (bitsN (qB σ sh cd) 8) := by
  have hg : ∀ p, p < 20 → P p = true → σ 20 p = nI ((σ 20 p).toNatClampNeg) ∧ (σ 20 p).toNatClampNeg < 8 := by
    intro p hp h
    rw [hP p hp] at h
    have h := of_decide_eq_true (Bool.and_eq_true_iff.mp h).1
    rcases hB.1 p hp with z | ⟨sh', k, pk, b1, b2, b3, b4, b5, b6, b7⟩
    · exact absurd (h.symm.trans z.1) (nI_ne6 (by omega))
    · rw [b5, cl_nI (by omega)]
      exact ⟨rfl, b2⟩
  rw [orB_nI (g := fun p => (σ 20 p).toNatClampNeg) 20 hg]
  congr 1
  refine Nat.eq_of_testBit_eq (fun k => ?_)
  rw [bitsN_bit, Bool.eq_iff_iff, orN_bit, Bool.and_eq_true, decide_eq_true_eq]
  unfold qB
  rw [Bool.and_eq_true, Bool.not_eq_true', decide_eq_false_iff_not]
  constructor
  · rintro ⟨p, p1, p2, p3⟩
    obtain ⟨g1, g2⟩ := hg p p1 p2
    have p3 : (σ 20 p).toNatClampNeg = k := p3
    rw [p3] at g1 g2
    have pc := p2
    rw [hP p p1, Bool.and_eq_true, decide_eq_true_eq] at pc
    have hne : own σ sh k 20 ≠ -6 := fun z => by
      rw [own_none (Nat.le_refl 20)] at z
      exact z p p1 ⟨pc.1, g1⟩
    refine ⟨g2, hne, ?_⟩
    obtain ⟨p', q1, q2, q3, q4⟩ := own_some hne
    have : p' = p := by
      rcases Nat.decEq p' p with z | z
      · exact absurd (q3.trans g1.symm) (hB.2 p' p q1 p1 z (by rw [q2]; exact nI_ne6 (by omega)) (q2.trans pc.1.symm))
      · exact z
    rw [q4, cl_nI (by omega), this]
    exact pc.2
  · rintro ⟨k1, k2, k3⟩
    obtain ⟨p', q1, q2, q3, q4⟩ := own_some k2
    rw [q4, cl_nI (by omega)] at k3
    refine ⟨p', q1, ?_, ?_⟩
    · rw [hP p' q1, decide_eq_true q2, k3]
      rfl
    · show (σ 20 p').toNatClampNeg = k
      rw [q3, cl_nI (by omega)]
theorem q_shed {T : Nat} (x y : Int32) : pureOK T (f_X6_shed x y) (f_X7_shed x y) := by
  refine pure_of (fun M W U sq d kp nt hR hA => ?_)
  by_cases hx : rg 3 x = true
  · obtain ⟨sh, hs, rfl⟩ := (rg_iff (by omega)).mp hx
    have fin : ∀ {a b : Option Int32} (v : Int32), a = some v → b = some v → ∃ ans, a = some ans ∧ b = some ans := fun v h1 h2 => ⟨v, h1, h2⟩
    have hb : ∀ a : Option Int32, a.bind (fun q3 => some q3) = a := fun a => by cases a <;> rfl
    have hUs := hA.2.2.1.2.2 sh hs
    have hBk := hA.2.2.2.2.2.1
    have e8 : M.1 6 1 (8 + sh) = nI (255 ^^^ U sh) := by
      have := hR.2.1 sh hs
      rw [Nat.zero_add] at this
      exact this
    have ew : M.1 6 1 (11 + sh) = nI (W sh).length := by
      have := (hR.2.2.1 sh hs).1
      rw [Nat.zero_add] at this
      exact this
    have eo : ∀ k, f_X7_owner 0 (nI sh) (nI k) M = some (own (M.1 2) sh k 20) := fun k => m_owner (b := 0) (by omega) hR.2.2.2
    have eg : f_X7_given 0 (nI sh) M = some (nI (cnt (fun p => decide (M.1 2 4 p = nI sh)) 20)) := by
      have := m_given (b := 0) (sh := sh) (M := M) (by omega)
      refine (show f_X7_given 0 (nI sh) M = _ from this).trans ?_
      congr 2
      refine cnt_congr 20 (fun j hj => ?_)
      have := hR.2.2.2 j 0 hj (by omega)
      rw [Nat.add_zero] at this
      rw [this]
      rfl
    have ep : f_X7_permits 0 (nI sh) M = some (nI (pcnt (U sh) + sq)) := by
      have e0 := hR.1.1 0 (by omega)
      exact m_permits (b := 0) (by omega) hs hUs.1 (hR.2.1 sh hs) (e0.trans hA.2.2.1.1)
    have hc : f_X6_shed (nI sh) y M = f_X5_aboutShed 2 (nI sh) y M := by
      unfold f_X6_shed
      simp only [c_isShed, hx, Option.bind_some, ite_bI, if_true]
      exact hb _
    have hm : f_X7_shed (nI sh) y M = if y = (0 : Int32) then (if xp_in ((8 : Int32) + nI sh) 3540 = true then (some (((255 : Int32) - (M.1 6 1 ((8 : Int32) + nI sh).toNatClampNeg)))) else none) else (if y = (1 : Int32) then f_X7_permits (0 : Int32) (nI sh) M else (if y = (2 : Int32) then f_X7_given (0 : Int32) (nI sh) M else (if y = (3 : Int32) then (if xp_in ((11 : Int32) + nI sh) 3540 = true then (some ((M.1 6 1 ((11 : Int32) + nI sh).toNatClampNeg))) else none) else (if y = (4 : Int32) then f_X7_racks (nI sh) y M else (if y = (5 : Int32) then f_X7_racks (nI sh) y M else (if y = (6 : Int32) then f_X7_racks (nI sh) y M else some (-2 : Int32))))))) := by
      unfold f_X7_shed
      simp only [m_isShed, hx, Option.bind_some, ite_bI, if_true, hb]
    rw [hc, hm]
    unfold f_X5_aboutShed
    simp only [hb]
    by_cases y0 : y = 0
    · subst y0
      refine fin (nI (U sh)) ?_ ?_
      · rw [if_pos rfl, if_pos (in_nI hs (by omega)), cl_nI (by omega), hUs.2]
      · rw [if_pos rfl, bI_8, if_pos (in_nI (by omega) (by omega)), cl_nI (by omega), e8]
        exact congrArg some (sub_255 _ hUs.1)
    rw [if_neg y0, if_neg y0]
    by_cases y1 : y = 1
    · subst y1
      refine fin (nI (pcnt (U sh) + sq)) ?_ ?_
      · rw [if_pos rfl, c_permits hs hUs.1 hUs.2 hA.2.2.1.1]
      · rw [if_pos rfl, ep]
    rw [if_neg y1, if_neg y1]
    by_cases y2 : y = 2
    · subst y2
      refine fin (nI (cnt (fun p => decide (M.1 2 4 p = nI sh)) 20)) ?_ ?_
      · rw [if_pos rfl, c_countOf]
      · rw [if_pos rfl, eg]
    rw [if_neg y2, if_neg y2]
    by_cases y3 : y = 3
    · subst y3
      refine fin (nI (W sh).length) ?_ ?_
      · rw [if_pos rfl, c_countWaiting hs, (hA.1 sh hs).cnt]
      · rw [if_pos rfl, bI_11, if_pos (in_nI (by omega) (by omega)), cl_nI (by omega), ew]
    rw [if_neg y3, if_neg y3]
    have start : ∀ {what k : Nat} {v : Int32} {cd : Nat → Bool} (g : xM → Option ((Int32 × Int32) ⊕ Int32)), k < 8 → f_X7_racks_l5 (nI sh) (nI what) M (v, nI k) = (if own (M.1 2) sh k 20 = -6 then f_X7_racks_j82_5 (nI sh) (nI what) v (nI k) M else g M) → (∀ p, p < 20 → own (M.1 2) sh k 20 = nI p → g M = f_X7_racks_j83_5 (nI sh) (nI what) v (nI k) (bI (cd p)) M) → f_X7_racks_l5 (nI sh) (nI what) M (v, nI k) = some (.inl (v ||| (bI (qB (M.1 2) sh cd k) <<< (nI k &&& 31)), nI k + 1)) := by
      intro what k v cd g hk h1 h2
      rw [h1]
      unfold qB
      by_cases h6 : own (M.1 2) sh k 20 = -6
      · rw [if_pos h6, decide_eq_true h6]
        exact m_j83 (b := false)
      · rw [if_neg h6, decide_eq_false h6]
        obtain ⟨p, p1, p2, p3, p4⟩ := own_some h6
        rw [h2 p p1 p4, p4, cl_nI (by omega)]
        exact m_j83
    by_cases y4 : y = 4
    · subst y4
      refine fin (nI (bitsN (qB (M.1 2) sh (fun _ => true)) 8)) ?_ ?_
      · rw [if_pos rfl, c_racksTaken]
        exact congrArg some (c_racks hBk hs (fun p hp => (Bool.and_true _).symm))
      · rw [if_pos rfl]
        refine m_racks (what := 4) (fun k hk v => start (fun M => f_X7_racks_j78_5 (nI sh) (nI 4) v (nI k) M) hk ?_ (fun p hp h => rfl))
        unfold f_X7_racks_l5
        dsimp only
        rw [if_pos (lt_nI (n := 8) hk (by omega) ▸ trivial), eo, Option.bind_some, if_pos (show nI 4 = 4 from rfl)]
    rw [if_neg y4, if_neg y4]
    by_cases y5 : y = 5
    · subst y5
      refine fin (nI (bitsN (qB (M.1 2) sh (fun p => !decide (M.1 2 22 p = -6))) 8)) ?_ ?_
      · rw [if_pos rfl, c_racksTagged]
        exact congrArg some (c_racks hBk hs (fun p hp => rfl))
      · rw [if_pos rfl]
        refine m_racks (what := 5) (fun k hk v => start (fun M => (f_X7_personAt (0 : Int32) (own (M.1 2) sh k 20) M).bind (fun q5 => if xp_in (q5 + (5 : Int32)) 3540 = true then (if (M.1 6 1 (q5 + (5 : Int32)).toNatClampNeg) = (-6 : Int32) then (f_X7_racks_j57_5 (nI sh) (nI 5) v (nI k) (own (M.1 2) sh k 20) M) else (f_X7_racks_j78_5 (nI sh) (nI 5) v (nI k) M)) else none)) hk ?_ (fun p hp h => ?_))
        · unfold f_X7_racks_l5
          dsimp only
          rw [if_pos (lt_nI (n := 8) hk (by omega) ▸ trivial), eo, Option.bind_some, if_neg (show ¬ nI 5 = 4 by decide), if_pos (show nI 5 = 5 from rfl)]
        · have r5 : M.1 6 1 (14 + 8 * p + 5) = M.1 2 22 p := row0 (f := 5) hR.2.2.2 hp (by omega)
          rw [h, m_personAt0, Option.bind_some, aI_5, if_pos (in_nI (by omega) (by omega)), cl_nI (by omega), r5]
          unfold f_X7_racks_j57_5
          rw [if_neg (show ¬ nI 5 = 6 by decide)]
          by_cases z : M.1 2 22 p = -6
          · rw [if_pos z, decide_eq_true z]
            rfl
          · rw [if_neg z, decide_eq_false z]
            rfl
    rw [if_neg y5, if_neg y5]
    by_cases y6 : y = 6
    · subst y6
      refine fin (nI (bitsN (qB (M.1 2) sh (fun p => !decide (M.1 2 4 p = nI sh))) 8)) ?_ ?_
      · rw [if_pos rfl, c_racksWithout]
        refine congrArg some (c_racks hBk hs (fun p hp => ?_))
        by_cases z : M.1 2 19 p = nI sh
        · rw [z]
        · rw [decide_eq_false z, Bool.false_and, Bool.false_and]
      · rw [if_pos rfl]
        refine m_racks (what := 6) (fun k hk v => start (fun M => f_X7_racks_j57_5 (nI sh) (nI 6) v (nI k) (own (M.1 2) sh k 20) M) hk ?_ (fun p hp h => ?_))
        · unfold f_X7_racks_l5
          dsimp only
          rw [if_pos (lt_nI (n := 8) hk (by omega) ▸ trivial), eo, Option.bind_some, if_neg (show ¬ nI 6 = 4 by decide), if_neg (show ¬ nI 6 = 5 by decide)]
        · have r0 : M.1 6 1 (14 + 8 * p) = M.1 2 4 p := row00 hR.2.2.2 hp
          unfold f_X7_racks_j57_5
          rw [h, if_pos (show nI 6 = 6 from rfl), m_personAt0, Option.bind_some, if_pos (in_nI (by omega) (by omega)), cl_nI (by omega), r0]
          by_cases z : M.1 2 4 p = nI sh
          · rw [if_pos z, decide_eq_true z]
            rfl
          · rw [if_neg z, decide_eq_false z]
            rfl
    rw [if_neg y6, if_neg y6]
    exact fin (-2) rfl rfl
  · refine ⟨-1, ?_, ?_⟩
    · unfold f_X6_shed
      simp only [c_isShed, hx, Option.bind_some, ite_bI, Bool.false_eq_true, if_false]
    · unfold f_X7_shed
      simp only [m_isShed, hx, Option.bind_some, ite_bI, Bool.false_eq_true, if_false]
