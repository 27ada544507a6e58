/-! changes: the class's and the model's, ahead of what is recorded -/
def chOK (D T T' : Nat) (C G : xM → Option (Int32 × xM)) : Prop := ∀ M M' : xM, gS D T (M.1 2) (M'.1 6 1) 0 → (∃ e, e < 0 ∧ C M = some (e, M) ∧ G M' = some (e, M')) ∨ (∃ ans τ, ¬ ans < 0 ∧ C M = some (ans, put M 2 τ) ∧ ∃ F : xM → Option (Int32 × xM), G M' = (f_X7_changes M').bind F ∧ ∀ M'' : xM, mAg (M'.1 6 1) (M''.1 6 1) 0 → ∃ t, F M'' = some (ans, sp M'' t) ∧ gS D T' τ t 0 ∧ mFr (M''.1 6 1) t 0)
theorem ch_of_op {D T : Nat} {C F G : xM → Option (Int32 × xM)} {E : xM → Option Int32} (h : opOK D T C E F) (hG : ∀ M, G M = (E M).bind (fun q1 => if q1 = (0 : Int32) then ((f_X7_changes M).bind (fun q3 => (F q3).bind (fun q5 => some ((q5.1, q5.2))))) else (some ((q1, M))))) : chOK D T T C G := by
  intro M M' hS
  rcases h M M' hS with ⟨e, e1, e2, e3⟩ | ⟨e0, ans, τ, e1, e2, e3⟩
  · left
    refine ⟨e, e1, e2, ?_⟩
    rw [hG, e3]
    have : ¬ e = 0 := fun z => by
      rw [z] at e1
      exact i_zero e1
    simp only [Option.bind_some, this, if_false]
  · right
    refine ⟨ans, τ, e1, e2, fun q3 => (F q3).bind (fun q5 => some ((q5.1, q5.2))), ?_, fun M'' hg => ?_⟩
    · rw [hG, e0]
      simp only [Option.bind_some, if_true]
    · obtain ⟨t, t1, t2, t3⟩ := e3 M'' hg
      refine ⟨t, ?_, t2, t3⟩
      dsimp only
      rw [t1]
      rfl
theorem ch_ask {D T : Nat} (hT : D + 99 ≤ T) (x y z : Int32) : chOK D T T (f_X5_askFor 2 x y z) (f_X7_ask x y z) := ch_of_op (op_ask hT x y z) (fun _ => rfl)
theorem ch_park {D T : Nat} (x : Int32) : chOK D T T (f_X5_parkBicycle 2 x) (f_X7_park x) := ch_of_op (op_park x) (fun _ => rfl)
theorem ch_ride {D T : Nat} (x : Int32) : chOK D T T (f_X5_rideAway 2 x) (f_X7_ride x) := ch_of_op (op_ride x) (fun _ => rfl)
theorem ch_answer {D T : Nat} (x : Int32) : chOK D T T (f_X5_answerFor 2 x) (f_X7_answer x) := ch_of_op (op_answer x) (fun _ => rfl)
theorem ch_fetch {D T : Nat} (x : Int32) : chOK D T T (f_X5_fetchFromPound 2 x) (f_X7_fetch x) := ch_of_op (op_fetch x) (fun _ => rfl)
theorem ch_pass {T : Nat} (hT : 10098 ≤ T) (hT2 : T < 2 ^ 30) (x : Int32) : chOK 9999 T T (f_X5_letPass 2 x) (f_X7_pass x) := ch_of_op (op_pass hT hT2 x) (fun _ => rfl)
theorem ch_sweep {D T : Nat} (x : Int32) : chOK D T T (f_X5_sweepShed 2 x) (f_X7_sweep x) := by
  intro M M' hS
  by_cases hx : rg 3 x = true
  · obtain ⟨sh, hs, rfl⟩ := (rg_iff (by omega)).mp hx
    right
    rcases op_sweep hs M M' hS with ⟨e, e1, e2, e3⟩ | ⟨e0, ans, τ, e1, e2, e3⟩
    · have : (0 : Int32) = e := Option.some.inj e3
      rw [← this] at e1
      exact absurd e1 i_zero
    · refine ⟨ans, τ, e1, e2, fun q3 => (f_X7_sweeps 0 (nI sh) q3).bind (fun q5 => some ((q5.1, q5.2))), ?_, fun M'' hg => ?_⟩
      · unfold f_X7_sweep
        simp only [m_isShed, hx, Option.bind_some, ite_bI, if_true]
      · obtain ⟨t, t1, t2, t3⟩ := e3 M'' hg
        refine ⟨t, ?_, t2, t3⟩
        dsimp only
        rw [t1]
        rfl
  · left
    refine ⟨-1, i_neg1, ?_, ?_⟩
    · unfold f_X5_sweepShed
      simp only [c_isShed, hx, Option.bind_some, ite_bI, Bool.false_eq_true, if_false]
    · unfold f_X7_sweep
      simp only [m_isShed, hx, Option.bind_some, ite_bI, Bool.false_eq_true, if_false]
/-! settings -/
def sLo : Nat → Nat
  | 0 => 0
  | _ => 1
def sHi : Nat → Nat
  | 0 => 5
  | 1 => 60
  | 2 => 30
  | _ => 99
theorem sLo_at : ∀ k, k < 4 → ([0, 1, 1, 1] : List Int32).getD k 0 = nI (sLo k)
  | 0, _ => rfl
  | 1, _ => rfl
  | 2, _ => rfl
  | 3, _ => rfl
  | k + 4, h => by omega
theorem sHi_at : ∀ k, k < 4 → ([5, 60, 30, 99] : List Int32).getD k 0 = nI (sHi k)
  | 0, _ => rfl
  | 1, _ => rfl
  | 2, _ => rfl
  | 3, _ => rfl
  | k + 4, h => by omega
theorem sHi_le : ∀ k, sHi k ≤ 99
  | 0 => by decide
  | 1 => by decide
  | 2 => by decide
  | _ + 3 => Nat.le_refl 99
theorem m_isValue {k : Nat} {v : Int32} {M : xM} (hk : k < 4) : f_X7_isValue (nI k) v M = some (bI (!decide (v < nI (sLo k)) && !decide (nI (sHi k) < v))) := by
  have go : ∀ a b : Int32, (f_X7_in v.toInt64 a.toInt64 b.toInt64 M).bind (fun q1 => some ((vp_nar .boolean q1))) = some (bI (!decide (v < a) && !decide (b < v))) := by
    intro a b
    rw [m_in, Option.bind_some, bI_nar]
  rcases (by omega : k = 0 ∨ k = 1 ∨ k = 2 ∨ k = 3) with rfl | rfl | rfl | rfl
  · exact go (nI 0) (nI 5)
  · exact go (nI 1) (nI 60)
  · exact go (nI 1) (nI 30)
  · exact go (nI 1) (nI 99)
theorem m_isValueNo {x v : Int32} {M : xM} (hx : rg 4 x = false) : f_X7_isValue x v M = some 0 := by
  have ne : ∀ k, k < 4 → ¬ x = nI k := fun k hk e => by
    rw [e, rg_nI hk (by omega)] at hx
    cases hx
  unfold f_X7_isValue
  have n0 : ¬ x = 0 := ne 0 (by omega)
  have n1 : ¬ x = 1 := ne 1 (by omega)
  have n2 : ¬ x = 2 := ne 2 (by omega)
  have n3 : ¬ x = 3 := ne 3 (by omega)
  rw [if_neg n0, if_neg n1, if_neg n2, if_neg n3, nar_0]
theorem isFrom_rg {x : Int32} {M : xM} : f_X6_isFrom 0 x 3 M = some (bI (rg 4 x)) := by
  rw [c_isFrom, show (3 : Int32) = nI 3 from rfl, rg_le (n := 3) (by omega)]
theorem gA.set {D T : Nat} {σ : Nat → Nat → Int32} {W : Nat → List Nat} {U : Nat → Nat} {sq d kp nt k v : Nat} (h : gA D T σ W U sq d kp nt) (hk : k < 4) (h1 : sLo k ≤ v) (h2 : v ≤ sHi k) : ∃ sq' kp' nt', gA D T (ud σ 1 k (nI v)) W U sq' d kp' nt' := by
  obtain ⟨hW, hN, hU, ⟨v1, v2, v3, v4, v5, v6⟩, hd, hB, ⟨l1, l2⟩, hS⟩ := h
  have hi := sHi_le k
  have ot : ∀ o j, o ≠ 1 → ud σ 1 k (nI v) o j = σ o j := fun o j ho => ud_ne _ _ (fun z => ho z.1)
  have on : ∀ j, ud σ 1 k (nI v) 1 j = if j = k then nI v else σ 1 j := by
    intro j
    by_cases e : j = k
    · subst e
      rw [ud_eq, if_pos rfl]
    · rw [ud_col _ _ _ _ e, if_neg e]
  have hlo : k ≠ 0 → 1 ≤ v := fun e => by
    have : sLo k = 1 := by
      rcases (by omega : k = 1 ∨ k = 2 ∨ k = 3) with rfl | rfl | rfl <;> rfl
    omega
  have h0 : k = 0 → v ≤ 5 := fun e => by
    rw [e] at h2
    exact h2
  have h30 : k = 2 → v ≤ 30 := fun e => by
    rw [e] at h2
    exact h2
  refine ⟨if k = 0 then v else sq, if k = 3 then v else kp, if k = 2 then v else nt, hW.congr (fun o j a1 a2 => ot o j (by omega)), fun s hs q hq => ?_, ⟨?_, ?_, fun s hs => ?_⟩, ⟨?_, v2, ?_, ?_, fun q hq => ?_, fun q hq => ?_⟩, hd, hB.congr (fun o j a1 a2 => ot o j (by omega)), ⟨fun q hq hr => ?_, fun s hs q hq => ?_⟩, fun i hi => ?_, ?_, ?_, ?_⟩
  · rw [ot 4 q (by omega)]
    exact hN s hs q hq
  · rw [on]
    by_cases e : k = 0
    · rw [if_pos e.symm, if_pos e]
    · rw [if_neg (fun z => e z.symm), if_neg e]
      exact hU.1
  · by_cases e : k = 0
    · rw [if_pos e]
      exact h0 e
    · rw [if_neg e]
      exact hU.2.1
  · rw [ot 2 s (by omega)]
    exact hU.2.2 s hs
  · rw [ot 0 4 (by omega)]
    exact v1
  · rw [on]
    by_cases e : k = 3
    · rw [if_pos e.symm, if_pos e]
    · rw [if_neg (fun z => e z.symm), if_neg e]
      exact v3
  · split
    · omega
    · exact v4
  · rw [ot 4 q (by omega)]
    exact v5 q hq
  · rw [ot 23 q (by omega)]
    exact v6 q hq
  · rw [ot 4 q (by omega)] at hr
    rw [ot 5 q (by omega)]
    exact l1 q hq hr
  · rw [ot _ q (by omega)]
    exact l2 s hs q hq
  · rw [on]
    split
    · exact ⟨v, by omega, rfl⟩
    · exact hS.1 i hi
  · rw [on]
    by_cases e : k = 2
    · rw [if_pos e.symm, if_pos e]
    · rw [if_neg (fun z => e z.symm), if_neg e]
      exact hS.2.1
  · split
    · next e => exact hlo (by omega)
    · exact hS.2.2.1
  · split
    · next e => exact h30 e
    · exact hS.2.2.2
theorem ch_set {D T : Nat} (hT : D + 99 ≤ T) (x y : Int32) : chOK D T T (f_X5_changeSetting 2 x y) (f_X7_set x y) := by
  rintro M M' ⟨W, U, sq, d, kp, nt, hR, hA⟩
  by_cases hx : rg 4 x = true
  · obtain ⟨k, hk, rfl⟩ := (rg_iff (by omega)).mp hx
    have hk4 : (!decide (nI k < 0) && !decide ((3 : Int32) < nI k)) = true := frm_in (a := 0) (b := 3) (by omega) (by omega) (by omega)
    by_cases hy : (!decide (y < nI (sLo k)) && !decide (nI (sHi k) < y)) = true
    · have hi := sHi_le k
      have hlo : sLo k ≤ 1 := by
        rcases (by omega : k = 0 ∨ k = 1 ∨ k = 2 ∨ k = 3) with rfl | rfl | rfl | rfl <;> decide
      obtain ⟨v, hv1, hv2, rfl⟩ := (frm_nI (a := sLo k) (b := sHi k) (by omega) (by omega)).mp hy
      right
      obtain ⟨v0, v01, v02⟩ := hA.2.2.2.2.2.2.2.1 k hk
      obtain ⟨sq', kp', nt', hA'⟩ := hA.set hk hv1 hv2
      have hm := c_moveUp (r := 2) (M := put M 2 (ud (M.1 2) 1 k (nI v))) (W := W) (U := U) (sp := sq') (by rw [put_get]; exact hA'.1) (by rw [put_get]; exact hA'.2.2.1)
      rw [put_get, put_put] at hm
      refine ⟨nI v0, (zUp U sq' 3 (ud (M.1 2) 1 k (nI v), W)).1, nI_pos (by omega), ?_, fun q3 => if xp_in (nI k) 3540 = true then (if xp_in (nI k) 3540 = true then ((f_X7_movesUp (0 : Int32) (xd_up q3 6 1 (nI k).toNatClampNeg (nI v))).bind (fun q7 => some ((q3.1 6 1 (nI k).toNatClampNeg, q7.2)))) else none) else none, ?_, fun M'' hg => ?_⟩
      · unfold f_X5_changeSetting
        simp (disch := omega) only [hk4, Option.bind_some, ite_bI, if_true, in_nI, cl_nI, sLo_at k hk, sHi_at k hk, c_isFrom, hy, up_put, hm, v02]
      · unfold f_X7_set
        simp only [m_isValue hk, hy, Option.bind_some, ite_bI, if_true]
      · have hR' := (hR.agree hA.1 hg).own (k := k) (o := 1) (f := k) (v := nI v) hA.1 (by omega)
        rw [Nat.zero_add] at hR'
        obtain ⟨t, t1, t2, t3⟩ := m_movesUp (b := 0) (sq := sq') (M := sp M'' (us (M''.1 6 1) k (nI v))) (by omega) (by rw [sp_get]; exact hR') hA'.1 hA'.2.1 hA'.2.2.1
        rw [sp_sp] at t1
        rw [sp_get] at t3
        have t1 : f_X7_movesUp 0 (sp M'' (us (M''.1 6 1) k (nI v))) = _ := t1
        have e0 : M''.1 6 1 k = nI v0 := by
          have := (hR.agree hA.1 hg).1.1 k hk
          rw [Nat.zero_add] at this
          exact this.trans v02
        refine ⟨t, ?_, ⟨_, U, sq', d, kp', nt', t2, gA.up (q := (ud (M.1 2) 1 k (nI v), W)) hA' hT 3 (Nat.le_refl 3)⟩, ?_⟩
        · simp (disch := omega) only [in_nI, cl_nI, if_true, up_sp, t1, e0, Option.bind_some]
        · exact ((mFr.refl _ _).us (by omega)).trans t3
    · left
      refine ⟨-2, i_neg2, ?_, ?_⟩
      · unfold f_X5_changeSetting
        simp (disch := omega) only [hk4, Option.bind_some, ite_bI, if_true, in_nI, cl_nI, sLo_at k hk, sHi_at k hk, c_isFrom, hy, Bool.false_eq_true, if_false]
      · unfold f_X7_set
        simp only [m_isValue hk, hy, Option.bind_some, ite_bI, Bool.false_eq_true, if_false]
  · left
    refine ⟨-2, i_neg2, ?_, ?_⟩
    · unfold f_X5_changeSetting
      simp only [isFrom_rg, hx, Option.bind_some, ite_bI, Bool.false_eq_true, if_false]
    · unfold f_X7_set
      rw [m_isValueNo (Bool.eq_false_iff.mpr hx), Option.bind_some, if_pos rfl]
