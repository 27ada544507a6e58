/-! questions: their values -/
theorem hb_id (a : Option Int32) : a.bind (fun q3 => some q3) = a := by cases a <;> rfl
def vP (σ : Nat → Nat → Int32) (p : Nat) : Nat → Int32
  | 0 => σ 4 p
  | 1 => σ 5 p
  | 2 => zWait σ p 3
  | 3 => σ 19 p
  | 4 => σ 20 p
  | 5 => if σ 19 p = -6 then -6 else σ 0 4 - σ 21 p
  | 6 => σ 22 p
  | 7 => if σ 23 p = -6 then -6 else σ 0 4 - σ 23 p
  | _ => σ 24 p
def vC (σ : Nat → Nat → Int32) : Nat → Int32
  | 0 => σ 1 0
  | 1 => σ 1 1
  | 2 => σ 1 2
  | 3 => σ 1 3
  | 4 => σ 0 4
  | 5 => nI (cnt (fun p => !decide (σ 4 p = -6)) 20)
  | 6 => nI (cnt (fun p => !decide (zWait σ p 3 = 0)) 20)
  | 7 => nI (cnt (fun p => !decide (σ 19 p = -6)) 20)
  | 8 => nI (cnt (fun p => !decide (σ 22 p = -6)) 20)
  | 9 => nI (cnt (fun p => !decide (σ 23 p = -6)) 20)
  | 10 => sumI (σ 24) 20
  | 11 => σ 18 6
  | _ => σ 3 5
theorem c_about {p : Nat} {y : Int32} {M : xM} (hp : p < 20) : f_X6_person (nI p) y M = f_X5_aboutPerson 2 (nI p) y M := by
  unfold f_X6_person
  simp only [c_isPerson, rg_nI hp (show 20 < 2 ^ 31 by omega), Option.bind_some, ite_bI, if_true]
  exact hb_id _
theorem c_person {p f : Nat} {M : xM} (hp : p < 20) (hf : f < 9) : f_X6_person (nI p) (nI f) M = some (vP (M.1 2) p f) := by
  rw [c_about hp]
  unfold f_X5_aboutPerson
  rcases (by omega : f = 0 ∨ f = 1 ∨ f = 2 ∨ f = 3 ∨ f = 4 ∨ f = 5 ∨ f = 6 ∨ f = 7 ∨ f = 8) with rfl | rfl | rfl | rfl | rfl | rfl | rfl | rfl | rfl
  · rw [if_pos (show nI 0 = 0 from rfl)]
    simp (disch := omega) only [if_true, in_nI, cl_nI]
    rfl
  · rw [if_neg (show ¬ nI 1 = 0 by decide), if_pos (show nI 1 = 1 from rfl)]
    simp (disch := omega) only [if_true, in_nI, cl_nI]
    rfl
  · rw [if_neg (show ¬ nI 2 = 0 by decide), if_neg (show ¬ nI 2 = 1 by decide), if_pos (show nI 2 = 2 from rfl)]
    rw [c_shedsWaitedFor hp]
    rfl
  · rw [if_neg (show ¬ nI 3 = 0 by decide), if_neg (show ¬ nI 3 = 1 by decide), if_neg (show ¬ nI 3 = 2 by decide), if_pos (show nI 3 = 3 from rfl)]
    simp (disch := omega) only [if_true, in_nI, cl_nI]
    rfl
  · rw [if_neg (show ¬ nI 4 = 0 by decide), if_neg (show ¬ nI 4 = 1 by decide), if_neg (show ¬ nI 4 = 2 by decide), if_neg (show ¬ nI 4 = 3 by decide), if_pos (show nI 4 = 4 from rfl)]
    simp (disch := omega) only [if_true, in_nI, cl_nI]
    rfl
  · rw [if_neg (show ¬ nI 5 = 0 by decide), if_neg (show ¬ nI 5 = 1 by decide), if_neg (show ¬ nI 5 = 2 by decide), if_neg (show ¬ nI 5 = 3 by decide), if_neg (show ¬ nI 5 = 4 by decide), if_pos (show nI 5 = 5 from rfl)]
    simp (disch := omega) only [c_isInRack hp, Option.bind_some, ite_bI, in_nI, cl_nI, if_true]
    show _ = some (if M.1 2 19 p = -6 then -6 else _)
    by_cases z : M.1 2 19 p = -6
    · rw [if_pos z, decide_eq_true z]
      rfl
    · rw [if_neg z, decide_eq_false z]
      rfl
  · rw [if_neg (show ¬ nI 6 = 0 by decide), if_neg (show ¬ nI 6 = 1 by decide), if_neg (show ¬ nI 6 = 2 by decide), if_neg (show ¬ nI 6 = 3 by decide), if_neg (show ¬ nI 6 = 4 by decide), if_neg (show ¬ nI 6 = 5 by decide), if_pos (show nI 6 = 6 from rfl)]
    simp (disch := omega) only [if_true, in_nI, cl_nI]
    rfl
  · rw [if_neg (show ¬ nI 7 = 0 by decide), if_neg (show ¬ nI 7 = 1 by decide), if_neg (show ¬ nI 7 = 2 by decide), if_neg (show ¬ nI 7 = 3 by decide), if_neg (show ¬ nI 7 = 4 by decide), if_neg (show ¬ nI 7 = 5 by decide), if_neg (show ¬ nI 7 = 6 by decide), if_pos (show nI 7 = 7 from rfl)]
    simp (disch := omega) only [c_isInPound hp, Option.bind_some, ite_bI, in_nI, cl_nI, if_true]
    show _ = some (if M.1 2 23 p = -6 then -6 else _)
    by_cases z : M.1 2 23 p = -6
    · rw [if_pos z, decide_eq_true z]
      rfl
    · rw [if_neg z, decide_eq_false z]
      rfl
  · rw [if_neg (show ¬ nI 8 = 0 by decide), if_neg (show ¬ nI 8 = 1 by decide), if_neg (show ¬ nI 8 = 2 by decide), if_neg (show ¬ nI 8 = 3 by decide), if_neg (show ¬ nI 8 = 4 by decide), if_neg (show ¬ nI 8 = 5 by decide), if_neg (show ¬ nI 8 = 6 by decide), if_neg (show ¬ nI 8 = 7 by decide), if_pos (show nI 8 = 8 from rfl)]
    simp (disch := omega) only [if_true, in_nI, cl_nI]
    rfl
theorem c_count {w : Nat} {M : xM} (hw : w < 13) : f_X6_count (nI w) M = some (vC (M.1 2) w) := by
  unfold f_X6_count
  rw [if_neg (show ¬ nI w = 13 from fun e => by have := (nI_eq (b := 13) (by omega) (by omega)).mp e; omega), if_neg (show ¬ nI w = 14 from fun e => by have := (nI_eq (b := 14) (by omega) (by omega)).mp e; omega), hb_id]
  unfold f_X5_aboutAll
  rcases (by omega : w = 0 ∨ w = 1 ∨ w = 2 ∨ w = 3 ∨ w = 4 ∨ w = 5 ∨ w = 6 ∨ w = 7 ∨ w = 8 ∨ w = 9 ∨ w = 10 ∨ w = 11 ∨ w = 12) with rfl | rfl | rfl | rfl | rfl | rfl | rfl | rfl | rfl | rfl | rfl | rfl | rfl
  · rw [if_pos (show nI 0 = 0 from rfl)]
    simp (disch := omega) only [if_true, in_nI, cl_nI]
    rfl
  · rw [if_neg (show ¬ nI 1 = 0 by decide), if_pos (show nI 1 = 1 from rfl)]
    simp (disch := omega) only [if_true, in_nI, cl_nI]
    rfl
  · rw [if_neg (show ¬ nI 2 = 0 by decide), if_neg (show ¬ nI 2 = 1 by decide), if_pos (show nI 2 = 2 from rfl)]
    simp (disch := omega) only [if_true, in_nI, cl_nI]
    rfl
  · rw [if_neg (show ¬ nI 3 = 0 by decide), if_neg (show ¬ nI 3 = 1 by decide), if_neg (show ¬ nI 3 = 2 by decide), if_pos (show nI 3 = 3 from rfl)]
    simp (disch := omega) only [if_true, in_nI, cl_nI]
    rfl
  · rw [if_neg (show ¬ nI 4 = 0 by decide), if_neg (show ¬ nI 4 = 1 by decide), if_neg (show ¬ nI 4 = 2 by decide), if_neg (show ¬ nI 4 = 3 by decide), if_pos (show nI 4 = 4 from rfl)]
    rfl
  · rw [if_neg (show ¬ nI 5 = 0 by decide), if_neg (show ¬ nI 5 = 1 by decide), if_neg (show ¬ nI 5 = 2 by decide), if_neg (show ¬ nI 5 = 3 by decide), if_neg (show ¬ nI 5 = 4 by decide), if_pos (show nI 5 = 5 from rfl)]
    unfold f_X4_countAll
    rw [c_countPeople]
    rfl
  · rw [if_neg (show ¬ nI 6 = 0 by decide), if_neg (show ¬ nI 6 = 1 by decide), if_neg (show ¬ nI 6 = 2 by decide), if_neg (show ¬ nI 6 = 3 by decide), if_neg (show ¬ nI 6 = 4 by decide), if_neg (show ¬ nI 6 = 5 by decide), if_pos (show nI 6 = 6 from rfl)]
    rw [c_countAllWaiting]
    rfl
  · rw [if_neg (show ¬ nI 7 = 0 by decide), if_neg (show ¬ nI 7 = 1 by decide), if_neg (show ¬ nI 7 = 2 by decide), if_neg (show ¬ nI 7 = 3 by decide), if_neg (show ¬ nI 7 = 4 by decide), if_neg (show ¬ nI 7 = 5 by decide), if_neg (show ¬ nI 7 = 6 by decide), if_pos (show nI 7 = 7 from rfl)]
    unfold f_X0_countInRacks
    rw [c_countPeople]
    rfl
  · rw [if_neg (show ¬ nI 8 = 0 by decide), if_neg (show ¬ nI 8 = 1 by decide), if_neg (show ¬ nI 8 = 2 by decide), if_neg (show ¬ nI 8 = 3 by decide), if_neg (show ¬ nI 8 = 4 by decide), if_neg (show ¬ nI 8 = 5 by decide), if_neg (show ¬ nI 8 = 6 by decide), if_neg (show ¬ nI 8 = 7 by decide), if_pos (show nI 8 = 8 from rfl)]
    unfold f_X0_countAllTagged
    rw [c_countPeople]
    rfl
  · rw [if_neg (show ¬ nI 9 = 0 by decide), if_neg (show ¬ nI 9 = 1 by decide), if_neg (show ¬ nI 9 = 2 by decide), if_neg (show ¬ nI 9 = 3 by decide), if_neg (show ¬ nI 9 = 4 by decide), if_neg (show ¬ nI 9 = 5 by decide), if_neg (show ¬ nI 9 = 6 by decide), if_neg (show ¬ nI 9 = 7 by decide), if_neg (show ¬ nI 9 = 8 by decide), if_pos (show nI 9 = 9 from rfl)]
    unfold f_X0_countInPound
    rw [c_countPeople]
    rfl
  · rw [if_neg (show ¬ nI 10 = 0 by decide), if_neg (show ¬ nI 10 = 1 by decide), if_neg (show ¬ nI 10 = 2 by decide), if_neg (show ¬ nI 10 = 3 by decide), if_neg (show ¬ nI 10 = 4 by decide), if_neg (show ¬ nI 10 = 5 by decide), if_neg (show ¬ nI 10 = 6 by decide), if_neg (show ¬ nI 10 = 7 by decide), if_neg (show ¬ nI 10 = 8 by decide), if_neg (show ¬ nI 10 = 9 by decide), if_pos (show nI 10 = 10 from rfl)]
    rw [c_countSold]
    rfl
  · rw [if_neg (show ¬ nI 11 = 0 by decide), if_neg (show ¬ nI 11 = 1 by decide), if_neg (show ¬ nI 11 = 2 by decide), if_neg (show ¬ nI 11 = 3 by decide), if_neg (show ¬ nI 11 = 4 by decide), if_neg (show ¬ nI 11 = 5 by decide), if_neg (show ¬ nI 11 = 6 by decide), if_neg (show ¬ nI 11 = 7 by decide), if_neg (show ¬ nI 11 = 8 by decide), if_neg (show ¬ nI 11 = 9 by decide), if_neg (show ¬ nI 11 = 10 by decide), if_pos (show nI 11 = 11 from rfl)]
    rfl
  · rw [if_neg (show ¬ nI 12 = 0 by decide), if_neg (show ¬ nI 12 = 1 by decide), if_neg (show ¬ nI 12 = 2 by decide), if_neg (show ¬ nI 12 = 3 by decide), if_neg (show ¬ nI 12 = 4 by decide), if_neg (show ¬ nI 12 = 5 by decide), if_neg (show ¬ nI 12 = 6 by decide), if_neg (show ¬ nI 12 = 7 by decide), if_neg (show ¬ nI 12 = 8 by decide), if_neg (show ¬ nI 12 = 9 by decide), if_neg (show ¬ nI 12 = 10 by decide), if_neg (show ¬ nI 12 = 11 by decide), if_pos (show nI 12 = 12 from rfl)]
    rfl
theorem c_count14 {M : xM} {n : Nat} (h : M.1 5 76 1 = nI n) : f_X6_count (14 : Int32) M = some (nI n) := by
  unfold f_X6_count
  rw [if_neg (by decide), if_pos rfl, h]
def vS (σ : Nat → Nat → Int32) (n L sh : Nat) : Nat → Int32
  | 0 => σ 2 sh
  | 1 => nI n
  | 2 => nI (cnt (fun p => decide (σ 4 p = nI sh)) 20)
  | 3 => nI L
  | 4 => orB (fun p => decide (σ 19 p = nI sh)) (σ 20) 20
  | 5 => orB (fun p => decide (σ 19 p = nI sh) && !decide (σ 22 p = -6)) (σ 20) 20
  | _ => orB (fun p => decide (σ 19 p = nI sh) && !decide (σ 4 p = σ 19 p)) (σ 20) 20
theorem c_shed {f sh sq : Nat} {W : Nat → List Nat} {U : Nat → Nat} {M : xM} (hs : sh < 3) (hf : f < 7) (hc : cW (M.1 2) W) (hU : cU (M.1 2) U sq) : f_X6_shed (nI sh) (nI f) M = some (vS (M.1 2) (pcnt (U sh) + sq) (W sh).length sh f) := by
  unfold f_X6_shed
  simp only [c_isShed, rg3_nI hs, Option.bind_some, ite_bI, if_true, hb_id]
  unfold f_X5_aboutShed
  simp only [hb_id]
  rcases (by omega : f = 0 ∨ f = 1 ∨ f = 2 ∨ f = 3 ∨ f = 4 ∨ f = 5 ∨ f = 6) with rfl | rfl | rfl | rfl | rfl | rfl | rfl
  · rw [if_pos (show nI 0 = 0 from rfl)]
    simp (disch := omega) only [if_true, in_nI, cl_nI]
    rfl
  · rw [if_neg (show ¬ nI 1 = 0 by decide), if_pos (show nI 1 = 1 from rfl)]
    rw [c_permits hs (hU.2.2 sh hs).1 (hU.2.2 sh hs).2 hU.1]
    rfl
  · rw [if_neg (show ¬ nI 2 = 0 by decide), if_neg (show ¬ nI 2 = 1 by decide), if_pos (show nI 2 = 2 from rfl)]
    rw [c_countOf]
    rfl
  · rw [if_neg (show ¬ nI 3 = 0 by decide), if_neg (show ¬ nI 3 = 1 by decide), if_neg (show ¬ nI 3 = 2 by decide), if_pos (show nI 3 = 3 from rfl)]
    rw [c_countWaiting hs, (hc sh hs).cnt]
    rfl
  · rw [if_neg (show ¬ nI 4 = 0 by decide), if_neg (show ¬ nI 4 = 1 by decide), if_neg (show ¬ nI 4 = 2 by decide), if_neg (show ¬ nI 4 = 3 by decide), if_pos (show nI 4 = 4 from rfl)]
    rw [c_racksTaken]
    rfl
  · rw [if_neg (show ¬ nI 5 = 0 by decide), if_neg (show ¬ nI 5 = 1 by decide), if_neg (show ¬ nI 5 = 2 by decide), if_neg (show ¬ nI 5 = 3 by decide), if_neg (show ¬ nI 5 = 4 by decide), if_pos (show nI 5 = 5 from rfl)]
    rw [c_racksTagged]
    rfl
  · rw [if_neg (show ¬ nI 6 = 0 by decide), if_neg (show ¬ nI 6 = 1 by decide), if_neg (show ¬ nI 6 = 2 by decide), if_neg (show ¬ nI 6 = 3 by decide), if_neg (show ¬ nI 6 = 4 by decide), if_neg (show ¬ nI 6 = 5 by decide), if_pos (show nI 6 = 6 from rfl)]
    rw [c_racksWithout]
    rfl
def vW (σ : Nat → Nat → Int32) (sh p : Nat) : Nat → Int32
  | 0 => nI p
  | 1 => σ (11 + sh) p
  | _ => σ (15 + sh) p
theorem c_waiting {f sh k p : Nat} {W : Nat → List Nat} {M : xM} (hs : sh < 3) (hf : f < 3) (hc : cW (M.1 2) W) (hg : (W sh)[k]? = some p) : f_X6_waiting (nI sh) (nI k) (nI f) M = some (vW (M.1 2) sh p f) := by
  have hrow := hc sh hs
  have hp := (hrow.lt hg).2
  have hk := (hrow.lt hg).1
  have hw : f_X4_whoIsAt 2 (nI sh) (nI k) M = some (nI p) := c_who_some hp hs (nI_ne6 (by omega)) (hrow.at hg) (fun q hq e => by
    rcases hrow.2.2 q (by omega) with ⟨-, e2⟩ | ⟨k', e2, e3⟩
    · exact nI_ne6 (by omega) (e.symm.trans e2)
    · have hk' := (hrow.lt e2).1
      have : k' = k := (nI_eq (by omega) (by omega)).mp (e3.symm.trans e)
      subst this
      have : some q = some p := e2.symm.trans hg
      have : q = p := Option.some.inj this
      omega)
  unfold f_X6_waiting
  simp only [c_isShed, rg3_nI hs, Option.bind_some, ite_bI, if_true, hb_id]
  unfold f_X4_aboutPlace
  simp (disch := omega) only [hw, Option.bind_some, c_isPerson, rg_nI hp (show 20 < 2 ^ 31 by omega), ite_bI, if_true, in_nI, cl_nI]
  rw [show 10 + 1 + sh = 11 + sh by omega, show 14 + 1 + sh = 15 + sh by omega]
  rcases (by omega : f = 0 ∨ f = 1 ∨ f = 2) with rfl | rfl | rfl
  · exact if_pos rfl
  · rw [if_neg (by decide), if_pos (show nI 1 = 1 from rfl)]
    rfl
  · rw [if_neg (by decide), if_neg (by decide), if_pos (show nI 2 = 2 from rfl)]
    rfl
theorem c_waitingNo {sh : Nat} {z : Int32} {W : Nat → List Nat} {M : xM} (hs : sh < 3) (hc : cW (M.1 2) W) : f_X6_waiting (nI sh) (nI (W sh).length) z M = some (-1) := by
  have hrow := hc sh hs
  have hlen := hrow.len
  have hw : f_X4_whoIsAt 2 (nI sh) (nI (W sh).length) M = some (-6) := c_who_none hs (fun q hq => by
    rcases hrow.2.2 q hq with ⟨-, e2⟩ | ⟨k', e2, e3⟩
    · exact Or.inl e2
    · right
      intro e
      have hlt : k' < (W sh).length := (List.getElem?_eq_some_iff.mp e2).1
      have := (nI_eq (by omega) (by omega)).mp (e3.symm.trans e)
      omega)
  unfold f_X6_waiting
  simp only [c_isShed, rg3_nI hs, Option.bind_some, ite_bI, if_true, hb_id]
  unfold f_X4_aboutPlace
  simp only [hw, Option.bind_some, c_isPerson, rg_6, ite_bI, Bool.false_eq_true, if_false]
/-! the number that all is mixed to -/
def prA (σ : Nat → Nat → Int32) : Nat → Int64
  | 0 => 7
  | k + 1 => ((31 : Int64) * prA σ k) + (vC σ k).toInt64
def prB (σ : Nat → Nat → Int32) : Nat → Int64
  | 0 => prA σ 13
  | k + 1 => ((31 : Int64) * prB σ k) + (vP σ (k / 9) (k % 9)).toInt64
def prL (σ : Nat → Nat → Int32) (sh : Nat) (l : List Nat) (h : Int64) : Nat → Int64
  | 0 => h
  | k + 1 => ((31 : Int64) * ((((31 : Int64) * prL σ sh l h k) + ((100 : Int64) * (vW σ sh (l.getD k 0) 0).toInt64)) + (vW σ sh (l.getD k 0) 1).toInt64)) + (vW σ sh (l.getD k 0) 2).toInt64
def prD (σ : Nat → Nat → Int32) (W : Nat → List Nat) : Nat → Int64
  | 0 => prB σ 180
  | k + 1 => prL σ k (W k) (((31 : Int64) * prD σ W k) + (σ 2 k).toInt64) (W k).length
theorem div9 : ∀ k, k < 180 → nI k / (9 : Int32) = nI (k / 9) ∧ nI k - nI k / (9 : Int32) * (9 : Int32) = nI (k % 9) := by decide +kernel
theorem c_print {sq : Nat} {W : Nat → List Nat} {U : Nat → Nat} {M : xM} (hc : cW (M.1 2) W) (hU : cU (M.1 2) U sq) : f_L_print M = some (prD (M.1 2) W 3) := by
  have h3 : xlp (f_L_print_l68 M) 4000 (prB (M.1 2) 180, (0 : Int32)) = some (prD (M.1 2) W 3) := by
    refine xlp_for (body := f_L_print_l68 M) (q := prD (M.1 2) W 3) (f := fun k => (prD (M.1 2) W k, nI k)) 3 4000 (by omega) (fun k hk => ?_) rfl
    unfold f_L_print_l68
    dsimp only
    have e0 := c_shed (f := 0) (M := M) hk (by omega) hc hU
    have e0 : f_X6_shed (nI k) 0 M = _ := e0
    rw [if_pos (show nI k < 3 from nI_lt (b := 3) hk (by omega)), e0, Option.bind_some]
    refine (xlp_for (body := f_L_print_l90_68 (nI k) M) (q := (.inl (prD (M.1 2) W (k + 1), nI (k + 1)))) (f := fun j => (prL (M.1 2) k (W k) (((31 : Int64) * prD (M.1 2) W k) + (M.1 2 2 k).toInt64) j, nI j)) (W k).length 4000 (by have := (hc k hk).len; omega) (fun j hj => ?_) ?_)
    · have e3 := c_shed (f := 3) (M := M) hk (by omega) hc hU
      have e3 : f_X6_shed (nI k) 3 M = some (nI (W k).length) := e3
      have hlen := (hc k hk).len
      have hg : (W k)[j]? = some ((W k).getD j 0) := by
        rw [List.getD_eq_getElem?_getD, List.getElem?_eq_getElem hj]
        rfl
      have w0 := c_waiting (f := 0) (M := M) hk (by omega) hc hg
      have w1 := c_waiting (f := 1) (M := M) hk (by omega) hc hg
      have w2 := c_waiting (f := 2) (M := M) hk (by omega) hc hg
      have w0 : f_X6_waiting (nI k) (nI j) 0 M = _ := w0
      have w1 : f_X6_waiting (nI k) (nI j) 1 M = _ := w1
      have w2 : f_X6_waiting (nI k) (nI j) 2 M = _ := w2
      unfold f_L_print_l90_68
      dsimp only
      rw [e3, Option.bind_some, if_pos (nI_lt hj (by omega)), w0, Option.bind_some, w1, Option.bind_some, w2, Option.bind_some, up_1]
      rfl
    · have e3 := c_shed (f := 3) (M := M) hk (by omega) hc hU
      have e3 : f_X6_shed (nI k) 3 M = some (nI (W k).length) := e3
      have hlen := (hc k hk).len
      unfold f_L_print_l90_68
      dsimp only
      rw [e3, Option.bind_some, if_neg (nI_nlt (Nat.le_refl _) (by omega)), up_1]
      rfl
  have h2 : xlp (f_L_print_l33 M) 4000 (prA (M.1 2) 13, (0 : Int32)) = some (prD (M.1 2) W 3) := by
    refine xlp_for (body := f_L_print_l33 M) (q := prD (M.1 2) W 3) (f := fun k => (prB (M.1 2) k, nI k)) 180 4000 (by omega) (fun k hk => ?_) ?_
    · unfold f_L_print_l33
      dsimp only
      rw [if_pos (show nI k < 180 from nI_lt (b := 180) hk (by omega)), (div9 k hk).2, (div9 k hk).1, c_person (by omega) (by omega), Option.bind_some, up_1]
      rfl
    · unfold f_L_print_l33
      dsimp only
      rw [if_neg (show ¬ nI 180 < 180 by decide)]
      show Option.map Sum.inr (xlp (f_L_print_l68 M) 4000 (prB (M.1 2) 180, (0 : Int32))) = _
      rw [h3]
      rfl
  unfold f_L_print
  refine xlp_for (body := f_L_print_l6 M) (q := prD (M.1 2) W 3) (f := fun k => (prA (M.1 2) k, nI k)) 13 4000 (by omega) (fun k hk => ?_) ?_
  · unfold f_L_print_l6
    dsimp only
    rw [if_pos (show nI k < 13 from nI_lt (b := 13) hk (by omega)), c_count hk, Option.bind_some, up_1]
    rfl
  · unfold f_L_print_l6
    dsimp only
    rw [if_neg (show ¬ nI 13 < 13 by decide)]
    show Option.map Sum.inr (xlp (f_L_print_l33 M) 4000 (prA (M.1 2) 13, (0 : Int32))) = _
    rw [h2]
    rfl
theorem sZ.print {D T Bg Bt : Nat} {σ : Nat → Nat → Int32} (h : sZ D T Bg Bt σ) : ∃ v : Int64, ∀ M : xM, M.1 2 = σ → f_L_print M = some v := by
  obtain ⟨W, U, sq, d, kp, nt, hA, -⟩ := h
  refine ⟨prD σ W 3, fun M hM => ?_⟩
  subst hM
  exact c_print hA.1 hA.2.2.1
theorem lg_same (v : Int64) : lg_cmp v v = 0 := by
  unfold lg_cmp
  rw [if_neg (show ¬ v > v from Int64.lt_irrefl), if_pos rfl]
