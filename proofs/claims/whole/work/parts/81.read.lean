/-! reading of texts -/
def cm (M : xM) (τ : Nat → Nat → Int32) (g : Nat → Int32) : xM := rp (put M 2 τ) 5 79 g
def mm (M : xM) (h t : Nat → Int32) : xM := sp (rp M 6 0 h) t
theorem cm_79 (M : xM) (τ : Nat → Nat → Int32) (g : Nat → Int32) : (cm M τ g).1 5 79 = g := rp_get _ _ _ _
theorem cm_5 (M : xM) (τ : Nat → Nat → Int32) (g : Nat → Int32) {o : Nat} (h : o ≠ 79) : (cm M τ g).1 5 o = M.1 5 o := by
  unfold cm
  rw [rp_ne _ _ (by omega), put_ne _ _ (by omega)]
theorem cm_2 (M : xM) (τ : Nat → Nat → Int32) (g : Nat → Int32) : (cm M τ g).1 2 = τ := by
  rw [← put_get M 2 τ]
  funext o
  exact rp_ne _ _ (by omega)
theorem cm_r (M : xM) (τ : Nat → Nat → Int32) (g : Nat → Int32) {r : Nat} (h5 : r ≠ 5) (h2 : r ≠ 2) : (cm M τ g).1 r = M.1 r := by
  rw [← put_ne M τ h2]
  funext o
  exact rp_ne _ _ (by omega)
theorem cm_up (M : xM) (τ : Nat → Nat → Int32) (g : Nat → Int32) (j : Nat) (v : Int32) : xd_up (cm M τ g) 5 79 j v = cm M τ (us g j v) := by
  rw [up_rp, cm_79]
  exact rp_rp _ _ _ _ _
theorem cm_put (M : xM) (τ τ' : Nat → Nat → Int32) (g : Nat → Int32) : put (cm M τ g) 2 τ' = cm M τ' g := by
  refine Prod.ext ?_ rfl
  funext r o
  show (if r = 2 then τ' else fun o => if r = 5 ∧ o = 79 then g else (if r = 2 then τ else M.1 r) o) o = if r = 5 ∧ o = 79 then g else (if r = 2 then τ' else M.1 r) o
  by_cases a : r = 2
  · rw [if_pos a, if_neg (by omega), if_pos a]
  · rw [if_neg a]
    by_cases b : r = 5 ∧ o = 79
    · rw [if_pos b, if_pos b]
    · rw [if_neg b, if_neg b, if_neg a, if_neg a]
theorem cm_self (M : xM) : cm M (M.1 2) (M.1 5 79) = M := by
  unfold cm
  rw [put_self, rp_self]
theorem mm_0 (M : xM) (h t : Nat → Int32) : (mm M h t).1 6 0 = h := by
  unfold mm
  rw [sp_ne _ _ (by omega), rp_get]
theorem mm_1 (M : xM) (h t : Nat → Int32) : (mm M h t).1 6 1 = t := sp_get _ _
theorem mm_o (M : xM) (h t : Nat → Int32) {r o : Nat} (h0 : ¬ (r = 6 ∧ o = 0)) (h1 : ¬ (r = 6 ∧ o = 1)) : (mm M h t).1 r o = M.1 r o := by
  unfold mm
  rw [sp_ne _ _ h1, rp_ne _ _ h0]
theorem mm_up (M : xM) (h t : Nat → Int32) (j : Nat) (v : Int32) : xd_up (mm M h t) 6 0 j v = mm M (us h j v) t := by
  rw [up_rp, mm_0]
  refine Prod.ext ?_ rfl
  funext r o
  show (if r = 6 ∧ o = 0 then us h j v else if r = 6 ∧ o = 1 then t else if r = 6 ∧ o = 0 then h else M.1 r o) = if r = 6 ∧ o = 1 then t else if r = 6 ∧ o = 0 then us h j v else M.1 r o
  by_cases a : r = 6 ∧ o = 0
  · rw [if_pos a, if_neg (by omega), if_pos a]
  · rw [if_neg a, if_neg a, if_neg a]
theorem mm_sp (M : xM) (h t t' : Nat → Int32) : sp (mm M h t) t' = mm M h t' := sp_sp _ _ _
theorem mm_self (M : xM) : mm M (M.1 6 0) (M.1 6 1) = M := by
  unfold mm
  rw [rp_self, sp_self]
def cT (M : xM) (L : Nat) (ch : Nat → Nat) : Prop := L ≤ 60 ∧ (∀ i, ch i < 127) ∧ (∀ i, L ≤ i → ch i = 0) ∧ M.1 5 80 1 = nI L ∧ ∀ i, i < L → M.1 5 81 i = nI (ch i)
def mT (M : xM) (L : Nat) (ch : Nat → Nat) : Prop := L ≤ 60 ∧ (∀ i, ch i < 127) ∧ (∀ i, L ≤ i → ch i = 0) ∧ (∀ i, i < L → 33 ≤ ch i) ∧ ∀ i, i < L → M.1 6 3 i = nI (ch i)
theorem nar_c : ∀ c, c < 127 → vp_nar .char (nI c) = nI c := by decide +kernel
theorem fit_c : ∀ c, c < 127 → xd_fitI .char (nI c) = true := by decide +kernel
theorem c_at {M : xM} {L i : Nat} {ch : Nat → Nat} {τ : Nat → Nat → Int32} {g : Nat → Int32} (hT : cT M L ch) (hi : i ≤ 100) : f_X3_characterAt (nI i) (cm M τ g) = some (nI (ch i)) := by
  obtain ⟨t1, t2, t3, t4, t5⟩ := hT
  unfold f_X3_characterAt
  rw [if_neg (nI_pos (by omega)), cm_5 _ _ _ (by omega), cm_5 _ _ _ (by omega), t4]
  by_cases h : i < L
  · rw [if_pos (nI_lt h (by omega)), if_pos (in_nI (by omega) (by omega)), cl_nI (by omega), t5 i h, nar_c _ (t2 i)]
  · rw [if_neg (nI_nlt (by omega) (by omega)), t3 i (by omega)]
    exact congrArg some (nar_c 0 (by omega))
theorem c_rf {M : xM} {L i a b : Nat} {ch : Nat → Nat} {τ : Nat → Nat → Int32} {g : Nat → Int32} (hT : cT M L ch) (hi : i ≤ 100) (hg : g 1 = nI i) (ha : a < 2 ^ 31) (hb : b < 2 ^ 31) : f_X1_readFrom (nI a) (nI b) (cm M τ g) = if a ≤ ch i ∧ ch i ≤ b then some (1, cm M τ (us (us g 2 (nI (ch i))) 1 (nI (i + 1)))) else some (0, cm M τ g) := by
  have hc := hT.2.1 i
  unfold f_X1_readFrom
  rw [cm_79, hg, c_at hT hi, Option.bind_some, nar_0, nar_1, cm_up, cm_79, cm_up, us_ne _ _ (by omega), hg, aI_1, if_pos (fit_c _ hc)]
  by_cases h : a ≤ ch i ∧ ch i ≤ b
  · rw [if_neg (nI_nlt h.1 (by omega)), if_neg (nI_nlt h.2 hb), if_pos h]
  · rw [if_neg h]
    by_cases h2 : ch i < a
    · rw [if_pos (nI_lt h2 ha)]
    · rw [if_neg (nI_nlt (by omega) (by omega)), if_pos (nI_lt (by omega) (by omega))]
theorem c_ro {M : xM} {L i a : Nat} {ch : Nat → Nat} {τ : Nat → Nat → Int32} {g : Nat → Int32} (hT : cT M L ch) (hi : i ≤ 100) (hg : g 1 = nI i) (ha : a < 2 ^ 31) : f_X1_readOne (nI a) (cm M τ g) = if ch i = a then some (1, cm M τ (us (us g 2 (nI (ch i))) 1 (nI (i + 1)))) else some (0, cm M τ g) := by
  unfold f_X1_readOne
  rw [c_rf hT hi hg ha ha]
  by_cases h : ch i = a
  · rw [if_pos (by omega), if_pos h, Option.bind_some, nar_1]
  · rw [if_neg (by omega), if_neg h, Option.bind_some, nar_0]
/-! what a text says, as numbers -/
def sP (ch : Nat → Nat) (i : Nat) : Bool := decide (48 ≤ ch i ∧ ch i ≤ 50)
def nP (ch : Nat → Nat) (i : Nat) : Bool × (Nat × Nat) := if 49 ≤ ch i ∧ ch i ≤ 57 then (if 48 ≤ ch (i + 1) ∧ ch (i + 1) ≤ 57 then (true, (i + 2, 10 * (ch i - 48) + (ch (i + 1) - 48))) else (true, (i + 1, ch i - 48))) else (false, (i, 0))
theorem sub48 {a b : Nat} (h : b ≤ a) : nI a - nI b = nI (a - b) := sub_nI h
theorem c_shed {M : xM} {L i : Nat} {ch : Nat → Nat} {τ : Nat → Nat → Int32} {g : Nat → Int32} (hT : cT M L ch) (hi : i ≤ 100) (hg : g 1 = nI i) : ∃ g', f_X1_readShed (cm M τ g) = some (bI (sP ch i), cm M τ g') ∧ g' 1 = nI (if sP ch i = true then i + 1 else i) ∧ (sP ch i = true → g' 5 = nI (ch i - 48)) ∧ g' 3 = g 3 ∧ g' 4 = g 4 := by
  have hr : f_X1_readFrom 48 50 (cm M τ g) = _ := c_rf (a := 48) (b := 50) hT hi hg (by omega) (by omega)
  unfold f_X1_readShed sP
  rw [hr, nar_0, nar_1]
  by_cases h : 48 ≤ ch i ∧ ch i ≤ 50
  · rw [if_pos h, Option.bind_some, decide_eq_true h, if_pos rfl]
    have e : nI (ch i) - (48 : Int32) = nI (ch i - 48) := sub_nI (b := 48) h.1
    refine ⟨us (us (us g 2 (nI (ch i))) 1 (nI (i + 1))) 5 (nI (ch i - 48)), ?_, ?_, fun _ => us_eq _ _ _, ?_, ?_⟩
    · dsimp only
      rw [if_neg (by decide), cm_79, cm_up, us_ne _ _ (by omega), us_eq, e]
      rfl
    · rw [us_ne _ _ (by omega), us_eq]
    · rw [us_ne _ _ (by omega), us_ne _ _ (by omega), us_ne _ _ (by omega)]
    · rw [us_ne _ _ (by omega), us_ne _ _ (by omega), us_ne _ _ (by omega)]
  · rw [if_neg h, Option.bind_some, decide_eq_false h]
    refine ⟨g, rfl, ?_, fun z => Bool.noConfusion z, rfl, rfl⟩
    rw [if_neg (by decide)]
    exact hg
theorem c_num {M : xM} {L i : Nat} {ch : Nat → Nat} {τ : Nat → Nat → Int32} {g : Nat → Int32} (hT : cT M L ch) (hi : i ≤ 99) (hg : g 1 = nI i) : ∃ g', f_X1_readNumber (cm M τ g) = some (bI (nP ch i).1, cm M τ g') ∧ g' 1 = nI (nP ch i).2.1 ∧ ((nP ch i).1 = true → g' 6 = nI (nP ch i).2.2) ∧ g' 3 = g 3 ∧ g' 4 = g 4 ∧ g' 5 = g 5 := by
  have hr : f_X1_readFrom 49 57 (cm M τ g) = _ := c_rf (a := 49) (b := 57) hT (by omega) hg (by omega) (by omega)
  unfold f_X1_readNumber nP
  rw [hr, nar_0, nar_1]
  by_cases h : 49 ≤ ch i ∧ ch i ≤ 57
  · rw [if_pos h, if_pos h, Option.bind_some]
    dsimp only
    have e : nI (ch i) - (48 : Int32) = nI (ch i - 48) := sub_nI (b := 48) (by omega)
    rw [if_neg (by decide), cm_79, cm_up, us_ne _ _ (by omega), us_eq, e]
    have hr2 : f_X1_readFrom 48 57 (cm M τ (us (us (us g 2 (nI (ch i))) 1 (nI (i + 1))) 6 (nI (ch i - 48)))) = _ := c_rf (i := i + 1) (a := 48) (b := 57) hT (by omega) (by rw [us_ne _ _ (by omega), us_eq]) (by omega) (by omega)
    rw [hr2]
    by_cases h2 : 48 ≤ ch (i + 1) ∧ ch (i + 1) ≤ 57
    · rw [if_pos h2, if_pos h2, Option.bind_some]
      dsimp only
      rw [if_neg (by decide), cm_79, cm_up]
      have e6 : us (us (us (us (us g 2 (nI (ch i))) 1 (nI (i + 1))) 6 (nI (ch i - 48))) 2 (nI (ch (i + 1)))) 1 (nI (i + 1 + 1)) 6 = nI (ch i - 48) := by
        rw [us_ne _ _ (by omega), us_ne _ _ (by omega), us_eq]
      have e2 : us (us (us (us (us g 2 (nI (ch i))) 1 (nI (i + 1))) 6 (nI (ch i - 48))) 2 (nI (ch (i + 1)))) 1 (nI (i + 1 + 1)) 2 = nI (ch (i + 1)) := by
        rw [us_ne _ _ (by omega), us_eq]
      have ev : nI (ch i - 48) * (10 : Int32) + nI (ch (i + 1)) - (48 : Int32) = nI (10 * (ch i - 48) + (ch (i + 1) - 48)) := by
        have : nI (ch i - 48) * (10 : Int32) = nI ((ch i - 48) * 10) := nI_mul _ 10
        rw [this, nI_add]
        have : nI ((ch i - 48) * 10 + ch (i + 1)) - (48 : Int32) = nI ((ch i - 48) * 10 + ch (i + 1) - 48) := sub_nI (b := 48) (by omega)
        rw [this]
        congr 1
        omega
      rw [e6, e2, ev]
      refine ⟨_, rfl, ?_, fun _ => us_eq _ _ _, ?_, ?_, ?_⟩
      · rw [us_ne _ _ (by omega), us_eq]
      · rw [us_ne _ _ (by omega), us_ne _ _ (by omega), us_ne _ _ (by omega), us_ne _ _ (by omega), us_ne _ _ (by omega), us_ne _ _ (by omega)]
      · rw [us_ne _ _ (by omega), us_ne _ _ (by omega), us_ne _ _ (by omega), us_ne _ _ (by omega), us_ne _ _ (by omega), us_ne _ _ (by omega)]
      · rw [us_ne _ _ (by omega), us_ne _ _ (by omega), us_ne _ _ (by omega), us_ne _ _ (by omega), us_ne _ _ (by omega), us_ne _ _ (by omega)]
    · rw [if_neg h2, if_neg h2, Option.bind_some]
      refine ⟨us (us (us g 2 (nI (ch i))) 1 (nI (i + 1))) 6 (nI (ch i - 48)), rfl, ?_, fun _ => us_eq _ _ _, ?_, ?_, ?_⟩
      · rw [us_ne _ _ (by omega), us_eq]
      · rw [us_ne _ _ (by omega), us_ne _ _ (by omega), us_ne _ _ (by omega)]
      · rw [us_ne _ _ (by omega), us_ne _ _ (by omega), us_ne _ _ (by omega)]
      · rw [us_ne _ _ (by omega), us_ne _ _ (by omega), us_ne _ _ (by omega)]
  · rw [if_neg h, if_neg h, Option.bind_some]
    exact ⟨g, rfl, hg, fun z => Bool.noConfusion z, rfl, rfl, rfl⟩
