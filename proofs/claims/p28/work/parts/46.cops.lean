/-! the class's changes of a state -/
theorem c_days {r sp n : Nat} {M : xM} {W : Nat → List Nat} {U : Nat → Nat} {g : Int32} (hn : n ≤ 99) (hW : cW (M.1 r) W) (hU : cU (M.1 r) U sp) : xlp (f_X5_letPass_l38 r (nI n) g) 4000 (0, M) = some ((zDays U sp n (M.1 r, W)).1 3 5 - g, put M r (zDays U sp n (M.1 r, W)).1) := by
  have := xlp_for (body := f_X5_letPass_l38 r (nI n) g) (q := ((zDays U sp n (M.1 r, W)).1 3 5 - g, put M r (zDays U sp n (M.1 r, W)).1)) (f := fun k => (nI k, put M r (zDays U sp k (M.1 r, W)).1)) n 4000 (by omega) (fun k hk => ?_) ?_
  · have e : put M r (zDays U sp 0 (M.1 r, W)).1 = M := put_self M r
    rw [e] at this
    exact this
  · obtain ⟨h1, h2⟩ := zDays_WU (q := (M.1 r, W)) hW hU k
    have hnext : zDays U sp (k + 1) (M.1 r, W) = zDay U sp (zDays U sp k (M.1 r, W)) := rfl
    rw [hnext]
    generalize zDays U sp k (M.1 r, W) = q at h1 h2 ⊢
    have hd := c_beginDay (r := r) (M := put M r q.1) (W := q.2) (U := U) (sp := sp) (by rw [put_get]; exact h1) (by rw [put_get]; exact h2)
    rw [put_get, put_put] at hd
    unfold f_X5_letPass_l38
    simp only [lt_nI hk (show n < 2 ^ 31 by omega), if_true, hd, Option.bind_some, up_1]
  · unfold f_X5_letPass_l38
    simp only [nlt_nI (Nat.le_refl n) (show n < 2 ^ 31 by omega), if_false, put_get]
    rfl
theorem frm_nI {a b : Nat} {x : Int32} (ha : a < 2 ^ 31) (hb : b < 2 ^ 31) : (!decide (x < nI a) && !decide (nI b < x)) = true ↔ ∃ k, a ≤ k ∧ k ≤ b ∧ x = nI k := by
  rw [Bool.and_eq_true, Bool.not_eq_true', Bool.not_eq_true', decide_eq_false_iff_not, decide_eq_false_iff_not]
  constructor
  · rintro ⟨h1, h2⟩
    have h0 : ¬ x < 0 := fun z => h1 (Int32.lt_of_lt_of_le z (nI_pos' ha))
    obtain ⟨j, hj, rfl⟩ := nI_of h0
    exact ⟨j, by rcases Nat.lt_or_ge j a with z | z; exact absurd (nI_lt z ha) h1; exact z, by rcases Nat.lt_or_ge b j with z | z; exact absurd (nI_lt z hj) h2; exact z, rfl⟩
  · rintro ⟨k, h1, h2, rfl⟩
    exact ⟨nI_nlt h1 (by omega), nI_nlt h2 hb⟩
theorem c_end_leave {r p : Nat} {M : xM} {W : Nat → List Nat} (hp : p < 20) (hW : cW (M.1 r) W) : (f_X4_end r (nI p) M).bind (fun q => f_X4_leaveLists r (nI p) q) = some (put M r (zLv p (ud (ud (M.1 r) 4 p (-6)) 5 p (-6)) 3)) := by
  rw [c_end hp]
  simp only [Option.bind_some]
  rw [c_leaveLists hp (fun s hs => by
    rw [put_get, ud_ne _ _ (by omega), ud_ne _ _ (by omega)]
    exact (hW s hs).ok hp), put_get, put_put]
theorem c_placeInRack {r p : Nat} {sh rk dy : Int32} {M : xM} (hp : p < 20) : f_X0_placeInRack r (nI p) sh rk dy M = some (put M r (ud (ud (ud (M.1 r) 19 p sh) 20 p rk) 21 p dy)) := by
  unfold f_X0_placeInRack
  simp only [in_nI hp (by omega), if_true, cl_nI (show p < 2 ^ 31 by omega), up_put, put_get, put_put]
/-- the set of racks, a bit each, of those people for whom P holds -/
def orB (P : Nat → Bool) (g : Nat → Int32) : Nat → Int32
  | 0 => 0
  | k + 1 => if P k = true then orB P g k ||| ((1 : Int32) <<< (g k &&& 31)) else orB P g k
theorem c_racksTaken {r : Nat} {sh : Int32} {M : xM} : f_X0_racksTaken r sh M = some (orB (fun p => decide (M.1 r 19 p = sh)) (M.1 r 20) 20) := by
  unfold f_X0_racksTaken
  refine xlp_acc 20 (by omega) (fun p n => if decide (M.1 r 19 p = sh) = true then n ||| ((1 : Int32) <<< (M.1 r 20 p &&& 31)) else n) (orB (fun p => decide (M.1 r 19 p = sh)) (M.1 r 20)) rfl (fun k => rfl) (fun p hp n => ?_) rfl
  unfold f_X0_racksTaken_l4
  simp only [show (20 : Int32) = nI 20 from rfl, lt_nI hp (by omega), in_nI hp (by omega), cl_nI (show p < 2 ^ 31 by omega), if_true, decide_eq_true_eq]
  split <;> rfl
theorem c_racksTagged {r : Nat} {sh : Int32} {M : xM} : f_X0_racksTagged r sh M = some (orB (fun p => decide (M.1 r 19 p = sh) && !decide (M.1 r 22 p = -6)) (M.1 r 20) 20) := by
  unfold f_X0_racksTagged
  refine xlp_acc 20 (by omega) (fun p n => if (decide (M.1 r 19 p = sh) && !decide (M.1 r 22 p = -6)) = true then n ||| ((1 : Int32) <<< (M.1 r 20 p &&& 31)) else n) (orB (fun p => decide (M.1 r 19 p = sh) && !decide (M.1 r 22 p = -6)) (M.1 r 20)) rfl (fun k => rfl) (fun p hp n => ?_) rfl
  unfold f_X0_racksTagged_l4
  simp only [show (20 : Int32) = nI 20 from rfl, lt_nI hp (by omega), in_nI hp (by omega), cl_nI (show p < 2 ^ 31 by omega), if_true, c_isTagged hp, Option.bind_some, ite_bI]
  by_cases h : M.1 r 19 p = sh
  · rw [if_pos h, decide_eq_true h, Bool.true_and]
    split <;> rfl
  · rw [if_neg h, decide_eq_false h]
    rfl
theorem c_racksWithout {r : Nat} {sh : Int32} {M : xM} : f_X5_racksWithoutPermit r sh M = some (orB (fun p => decide (M.1 r 19 p = sh) && !decide (M.1 r 4 p = M.1 r 19 p)) (M.1 r 20) 20) := by
  unfold f_X5_racksWithoutPermit
  refine xlp_acc 20 (by omega) (fun p n => if (decide (M.1 r 19 p = sh) && !decide (M.1 r 4 p = M.1 r 19 p)) = true then n ||| ((1 : Int32) <<< (M.1 r 20 p &&& 31)) else n) (orB (fun p => decide (M.1 r 19 p = sh) && !decide (M.1 r 4 p = M.1 r 19 p)) (M.1 r 20)) rfl (fun k => rfl) (fun p hp n => ?_) rfl
  unfold f_X5_racksWithoutPermit_l4
  simp only [show (20 : Int32) = nI 20 from rfl, lt_nI hp (by omega), in_nI hp (by omega), cl_nI (show p < 2 ^ 31 by omega), if_true, c_isWithoutPermit hp, Option.bind_some, ite_bI]
  by_cases h : M.1 r 19 p = sh
  · rw [if_pos h, decide_eq_true h, Bool.true_and]
    split <;> rfl
  · rw [if_neg h, decide_eq_false h]
    rfl
theorem c_countTagged {r : Nat} {sh lt : Int32} {M : xM} : f_X0_countTagged r sh lt M = some (nI (cnt (zDue sh lt (M.1 r)) 20)) := by
  unfold f_X0_countTagged
  refine xlp_cnt (zDue sh lt (M.1 r)) (fun p hp n => ?_) rfl
  unfold f_X0_countTagged_l5
  simp only [show (20 : Int32) = nI 20 from rfl, lt_nI hp (by omega), if_true, c_isDue hp, Option.bind_some, ite_bI]
  show (if zDue sh lt (M.1 r) p = true then _ else _) = _
  split <;> rfl
def sumI (g : Nat → Int32) : Nat → Int32
  | 0 => 0
  | k + 1 => sumI g k + g k
theorem c_countSold {r : Nat} {M : xM} : f_X0_countSold r M = some (sumI (M.1 r 24) 20) := by
  unfold f_X0_countSold
  refine xlp_acc 20 (by omega) (fun p n => n + M.1 r 24 p) (sumI (M.1 r 24)) rfl (fun k => rfl) (fun p hp n => ?_) rfl
  unfold f_X0_countSold_l4
  simp only [show (20 : Int32) = nI 20 from rfl, lt_nI hp (by omega), in_nI hp (by omega), cl_nI (show p < 2 ^ 31 by omega), if_true]
/-- the sheds that a person waits for, a bit each -/
def zWait (σ : Nat → Nat → Int32) (p : Nat) : Nat → Int32
  | 0 => 0
  | k + 1 => if (!decide (σ (7 + k) p = -6)) = true then zWait σ p k ||| ((1 : Int32) <<< (nI k &&& 31)) else zWait σ p k
theorem c_shedsWaitedFor {r p : Nat} {M : xM} (hp : p < 20) : f_X4_shedsWaitedFor r (nI p) M = some (zWait (M.1 r) p 3) := by
  unfold f_X4_shedsWaitedFor
  refine xlp_acc 3 (by omega) (fun k n => if (!decide (M.1 r (7 + k) p = -6)) = true then n ||| ((1 : Int32) <<< (nI k &&& 31)) else n) (zWait (M.1 r) p) rfl (fun k => rfl) (fun k hk n => ?_) rfl
  unfold f_X4_shedsWaitedFor_l4
  simp only [show (3 : Int32) = nI 3 from rfl, lt_nI hk (by omega), if_true, c_waitsFor hp hk, Option.bind_some, ite_bI]
  split <;> rfl
