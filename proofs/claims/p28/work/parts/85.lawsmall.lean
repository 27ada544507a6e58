/-! the law's small helpers -/
theorem i32_toInt_nI {x : Int32} (h : ¬ x < 0) : ∃ k, k < 2 ^ 31 ∧ x = nI k := by
  obtain ⟨k, hk, rfl⟩ := nI_of h
  exact ⟨k, hk, rfl⟩
theorem and_pos (v : Int32) : ∃ k, k < 2 ^ 31 ∧ v &&& (2147483647 : Int32) = nI k := by
  refine ⟨v.toBitVec.toNat &&& 2147483647, Nat.lt_of_le_of_lt Nat.and_le_right (by omega), ?_⟩
  apply Int32.toBitVec_inj.mp
  rw [Int32.toBitVec_and, nI_bv]
  apply BitVec.eq_of_toNat_eq
  have h := v.toBitVec.isLt
  rw [BitVec.toNat_and, BitVec.toNat_ofNat]
  have e : (2147483647 : Int32).toBitVec.toNat = 2147483647 := by decide
  rw [e, Nat.mod_eq_of_lt]
  have : v.toBitVec.toNat &&& 2147483647 ≤ 2147483647 := Nat.and_le_right
  omega
theorem div_nI {a b : Nat} (ha : a < 2 ^ 31) (hb : b < 2 ^ 31) (h0 : b ≠ 0) : nI a / nI b = nI (a / b) := by
  apply Int32.toInt_inj.mp
  rw [Int32.toInt_div, nI_toInt ha, nI_toInt hb, nI_toInt (Nat.lt_of_le_of_lt (Nat.div_le_self a b) ha)]
  have e : (a : Int).tdiv (b : Int) = ((a / b : Nat) : Int) := by
    rw [Int.tdiv_eq_ediv_of_nonneg (by omega)]
    rfl
  rw [e]
  have h3 : a / b ≤ a := Nat.div_le_self a b
  generalize a / b = c at h3 ⊢
  exact Int.bmod_eq_of_le (by omega) (by omega)
theorem mul_nI (a b : Nat) : nI a * nI b = nI (a * b) := nI_mul a b
theorem rem_nI {a b : Nat} (ha : a < 2 ^ 31) (hb : b < 2 ^ 31) (h0 : b ≠ 0) : nI a - nI a / nI b * nI b = nI (a % b) := by
  rw [div_nI ha hb h0, mul_nI, sub_nI (Nat.div_mul_le_self a b)]
  congr 1
  have := Nat.div_add_mod a b
  rw [Nat.mul_comm] at this
  omega
theorem c_low {n : Nat} (v : Int32) (h0 : n ≠ 0) (hn : n < 2 ^ 31) : ∃ k, k < n ∧ ∀ M, f_L_low v (nI n) M = some (nI k) := by
  obtain ⟨a, ha, e⟩ := and_pos v
  refine ⟨a % n, Nat.mod_lt _ (by omega), fun M => ?_⟩
  unfold f_L_low
  rw [e, rem_nI ha hn h0, if_pos (by
    rw [bne_iff_ne]
    intro z
    exact h0 ((nI_eq (b := 0) hn (by omega)).mp z))]
theorem c_cell (X : List Int32) (k : Nat) (hk : k < 2 ^ 31) (hX : (xp_stat X 0).length < 2 ^ 31) : ∃ x, ∀ M, f_L_cell X (nI k) M = some x := by
  by_cases h : k < (xp_stat X 0).length
  · refine ⟨(xp_stat X 0).getD (nI k).toNatClampNeg 0, fun M => ?_⟩
    unfold f_L_cell
    rw [if_pos (show nI k < Int32.ofNat (xp_stat X 0).length from nI_lt h hX), if_pos (in_nI h hX)]
  · refine ⟨((958344523 : Int32) * (nI k + (1 : Int32))) + (523124044 : Int32), fun M => ?_⟩
    unfold f_L_cell
    rw [if_neg (show ¬ nI k < Int32.ofNat (xp_stat X 0).length from nI_nlt (by omega) hk)]
set_option maxRecDepth 100000 in
theorem c_ones0 : ∀ u, u < 256 → f_L_ones (nI u) xs_M0 = some (nI (pcnt u)) := by decide +kernel
theorem c_ones {u : Nat} (M : xM) (hu : u < 256) : f_L_ones (nI u) M = some (nI (pcnt u)) := c_ones0 u hu
/-! bits of a set of racks, of sheds, of people -/
theorem i_or0 (x : Int32) : x ||| 0 = x := by
  apply Int32.toBitVec_inj.mp
  rw [Int32.toBitVec_or]
  exact BitVec.or_zero
theorem wv_bit : ∀ b0 b1 b2, (wv b0 b1 b2 >>> (nI 0 &&& 31)) &&& 1 = bI b0 ∧ (wv b0 b1 b2 >>> (nI 1 &&& 31)) &&& 1 = bI b1 ∧ (wv b0 b1 b2 >>> (nI 2 &&& 31)) &&& 1 = bI b2 := by decide +kernel
theorem zWait_bit {σ : Nat → Nat → Int32} {p sh : Nat} (hs : sh < 3) : (zWait σ p 3 >>> (nI sh &&& 31)) &&& 1 = bI (!decide (σ (7 + sh) p = -6)) := by
  have e : zWait σ p 3 = wv (!decide (σ (7 + 0) p = -6)) (!decide (σ (7 + 1) p = -6)) (!decide (σ (7 + 2) p = -6)) := rfl
  rw [e]
  obtain ⟨h0, h1, h2⟩ := wv_bit (!decide (σ (7 + 0) p = -6)) (!decide (σ (7 + 1) p = -6)) (!decide (σ (7 + 2) p = -6))
  rcases (by omega : sh = 0 ∨ sh = 1 ∨ sh = 2) with rfl | rfl | rfl
  · exact h0
  · exact h1
  · exact h2
/-- the bit of a person in a set -/
def sb (s : Int32) (q : Nat) : Int32 := (s >>> (nI q &&& 31)) &&& 1
theorem sb_or (a b : Int32) (q : Nat) : sb (a ||| b) q = sb a q ||| sb b q := by
  unfold sb
  apply Int32.toBitVec_inj.mp
  rw [Int32.toBitVec_and, Int32.toBitVec_or, Int32.toBitVec_and, Int32.toBitVec_and, Int32.toBitVec_shiftRight, Int32.toBitVec_shiftRight, Int32.toBitVec_shiftRight, Int32.toBitVec_or]
  unfold BitVec.sshiftRight'
  rw [BitVec.sshiftRight_or_distrib]
  apply BitVec.eq_of_getLsbD_eq
  intro i hi
  rw [BitVec.getLsbD_and, BitVec.getLsbD_or, BitVec.getLsbD_or, BitVec.getLsbD_and, BitVec.getLsbD_and, Bool.and_or_distrib_right]
set_option maxRecDepth 100000 in
theorem sb_one : ∀ p, p < 20 → ∀ q, q < 20 → sb ((1 : Int32) <<< (nI p &&& 31)) q = bI (decide (p = q)) := by decide +kernel
theorem sb_0 : ∀ q, q < 20 → sb 0 q = 0 := by decide +kernel
theorem bI_or (a b : Bool) : bI a ||| bI b = bI (a || b) := by cases a <;> cases b <;> decide
theorem and_0 {a b : Nat} (h : ∀ k, k < 8 → a.testBit k = true → b.testBit k = false) (ha : a < 256) : a &&& b = 0 := by
  apply Nat.eq_of_testBit_eq
  intro i
  rw [Nat.testBit_and, Nat.zero_testBit]
  by_cases hi : i < 8
  · cases e : a.testBit i
    · rfl
    · rw [h i hi e]
      rfl
  · have : a.testBit i = false := Nat.testBit_lt_two_pow (Nat.lt_of_lt_of_le ha (by
      have : 2 ^ 8 ≤ 2 ^ i := Nat.pow_le_pow_right (by omega) (by omega)
      omega))
    rw [this]
    rfl
/-- a rack that is in no earlier one's place -/
theorem orB_free {σ : Nat → Nat → Int32} {d sh k : Nat} (hB : cB σ d) (hs : sh < 3) (hk : k < 20) (h19 : σ 19 k = nI sh) : orB (fun p => decide (σ 19 p = nI sh)) (σ 20) k &&& ((1 : Int32) <<< (σ 20 k &&& 31)) = 0 := by
  have hg : ∀ p, p < 20 → decide (σ 19 p = nI sh) = true → σ 20 p = nI ((σ 20 p).toNatClampNeg) ∧ (σ 20 p).toNatClampNeg < 8 := by
    intro p hp h
    have h := of_decide_eq_true h
    rcases hB.1 p hp with z | ⟨sh', k, pk, b1, b2, b3, b4, b5, b6, b7⟩
    · exact absurd (h.symm.trans z.1) (nI_ne6 (by omega))
    · rw [b5, cl_nI (by omega)]
      exact ⟨rfl, b2⟩
  have ho := orB_nI (P := fun p => decide (σ 19 p = nI sh)) (gi := σ 20) (g := fun p => (σ 20 p).toNatClampNeg) k (fun p hp h => hg p (by omega) h)
  have hl := orN_lt (P := fun p => decide (σ 19 p = nI sh)) (g := fun p => (σ 20 p).toNatClampNeg) k (fun p hp h => (hg p (by omega) h).2)
  obtain ⟨e1, e2⟩ := hg k hk (decide_eq_true h19)
  have h3 := pow_lt_256 e2
  rw [ho, e1, shl_1 _ e2, and_nI (by omega) (by omega), and_0 ?_ hl]
  · rfl
  · intro i hi ht
    rw [Nat.testBit_two_pow]
    refine decide_eq_false (fun e => ?_)
    obtain ⟨p, p1, p2, p3⟩ := (orN_bit k).mp ht
    have p2' := of_decide_eq_true p2
    refine hB.2 p k (by omega) hk (by omega) (by rw [p2']; exact nI_ne6 (by omega)) (p2'.trans h19.symm) ?_
    rw [(hg p (by omega) p2).1, e1, p3, e]
