/-! a day begins, in the model -/
theorem sub_toInt {a b : Nat} (ha : a < 2 ^ 30) (hb : b < 2 ^ 30) : (nI a - nI b).toInt = (a : Int) - b := by
  rw [Int32.toInt_sub, nI_toInt (by omega), nI_toInt (by omega)]
  rw [Int.bmod_eq_of_le (by omega) (by omega)]
theorem sub_lt {a b c : Nat} (ha : a < 2 ^ 30) (hb : b < 2 ^ 30) (hc : c < 2 ^ 30) : nI a - nI b < nI c ↔ (a : Int) - b < c := by
  rw [Int32.lt_iff_toInt_lt, sub_toInt ha hb, nI_toInt (by omega)]
/-- days, permits and the pound as they may stand; d the day, kp the days that the pound keeps -/
def cV (σ : Nat → Nat → Int32) (d kp : Nat) : Prop := σ 0 4 = nI d ∧ d ≤ 20000 ∧ σ 1 3 = nI kp ∧ kp ≤ 99 ∧ (∀ p, p < 20 → σ 4 p = -6 ∨ rg 3 (σ 4 p) = true) ∧ ∀ p, p < 20 → σ 23 p = -6 ∨ ∃ k, k ≤ d ∧ σ 23 p = nI k
theorem rg_not6 {x : Int32} (h : rg 3 x = true) : ¬ x = -6 := fun e => by
  rw [e, rg_6] at h
  cases h
theorem m_endsPermit {b p : Nat} {M : xM} (hb : b ≤ 3186) (hp : p < 20) : f_X7_endsPermit (nI b) (nI p) M = some (sp M (us (us (M.1 6 1) (b + 14 + 8 * p + 0) (-6)) (b + 14 + 8 * p + 1) (-6))) := by
  unfold f_X7_endsPermit
  simp only [m_personAt, Option.bind_some, up_1, in_nI (show b + 14 + 8 * p < 3540 by omega) (by omega), in_nI (show b + 14 + 8 * p + 1 < 3540 by omega) (by omega), if_true, cl_nI (show b + 14 + 8 * p < 2 ^ 31 by omega), cl_nI (show b + 14 + 8 * p + 1 < 2 ^ 31 by omega), up_sp, sp_get, sp_sp, Nat.add_zero]
def zDF (σ : Nat → Nat → Int32) (o j : Nat) : Int32 := zSell (σ 0 4 + 1 - σ 1 3) (zEnd (σ 0 4 + 1) (ud σ 0 4 (σ 0 4 + 1))) o j
theorem zDay0_pm (σ : Nat → Nat → Int32) : zDay0 σ = pm (ud σ 0 4 (σ 0 4 + 1)) (zDF σ) 20 := by
  funext o j
  unfold zDay0 zDF pm
  by_cases hj : j < 20
  · simp only [zSell, if_pos hj]
  · rw [if_neg hj, if_neg hj, if_neg hj]
theorem zDF_other {σ : Nat → Nat → Int32} {o j : Nat} (h4 : o ≠ 4) (h5 : o ≠ 5) (h6 : o ≠ 23) (h7 : o ≠ 24) : zDF σ o j = ud σ 0 4 (σ 0 4 + 1) o j := (zSell_other h6 h7).trans (zEnd_other h4 h5)
theorem zDay0_N {σ : Nat → Nat → Int32} {W : Nat → List Nat} (h : cN σ W) : cN (zDay0 σ) W := by
  intro sh hs q hq
  have h6 := h sh hs q hq
  have e1 : ud σ 0 4 (σ 0 4 + 1) 4 q = -6 := (ud_ne _ _ (by omega)).trans h6
  rw [zDay0_pm]
  unfold pm
  split
  · unfold zDF
    rw [zSell_other (by omega) (by omega)]
    unfold zEnd
    split
    · rfl
    · exact e1
  · exact e1
def zSell1 (ld : Int32) (τ : Nat → Nat → Int32) (p : Nat) : Nat → Nat → Int32 := if ¬ τ 23 p = -6 ∧ ¬ ld < τ 23 p then ud (ud τ 23 p (-6)) 24 p (τ 24 p + 1) else τ
theorem m_dayPound {b p d kp : Nat} {τ : Nat → Nat → Int32} {W : Nat → List Nat} {U : Nat → Nat} {M : xM} (hb : b ≤ 3186) (hp : p < 20) (h : mR τ W U (M.1 6 1) b) (hc : cW τ W) (hd : τ 0 4 = nI d) (hd2 : d ≤ 20001) (hk : τ 1 3 = nI kp) (hk2 : kp ≤ 99) (hq : τ 23 p = -6 ∨ ∃ k, k ≤ d ∧ τ 23 p = nI k) : ∃ t, f_X7_day_j62_14 (nI b) (nI p) (nI (b + 14 + 8 * p)) M = some (.inl (nI (p + 1), sp M t)) ∧ mR (zSell1 (nI d - nI kp) τ p) W U t b ∧ mFr (M.1 6 1) t b := by
  have e6 := h.2.2.2 p 6 hp (by omega)
  have e4 : M.1 6 1 (b + 4) = nI d := h.1.2.1.trans hd
  have e3 : M.1 6 1 (b + 3) = nI kp := (h.1.1 3 (by omega)).trans hk
  have e6 : M.1 6 1 (b + 14 + 8 * p + 6) = τ 23 p := e6
  unfold f_X7_day_j62_14 zSell1
  simp only [show (6 : Int32) = nI 6 from rfl, show (4 : Int32) = nI 4 from rfl, show (3 : Int32) = nI 3 from rfl, show (7 : Int32) = nI 7 from rfl, show (5 : Int32) = nI 5 from rfl, nI_add, in_nI (show b + 14 + 8 * p + 6 < 3540 by omega) (by omega), in_nI (show b + 14 + 8 * p + 7 < 3540 by omega) (by omega), in_nI (show b + 4 < 3540 by omega) (by omega), in_nI (show b + 3 < 3540 by omega) (by omega), in_nI (show b + 5 < 3540 by omega) (by omega), if_true, cl_nI (show b + 14 + 8 * p + 6 < 2 ^ 31 by omega), cl_nI (show b + 14 + 8 * p + 7 < 2 ^ 31 by omega), cl_nI (show b + 4 < 2 ^ 31 by omega), cl_nI (show b + 3 < 2 ^ 31 by omega), cl_nI (show b + 5 < 2 ^ 31 by omega), up_1, e6, e4, e3]
  simp only [show (-nI 6 : Int32) = -6 from rfl]
  by_cases h6 : τ 23 p = -6
  · rw [if_pos h6, if_neg (fun z => z.1 h6)]
    refine ⟨M.1 6 1, ?_, h, mFr.refl _ _⟩
    rw [sp_self]
  · rw [if_neg h6]
    rcases hq with z | ⟨k, hk1, hk3⟩
    · exact absurd z h6
    · have hiff : (nI d - nI k < nI kp) ↔ (nI d - nI kp < nI k) := by
        rw [sub_lt (by omega) (by omega) (by omega), sub_lt (by omega) (by omega) (by omega)]
        omega
      rw [hk3]
      by_cases hlt : nI d - nI k < nI kp
      · rw [if_pos hlt, if_neg (fun z => z.2 (hiff.mp hlt))]
        refine ⟨M.1 6 1, ?_, h, mFr.refl _ _⟩
        rw [sp_self]
      · rw [if_neg hlt, if_pos ⟨by rw [← hk3]; exact h6, fun z => hlt (hiff.mpr z)⟩]
        have h1 := h.person (f := 6) (v := -6) hc hp (by omega)
        have hc1 : cW (ud τ (mF 6) p (-6)) W := hc.congr (fun o j z1 z2 => ud_ne _ _ (fun z => by have : o = 23 := z.1; omega))
        have h2 := h1.lost hc1 hp
        have e24 : ud τ (mF 6) p (-6) 24 p = τ 24 p := ud_ne _ _ (fun z => by have : 24 = 23 := z.1; omega)
        rw [e24] at h2
        simp only [up_sp, sp_get, sp_sp]
        rw [us_ne (us (M.1 6 1) (b + 14 + 8 * p + 6) (-6)) _ (show b + 5 ≠ b + 14 + 8 * p + 7 by omega)]
        refine ⟨_, rfl, h2, ?_⟩
        exact (((mFr.refl _ _).us (by omega)).us (by omega)).us (by omega)
