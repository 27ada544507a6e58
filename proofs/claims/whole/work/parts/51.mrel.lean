/-! a row of the model stands for a state -/
def mA (σ : Nat → Nat → Int32) (s : Nat → Int32) (b : Nat) : Prop := (∀ k, k < 4 → s (b + k) = σ 1 k) ∧ s (b + 4) = σ 0 4 ∧ s (b + 5) = sumI (σ 24) 20 ∧ s (b + 6) = σ 18 6 ∧ s (b + 7) = σ 3 5
def mO (U : Nat → Nat) (s : Nat → Int32) (b : Nat) : Prop := ∀ k, k < 3 → s (b + 8 + k) = nI (255 ^^^ U k)
/-- the place in a state of a person's field -/
def mF : Nat → Nat
  | 0 => 4
  | 1 => 5
  | 2 => 19
  | 3 => 20
  | 4 => 21
  | 5 => 22
  | 6 => 23
  | _ => 24
def mP (σ : Nat → Nat → Int32) (s : Nat → Int32) (b : Nat) : Prop := ∀ p f, p < 20 → f < 8 → s (b + 14 + 8 * p + f) = σ (mF f) p
def mR (σ : Nat → Nat → Int32) (W : Nat → List Nat) (U : Nat → Nat) (s : Nat → Int32) (b : Nat) : Prop := mA σ s b ∧ mO U s b ∧ mLw σ W s b ∧ mP σ s b
theorem m_getsPermit {b p sh : Nat} {d : Int32} {W : Nat → List Nat} {M : xM} (hb : b ≤ 3186) (hp : p < 20) (h : ∀ sh, sh < 3 → mL (M.1 6 1) b sh (W sh) ∧ (W sh).Nodup ∧ (W sh).length ≤ 20 ∧ ∀ q ∈ W sh, q < 20) : f_X7_getsPermit (nI b) (nI p) (nI sh) d M = some (sp M (mLvs b p W (us (us (us (M.1 6 1) (b + 14 + 8 * p) (nI sh)) (b + 14 + 8 * p + 1) ((M.1 6 1 (b + 4) + d) - 1)) (b + 7) (M.1 6 1 (b + 7) + 1)) 3)) := by
  unfold f_X7_getsPermit
  have e1 : ∀ k, k ≤ 353 → b + k < 3540 := fun k hk => by omega
  simp only [m_personAt, Option.bind_some, show (4 : Int32) = nI 4 from rfl, show (7 : Int32) = nI 7 from rfl, nI_add, up_1, in_nI (show b + 14 + 8 * p < 3540 by omega) (by omega), in_nI (show b + 14 + 8 * p + 1 < 3540 by omega) (by omega), in_nI (show b + 4 < 3540 by omega) (by omega), in_nI (show b + 7 < 3540 by omega) (by omega), if_true, cl_nI (show b + 14 + 8 * p < 2 ^ 31 by omega), cl_nI (show b + 14 + 8 * p + 1 < 2 ^ 31 by omega), cl_nI (show b + 4 < 2 ^ 31 by omega), cl_nI (show b + 7 < 2 ^ 31 by omega), up_sp, sp_get, sp_sp]
  rw [us_ne _ _ (show b + 4 ≠ b + 14 + 8 * p by omega), us_ne _ _ (show b + 7 ≠ b + 14 + 8 * p + 1 by omega), us_ne _ _ (show b + 7 ≠ b + 14 + 8 * p by omega)]
  rw [m_leavesLists (W := W) hb hp (fun s hs => by
    obtain ⟨h1, h2, h3, h4⟩ := h s hs
    refine ⟨?_, h2, h3, h4⟩
    rw [sp_get]
    refine h1.congr h3 ?_ (fun j z1 z2 => ?_)
    · rw [us_ne _ _ (by omega), us_ne _ _ (by omega), us_ne _ _ (by omega)]
    · rw [us_ne _ _ (by omega), us_ne _ _ (by omega), us_ne _ _ (by omega)])]
  simp only [Option.bind_some, sp_get, sp_sp]
