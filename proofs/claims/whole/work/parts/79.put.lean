/-! characters in a number -/
def cd8 (u : UInt64) (k : Nat) : Nat := (u.toNat >>> (8 * k)) % 256
theorem cd8_lt (u : UInt64) (k : Nat) : cd8 u k < 256 := Nat.mod_lt _ (by decide)
theorem sh8 : ∀ k, k < 8 → (((8 : Int32) * nI k).toInt64.toUInt64 &&& Int64.toUInt64 (63 : Int64)) = UInt64.ofNat (8 * k) := by decide +kernel
theorem low8 : ∀ c, c < 256 → ((UInt64.ofNat c).toInt64).toInt32 = nI c := by decide +kernel
theorem low8' : ∀ c, c < 256 → (UInt64.ofNat c).toInt64 = (nI c).toInt64 := by decide +kernel
theorem u_shr (u : UInt64) {k : Nat} (hk : k < 8) : u >>> UInt64.ofNat (8 * k) = UInt64.ofNat (u.toNat >>> (8 * k)) := by
  refine UInt64.toNat_inj.mp ?_
  rw [UInt64.toNat_shiftRight, UInt64.toNat_ofNat', UInt64.toNat_ofNat']
  have h1 : 8 * k % 2 ^ 64 % 64 = 8 * k := by omega
  rw [h1, Nat.mod_eq_of_lt]
  exact Nat.lt_of_le_of_lt (Nat.shiftRight_le _ _) u.toNat_lt
theorem u_and (v : Nat) (hv : v < 2 ^ 64) : (UInt64.ofNat v).toInt64 &&& (255 : Int64) = (UInt64.ofNat (v % 256)).toInt64 := by
  have e : (UInt64.ofNat v) &&& (255 : UInt64) = UInt64.ofNat (v % 256) := by
    refine UInt64.toNat_inj.mp ?_
    rw [UInt64.toNat_and, UInt64.toNat_ofNat', UInt64.toNat_ofNat', Nat.mod_eq_of_lt hv]
    have h2 : (255 : UInt64).toNat = 2 ^ 8 - 1 := rfl
    rw [h2, Nat.and_two_pow_sub_one_eq_mod]
    have : v % 2 ^ 8 < 256 := Nat.mod_lt _ (by decide)
    exact (Nat.mod_eq_of_lt (by omega)).symm
  rw [← e]
  rfl
theorem shr_lt (u : UInt64) (k : Nat) : u.toNat >>> k < 2 ^ 64 := Nat.lt_of_le_of_lt (Nat.shiftRight_le _ _) u.toNat_lt
theorem code8 {u : UInt64} {k : Nat} (hk : k < 8) : ((u >>> (((8 : Int32) * nI k).toInt64.toUInt64 &&& Int64.toUInt64 (63 : Int64))).toInt64 &&& (255 : Int64)).toInt32 = nI (cd8 u k) := by
  rw [sh8 k hk, u_shr u hk, u_and _ (shr_lt u _), low8 _ (Nat.mod_lt _ (by decide))]
  rfl
theorem c_codeAt {x : Int64} {k : Nat} {M : xM} (hk : k < 8) : f_X3_codeAt x (nI k) M = some (nI (cd8 x.toUInt64 k)) := by
  unfold f_X3_codeAt
  rw [code8 hk]
def good8 (u : UInt64) (k : Nat) : Bool := decide (33 ≤ cd8 u k ∧ cd8 u k ≤ 126)
theorem frm_good {u : UInt64} {k : Nat} : (!decide (nI (cd8 u k) < 33) && !decide ((126 : Int32) < nI (cd8 u k))) = good8 u k := by
  have hl := cd8_lt u k
  rw [Bool.eq_iff_iff]
  unfold good8
  rw [decide_eq_true_eq]
  constructor
  · intro h
    obtain ⟨j, j1, j2, j3⟩ := (frm_nI (a := 33) (b := 126) (by omega) (by omega)).mp h
    have := (nI_eq (by omega) (by omega)).mp j3
    omega
  · rintro ⟨h1, h2⟩
    exact frm_in (a := 33) (b := 126) h1 h2 (by omega)
/-- how many good characters ahead -/
theorem stop8 (u : UInt64) : ∃ K, K ≤ 8 ∧ (∀ k, k < K → good8 u k = true) ∧ (K = 8 ∨ good8 u K = false) := by
  have go : ∀ n, n ≤ 8 → (∃ K, K ≤ n ∧ (∀ k, k < K → good8 u k = true) ∧ good8 u K = false) ∨ ∀ k, k < n → good8 u k = true := by
    intro n
    induction n with
    | zero => exact fun _ => Or.inr (fun k hk => absurd hk (Nat.not_lt_zero k))
    | succ n ih =>
      intro hn
      rcases ih (by omega) with ⟨K, k1, k2, k3⟩ | h
      · exact Or.inl ⟨K, by omega, k2, k3⟩
      · cases hg : good8 u n
        · exact Or.inl ⟨n, by omega, h, hg⟩
        · right
          intro k hk
          rcases Nat.lt_or_ge k n with z | z
          · exact h k z
          · have : k = n := by omega
            rw [this]
            exact hg
  rcases go 8 (Nat.le_refl 8) with ⟨K, k1, k2, k3⟩ | h
  · exact ⟨K, k1, k2, Or.inr k3⟩
  · exact ⟨8, Nat.le_refl 8, h, Or.inl rfl⟩
theorem cmp_0 {v : Nat} (hv : v < 2 ^ 64) : (lg_cmp (UInt64.ofNat v).toInt64 (0 : Int64) = (0 : Int32)) = (v = 0) := by
  refine propext ((lg_cmp_eq _ _).trans ⟨fun e => ?_, fun e => ?_⟩)
  · have e2 : UInt64.ofNat v = UInt64.ofNat 0 := congrArg Int64.toUInt64 e
    have e3 := congrArg UInt64.toNat e2
    rw [UInt64.toNat_ofNat', UInt64.toNat_ofNat', Nat.mod_eq_of_lt hv] at e3
    exact e3
  · rw [e]
    rfl
theorem ite_cmp {α : Type} {v : Nat} (hv : v < 2 ^ 64) (a b : α) : (if lg_cmp (UInt64.ofNat v).toInt64 (0 : Int64) = (0 : Int32) then a else b) = if v = 0 then a else b := by
  by_cases h : v = 0
  · rw [if_pos h, if_pos ((cmp_0 hv).mpr h)]
  · rw [if_neg h, if_neg (fun z => h ((cmp_0 hv).mp z))]
theorem count8 {x : Int64} {K : Nat} (hK : K ≤ 8) (h1 : ∀ k, k < K → good8 x.toUInt64 k = true) (h2 : K = 8 ∨ good8 x.toUInt64 K = false) (M M' : xM) : f_X3_countCharacters x M = some (if x.toUInt64.toNat >>> (8 * K) = 0 then nI K else 0) ∧ f_X7_charactersOf x M' = some (if x.toUInt64.toNat >>> (8 * K) = 0 then nI K else 0) := by
  have h64 : x.toUInt64.toNat >>> 64 = 0 := by
    rw [Nat.shiftRight_eq_div_pow]
    exact Nat.div_eq_of_lt x.toUInt64.toNat_lt
  constructor
  · have hj : f_X3_countCharacters_j29 x (nI K) M = some (if x.toUInt64.toNat >>> (8 * K) = 0 then nI K else 0) := by
      unfold f_X3_countCharacters_j29 f_X3_countCharacters_j46 f_X3_countCharacters_j51
      by_cases h8 : K = 8
      · rw [if_pos (show nI K = 8 by rw [h8]; rfl), if_neg (by decide), h8, if_pos h64]
      · rw [if_neg (show ¬ nI K = 8 from fun z => h8 ((nI_eq (b := 8) (by omega) (by omega)).mp z)), sh8 K (by omega), u_shr _ (by omega), ite_cmp (shr_lt _ _)]
        by_cases hz : x.toUInt64.toNat >>> (8 * K) = 0
        · rw [if_pos hz, if_pos hz, if_neg (by decide)]
        · rw [if_neg hz, if_neg hz, if_pos rfl]
    unfold f_X3_countCharacters
    refine xlp_for (body := f_X3_countCharacters_l2 x M) (f := fun k => nI k) K 4000 (by omega) (fun k hk => ?_) ?_
    · unfold f_X3_countCharacters_l2
      rw [if_pos (lt_8 (show k < 8 by omega) ▸ trivial), c_codeAt (by omega), Option.bind_some, c_isFrom, Option.bind_some, frm_good, h1 k hk, if_neg (by decide), aI_1]
    · unfold f_X3_countCharacters_l2
      rcases h2 with h8 | hb
      · subst h8
        rw [if_neg (show ¬ nI 8 < 8 by decide), hj]
        rfl
      · rcases Nat.lt_or_ge K 8 with z | z
        · rw [if_pos (lt_8 z ▸ trivial), c_codeAt z, Option.bind_some, c_isFrom, Option.bind_some, frm_good, hb, if_pos (by rfl), hj]
          rfl
        · have : K = 8 := by omega
          subst this
          rw [if_neg (show ¬ nI 8 < 8 by decide), hj]
          rfl
  · have hj : ∀ K, K ≤ 8 → f_X7_charactersOf_j40 (UInt64.ofNat (x.toUInt64.toNat >>> (8 * K))).toInt64 (nI K) M' = some (if x.toUInt64.toNat >>> (8 * K) = 0 then nI K else 0) := by
      intro K hK
      unfold f_X7_charactersOf_j40
      rw [ite_cmp (shr_lt _ _)]
      split <;> rfl
    have hin : ∀ k, k < 8 → f_X7_in ((UInt64.ofNat (x.toUInt64.toNat >>> (8 * k))).toInt64 &&& (255 : Int64)) 33 126 M' = some (bI (good8 x.toUInt64 k)) := by
      intro k hk
      rw [u_and _ (shr_lt _ _), low8' _ (Nat.mod_lt _ (by decide)), show (33 : Int64) = (33 : Int32).toInt64 from rfl, show (126 : Int64) = (126 : Int32).toInt64 from rfl, m_in]
      exact congrArg (fun b => some (bI b)) frm_good
    have h0 : (UInt64.ofNat (x.toUInt64.toNat >>> (8 * 0))).toInt64 = x := by
      have : x.toUInt64.toNat >>> (8 * 0) = x.toUInt64.toNat := rfl
      rw [this, UInt64.ofNat_toNat]
      rfl
    have hstep : ∀ k, (((UInt64.ofNat (x.toUInt64.toNat >>> (8 * k))).toInt64.toUInt64 >>> ((8 : Int32).toInt64.toUInt64 &&& Int64.toUInt64 (63 : Int64))).toInt64) = (UInt64.ofNat (x.toUInt64.toNat >>> (8 * (k + 1)))).toInt64 := by
      intro k
      have e1 : ((8 : Int32).toInt64.toUInt64 &&& Int64.toUInt64 (63 : Int64)) = UInt64.ofNat (8 * 1) := by decide +kernel
      have e2 : (UInt64.ofNat (x.toUInt64.toNat >>> (8 * k))).toInt64.toUInt64 = UInt64.ofNat (x.toUInt64.toNat >>> (8 * k)) := rfl
      rw [e1, e2, u_shr _ (by omega), UInt64.toNat_ofNat', Nat.mod_eq_of_lt (shr_lt _ _), ← Nat.shiftRight_add]
      rfl
    unfold f_X7_charactersOf
    have hl := xlp_for (body := f_X7_charactersOf_l5 M') (q := if x.toUInt64.toNat >>> (8 * K) = 0 then nI K else 0) (f := fun k => ((UInt64.ofNat (x.toUInt64.toNat >>> (8 * k))).toInt64, nI k)) K 4000 (by omega) (fun k hk => ?_) ?_
    · rw [h0] at hl
      exact hl
    · unfold f_X7_charactersOf_l5
      dsimp only
      rw [if_pos (lt_8 (show k < 8 by omega) ▸ trivial), hin k (by omega), Option.bind_some, h1 k hk, if_neg (by decide), hstep, aI_1]
    · unfold f_X7_charactersOf_l5
      dsimp only
      rcases h2 with h8 | hb
      · subst h8
        rw [if_neg (show ¬ nI 8 < 8 by decide), hj 8 (by omega)]
        rfl
      · rcases Nat.lt_or_ge K 8 with z | z
        · rw [if_pos (lt_8 z ▸ trivial), hin K z, Option.bind_some, hb, if_pos (by rfl), hj K (by omega)]
          rfl
        · have : K = 8 := by omega
          subst this
          rw [if_neg (show ¬ nI 8 < 8 by decide), hj 8 (by omega)]
          rfl
