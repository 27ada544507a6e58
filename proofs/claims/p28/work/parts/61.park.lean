/-! parking: the lowest free rack, both ways -/
theorem or_nI' {a b : Nat} (ha : a < 256) (hb : b < 256) : nI a ||| nI b = nI (a ||| b) := or_nI (by omega) (by omega)
/-- the class's search -/
theorem c_lowest {f : Nat} {M : xM} (hf : f < 256) : (∀ k, k < 8 → f.testBit k = false) ∧ xlp (f_X5_lowestFreeRack_l20 (nI f) M) 4000 (0 : Int32) = some (-6) ∨ ∃ k, k < 8 ∧ f.testBit k = true ∧ (∀ j, j < k → f.testBit j = false) ∧ xlp (f_X5_lowestFreeRack_l20 (nI f) M) 4000 (0 : Int32) = some (nI k) := by
  have stepF : ∀ k, k < 8 → f.testBit k = false → f_X5_lowestFreeRack_l20 (nI f) M (nI k) = some (.inl (nI (k + 1))) := by
    intro k hk h
    unfold f_X5_lowestFreeRack_l20
    rw [show ((nI f >>> (nI k &&& 31)) &&& 1 : Int32) = bI (f.testBit k) from bit_nI f hf k hk, h]
    simp (disch := omega) only [lt_8, if_true, aI_1]
    rfl
  have stepT : ∀ k, k < 8 → f.testBit k = true → f_X5_lowestFreeRack_l20 (nI f) M (nI k) = some (.inr (nI k)) := by
    intro k hk h
    unfold f_X5_lowestFreeRack_l20
    rw [show ((nI f >>> (nI k &&& 31)) &&& 1 : Int32) = bI (f.testBit k) from bit_nI f hf k hk, h]
    simp (disch := omega) only [lt_8, if_true]
    rfl
  by_cases h : ∃ k, k < 8 ∧ f.testBit k = true
  · right
    have least : ∀ n, n ≤ 8 → (∃ k, k < n ∧ f.testBit k = true) → ∃ k, k < n ∧ f.testBit k = true ∧ ∀ j, j < k → f.testBit j = false := by
      intro n
      induction n with
      | zero =>
        rintro - ⟨k, hk, -⟩
        omega
      | succ n ih =>
        rintro hn ⟨k, hk, hb⟩
        by_cases h2 : ∃ k, k < n ∧ f.testBit k = true
        · obtain ⟨j, j1, j2, j3⟩ := ih (by omega) h2
          exact ⟨j, by omega, j2, j3⟩
        · have hkn : k = n := by
            rcases Nat.lt_or_ge k n with z | z
            · exact absurd ⟨k, z, hb⟩ h2
            · omega
          subst hkn
          refine ⟨k, hk, hb, fun j hj => ?_⟩
          cases hbj : f.testBit j
          · rfl
          · exact absurd ⟨j, hj, hbj⟩ h2
    obtain ⟨k, k1, k2, k3⟩ := least 8 (Nat.le_refl 8) h
    refine ⟨k, k1, k2, k3, ?_⟩
    exact xlp_for (f := fun j => nI j) k 4000 (by omega) (fun j hj => stepF j (by omega) (k3 j hj)) (stepT k k1 k2)
  · left
    have hn : ∀ k, k < 8 → f.testBit k = false := fun k hk => by
      cases hb : f.testBit k
      · rfl
      · exact absurd ⟨k, hk, hb⟩ h
    refine ⟨hn, ?_⟩
    exact xlp_for (f := fun j => nI j) 8 4000 (by omega) (fun j hj => stepF j hj (hn j hj)) rfl
/-- who has its bicycle in a rack, the last one in the order of people -/
def own (σ : Nat → Nat → Int32) (sh k : Nat) : Nat → Int32
  | 0 => -6
  | n + 1 => if σ 19 n = nI sh ∧ σ 20 n = nI k then nI n else own σ sh k n
theorem own_none {σ : Nat → Nat → Int32} {sh k : Nat} : ∀ {n : Nat}, n ≤ 20 → (own σ sh k n = -6) = ∀ p, p < n → ¬ (σ 19 p = nI sh ∧ σ 20 p = nI k)
  | 0, _ => (eq_true rfl).trans (eq_true (fun p hp => by omega)).symm
  | n + 1, hn => by
    show ((if σ 19 n = nI sh ∧ σ 20 n = nI k then nI n else own σ sh k n) = -6) = _
    by_cases h : σ 19 n = nI sh ∧ σ 20 n = nI k
    · rw [if_pos h]
      exact (eq_false (nI_ne6 (by omega))).trans (eq_false (fun z => z n (by omega) h)).symm
    · rw [if_neg h, own_none (by omega)]
      refine propext ⟨fun z p hp => ?_, fun z p hp => z p (by omega)⟩
      rcases Nat.lt_or_ge p n with q | q
      · exact z p q
      · have : p = n := by omega
        subst this
        exact h
theorem own_some {σ : Nat → Nat → Int32} {sh k : Nat} : ∀ {n : Nat}, own σ sh k n ≠ -6 → ∃ p, p < n ∧ σ 19 p = nI sh ∧ σ 20 p = nI k ∧ own σ sh k n = nI p
  | 0, h => absurd rfl h
  | n + 1, h => by
    have h : (if σ 19 n = nI sh ∧ σ 20 n = nI k then nI n else own σ sh k n) ≠ -6 := h
    show ∃ p, p < n + 1 ∧ σ 19 p = nI sh ∧ σ 20 p = nI k ∧ (if σ 19 n = nI sh ∧ σ 20 n = nI k then nI n else own σ sh k n) = nI p
    by_cases h1 : σ 19 n = nI sh ∧ σ 20 n = nI k
    · exact ⟨n, by omega, h1.1, h1.2, if_pos h1⟩
    · rw [if_neg h1] at h ⊢
      obtain ⟨p, p1, p2, p3, p4⟩ := own_some h
      exact ⟨p, by omega, p2, p3, p4⟩
/-- the lowest place below n and from k down that is free -/
def low (P : Nat → Bool) : Nat → Int32
  | 0 => -6
  | n + 1 => if P (7 - n) = true then nI (7 - n) else low P n
theorem low_none {P : Nat → Bool} : ∀ {n : Nat}, n ≤ 8 → (∀ k, 8 - n ≤ k → k < 8 → P k = false) → low P n = -6
  | 0, _, _ => rfl
  | n + 1, hn, h => by
    show (if P (7 - n) = true then nI (7 - n) else low P n) = -6
    rw [h (7 - n) (by omega) (by omega), if_neg (by decide)]
    exact low_none (by omega) (fun k h1 h2 => h k (by omega) h2)
theorem low_some {P : Nat → Bool} {k : Nat} (hk : k < 8) (h1 : P k = true) : ∀ {n : Nat}, 8 - k ≤ n → n ≤ 8 → (∀ j, 8 - n ≤ j → j < k → P j = false) → low P n = nI k
  | 0, h, _, _ => by omega
  | n + 1, h, hn, h2 => by
    show (if P (7 - n) = true then nI (7 - n) else low P n) = nI k
    by_cases e : 7 - n = k
    · rw [e, if_pos h1]
    · rw [h2 (7 - n) (by omega) (by omega), if_neg (by decide)]
      exact low_some hk h1 (by omega) (by omega) (fun j j1 j2 => h2 j (by omega) j2)
theorem dec_nI {k : Nat} : nI (k + 1) + (-1 : Int32) = nI k := by
  rw [← aI_1, Int32.add_assoc]
  exact Int32.add_zero _
