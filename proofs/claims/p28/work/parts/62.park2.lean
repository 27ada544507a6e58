/-! parking in both -/
theorem taken_bit {σ : Nat → Nat → Int32} {d sh : Nat} (hB : cB σ d) (hs : sh < 3) : ∃ v, v < 256 ∧ orB (fun p => decide (σ 19 p = nI sh)) (σ 20) 20 = nI v ∧ ∀ k, k < 8 → (v.testBit k = !decide (own σ sh k 20 = -6)) := by
  have hg : ∀ p, p < 20 → decide (σ 19 p = nI sh) = true → σ 20 p = nI ((σ 20 p).toNatClampNeg) ∧ (σ 20 p).toNatClampNeg < 8 := by
    intro p hp h
    have h := of_decide_eq_true h
    rcases hB.1 p hp with z | ⟨sh', k, pk, b1, b2, b3, b4, b5, b6, b7⟩
    · exact absurd (h.symm.trans z.1) (nI_ne6 (by omega))
    · rw [b5, cl_nI (by omega)]
      exact ⟨rfl, b2⟩
  refine ⟨orN (fun p => decide (σ 19 p = nI sh)) (fun p => (σ 20 p).toNatClampNeg) 20, orN_lt 20 (fun p hp h => (hg p hp h).2), orB_nI 20 hg, fun k hk => ?_⟩
  rw [Bool.eq_iff_iff, orN_bit, Bool.not_eq_true', decide_eq_false_iff_not]
  constructor
  · rintro ⟨p, p1, p2, p3⟩ h
    rw [own_none (Nat.le_refl 20)] at h
    refine h p p1 ⟨of_decide_eq_true p2, ?_⟩
    rw [(hg p p1 p2).1, p3]
  · intro h
    obtain ⟨p, p1, p2, p3, p4⟩ := own_some h
    refine ⟨p, p1, decide_eq_true p2, ?_⟩
    show (σ 20 p).toNatClampNeg = k
    rw [p3, cl_nI (by omega)]
theorem c_lowestFree {r sh u d : Nat} {M : xM} (hB : cB (M.1 r) d) (hs : sh < 3) (hu : u < 256) (hU : M.1 r 2 sh = nI u) : f_X5_lowestFreeRack r (nI sh) M = some (low (fun k => u.testBit k && decide (own (M.1 r) sh k 20 = -6)) 8) := by
  obtain ⟨v, v1, v2, v3⟩ := taken_bit hB hs
  unfold f_X5_lowestFreeRack
  simp (disch := omega) only [in_nI, cl_nI, if_true, c_racksTaken, Option.bind_some, v2, hU, not_and v1 hu]
  have hb : ∀ k, k < 8 → (u &&& (255 ^^^ v)).testBit k = (u.testBit k && decide (own (M.1 r) sh k 20 = -6)) := by
    intro k hk
    rw [Nat.testBit_and, bit_255 hk, v3 k hk, Bool.not_not]
  have hlt : u &&& (255 ^^^ v) < 256 := Nat.lt_of_le_of_lt Nat.and_le_left hu
  rcases c_lowest (M := M) hlt with ⟨h1, h2⟩ | ⟨k, k1, k2, k3, k4⟩
  · rw [h2, low_none (Nat.le_refl 8) (fun k _ hk => (hb k hk).symm.trans (h1 k hk))]
  · rw [k4, low_some k1 ((hb k k1).symm.trans k2) (by omega) (Nat.le_refl 8) (fun j _ hj => (hb j (by omega)).symm.trans (k3 j hj))]
theorem low_cases (P : Nat → Bool) : low P 8 = -6 ∨ ∃ k, k < 8 ∧ P k = true ∧ low P 8 = nI k := by
  have : ∀ n, n ≤ 8 → low P n = -6 ∨ ∃ k, k < 8 ∧ P k = true ∧ low P n = nI k := by
    intro n
    induction n with
    | zero => exact fun _ => Or.inl rfl
    | succ n ih =>
      intro hn
      show (if P (7 - n) = true then nI (7 - n) else low P n) = -6 ∨ ∃ k, k < 8 ∧ P k = true ∧ (if P (7 - n) = true then nI (7 - n) else low P n) = nI k
      by_cases h : P (7 - n) = true
      · rw [if_pos h]
        exact Or.inr ⟨7 - n, by omega, h, rfl⟩
      · rw [if_neg h]
        exact ih (by omega)
  exact this 8 (Nat.le_refl 8)
def zPk (p sh k : Nat) (dy : Int32) (σ : Nat → Nat → Int32) : Nat → Nat → Int32 := ud (ud (ud σ 19 p (nI sh)) 20 p (nI k)) 21 p dy
