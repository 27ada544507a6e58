/-! riding, answering, fetching -/
theorem sub_nI {a b : Nat} (h : b ≤ a) : nI a - nI b = nI (a - b) := by
  obtain ⟨c, rfl⟩ := Nat.le.dest h
  rw [Nat.add_sub_cancel_left, ← nI_add, Int32.add_comm, Int32.add_sub_cancel]
theorem gA.bikes {D T : Nat} {σ τ : Nat → Nat → Int32} {W : Nat → List Nat} {U : Nat → Nat} {sq d kp nt : Nat} (h : gA D T σ W U sq d kp nt) (e : ∀ o j, o < 18 → τ o j = σ o j) (hB : cB τ d) (hP : ∀ p, p < 20 → τ 23 p = -6 ∨ ∃ k, k ≤ d ∧ τ 23 p = nI k) : gA D T τ W U sq d kp nt := by
  obtain ⟨hW, hN, hU, ⟨v1, v2, v3, v4, v5, v6⟩, hd, -, ⟨l1, l2⟩, hS⟩ := h
  refine ⟨hW.congr (fun o j h1 h2 => e o j (by omega)), fun k hk q hq => ?_, hU.congr (fun j => e 1 j (by omega)) (fun j => e 2 j (by omega)), ⟨?_, v2, ?_, v4, fun q hq => ?_, hP⟩, hd, hB, ⟨fun q hq hr => ?_, fun s hs q hq => ?_⟩, hS.congr (fun j => e 1 j (by omega))⟩
  · rw [e 4 q (by omega)]
    exact hN k hk q hq
  · rw [e 0 4 (by omega)]
    exact v1
  · rw [e 1 3 (by omega)]
    exact v3
  · rw [e 4 q (by omega)]
    exact v5 q hq
  · rw [e 4 q (by omega)] at hr
    rw [e 5 q (by omega)]
    exact l1 q hq hr
  · rw [e _ q (by omega)]
    exact l2 s hs q hq
def zLR (p : Nat) (σ : Nat → Nat → Int32) : Nat → Nat → Int32 := ud (ud (ud (ud σ 19 p (-6)) 20 p (-6)) 21 p (-6)) 22 p (-6)
theorem zLR_p {p : Nat} {σ : Nat → Nat → Int32} : zLR p σ 19 p = -6 ∧ zLR p σ 20 p = -6 ∧ zLR p σ 21 p = -6 ∧ zLR p σ 22 p = -6 := by
  unfold zLR
  refine ⟨?_, ?_, ?_, ?_⟩
  · rw [ud_ne _ _ (by omega), ud_ne _ _ (by omega), ud_ne _ _ (by omega), ud_eq]
  · rw [ud_ne _ _ (by omega), ud_ne _ _ (by omega), ud_eq]
  · rw [ud_ne _ _ (by omega), ud_eq]
  · rw [ud_eq]
theorem zLR_col {p : Nat} {σ : Nat → Nat → Int32} {o j : Nat} (h : j ≠ p) : zLR p σ o j = σ o j := by
  unfold zLR
  rw [ud_col _ _ _ _ h, ud_col _ _ _ _ h, ud_col _ _ _ _ h, ud_col _ _ _ _ h]
theorem zLR_other {p : Nat} {σ : Nat → Nat → Int32} {o j : Nat} (h : ¬ (19 ≤ o ∧ o < 23)) : zLR p σ o j = σ o j := by
  unfold zLR
  rw [ud_ne _ _ (fun z => by omega), ud_ne _ _ (fun z => by omega), ud_ne _ _ (fun z => by omega), ud_ne _ _ (fun z => by omega)]
theorem cB.leave {σ : Nat → Nat → Int32} {d p : Nat} (h : cB σ d) : cB (zLR p σ) d := by
  refine ⟨fun q hq => ?_, fun q q' hq hq' hn h19 => ?_⟩
  · by_cases e : q = p
    · subst e
      exact Or.inl zLR_p
    · rw [zLR_col e, zLR_col e, zLR_col e, zLR_col e]
      exact h.1 q hq
  · by_cases e : q = p
    · subst e
      exact absurd zLR_p.1 h19
    · by_cases e' : q' = p
      · subst e'
        intro h1
        exact absurd (h1.trans zLR_p.1) h19
      · rw [zLR_col e] at h19
        rw [zLR_col e, zLR_col e', zLR_col e, zLR_col e']
        exact h.2 q q' hq hq' hn h19
theorem gA.leaveRack {D T : Nat} {σ : Nat → Nat → Int32} {W : Nat → List Nat} {U : Nat → Nat} {sq d kp nt p : Nat} (h : gA D T σ W U sq d kp nt) : gA D T (zLR p σ) W U sq d kp nt := by
  refine h.bikes (fun o j ho => zLR_other (by omega)) (h.2.2.2.2.2.1.leave) (fun q hq => ?_)
  rw [zLR_other (by omega)]
  exact h.2.2.2.1.2.2.2.2.2 q hq
theorem cW.ud {σ : Nat → Nat → Int32} {W : Nat → List Nat} (h : cW σ W) {o j : Nat} (v : Int32) (ho : ¬ (7 ≤ o ∧ o < 10)) : cW (ud σ o j v) W := h.congr (fun o' j' h1 h2 => ud_ne _ _ (fun z => by omega))
