/-! a permit made longer; a rack put out of use or into use -/
theorem lt0_nI {k : Nat} (h : k < 2 ^ 31) : ((0 : Int32) < nI k) = (0 < k) := propext ⟨fun z => (nI_ltI (a := 0) (by omega) h).mp z, fun z => nI_lt (a := 0) z h⟩
/-! racks -/
def uX (U : Nat → Nat) (sh k : Nat) : Nat → Nat := fun i => if i = sh then U sh ^^^ 2 ^ k else U i
theorem pow_lt_256 {k : Nat} (h : k < 8) : 2 ^ k < 256 := by
  rcases (by omega : k = 0 ∨ k = 1 ∨ k = 2 ∨ k = 3 ∨ k = 4 ∨ k = 5 ∨ k = 6 ∨ k = 7) with rfl | rfl | rfl | rfl | rfl | rfl | rfl | rfl <;> decide
theorem xor_lt_256 {a b : Nat} (ha : a < 256) (hb : b < 256) : a ^^^ b < 256 := Nat.xor_lt_two_pow (n := 8) ha hb
theorem gA.racks {D T : Nat} {σ : Nat → Nat → Int32} {W : Nat → List Nat} {U : Nat → Nat} {sq d kp nt sh k : Nat} (h : gA D T σ W U sq d kp nt) (hs : sh < 3) (hk : k < 8) : gA D T (ud σ 2 sh (nI (U sh ^^^ 2 ^ k))) W (uX U sh k) sq d kp nt := by
  obtain ⟨hW, hN, hU, ⟨v1, v2, v3, v4, v5, v6⟩, hd, hB, ⟨b1, b2⟩, hS⟩ := h
  have ot : ∀ o j, o ≠ 2 → ud σ 2 sh (nI (U sh ^^^ 2 ^ k)) o j = σ o j := fun o j ho => ud_ne _ _ (fun z => ho z.1)
  refine ⟨hW.congr (fun o j h1 h2 => ot o j (by omega)), fun s hs q hq => ?_, ⟨?_, hU.2.1, fun i hi => ?_⟩, ⟨?_, v2, ?_, v4, fun q hq => ?_, fun q hq => ?_⟩, hd, hB.congr (fun o j h1 h2 => ot o j (by omega)), ⟨fun q hq hr => ?_, fun s hs q hq => ?_⟩, hS.congr (fun j => ot 1 j (by omega))⟩
  · rw [ot 4 q (by omega)]
    exact hN s hs q hq
  · rw [ot 1 0 (by omega)]
    exact hU.1
  · unfold uX
    by_cases e : i = sh
    · subst e
      rw [if_pos rfl, ud_eq]
      exact ⟨xor_lt_256 (hU.2.2 i hi).1 (pow_lt_256 hk), rfl⟩
    · rw [if_neg e, ud_col _ _ _ _ e]
      exact hU.2.2 i hi
  · rw [ot 0 4 (by omega)]
    exact v1
  · rw [ot 1 3 (by omega)]
    exact v3
  · rw [ot 4 q (by omega)]
    exact v5 q hq
  · rw [ot 23 q (by omega)]
    exact v6 q hq
  · rw [ot 4 q (by omega)] at hr
    rw [ot 5 q (by omega)]
    exact b1 q hq hr
  · rw [ot _ q (by omega)]
    exact b2 s hs q hq
theorem bI_eq {a b : Bool} : (bI a = bI b) = (a = b) := by
  cases a <;> cases b
  · exact (eq_true rfl).trans (eq_true rfl).symm
  · exact (eq_false (by decide)).trans (eq_false (by decide)).symm
  · exact (eq_false (by decide)).trans (eq_false (by decide)).symm
  · exact (eq_true rfl).trans (eq_true rfl).symm
theorem ite_bI1 {α : Type} (b : Bool) (x y : α) : (if bI b = 1 then x else y) = if b = true then x else y := by
  cases b
  · exact if_neg (by decide)
  · exact if_pos rfl
