/-! settings -/
def sLo : Nat → Nat
  | 0 => 0
  | _ => 1
def sHi : Nat → Nat
  | 0 => 5
  | 1 => 60
  | 2 => 30
  | _ => 99
theorem sLo_at : ∀ k, k < 4 → ([0, 1, 1, 1] : List Int32).getD k 0 = nI (sLo k)
  | 0, _ => rfl
  | 1, _ => rfl
  | 2, _ => rfl
  | 3, _ => rfl
  | k + 4, h => by omega
theorem sHi_at : ∀ k, k < 4 → ([5, 60, 30, 99] : List Int32).getD k 0 = nI (sHi k)
  | 0, _ => rfl
  | 1, _ => rfl
  | 2, _ => rfl
  | 3, _ => rfl
  | k + 4, h => by omega
theorem sHi_le : ∀ k, sHi k ≤ 99
  | 0 => by decide
  | 1 => by decide
  | 2 => by decide
  | _ + 3 => Nat.le_refl 99
theorem isFrom_rg {x : Int32} {M : xM} : f_X6_isFrom 0 x 3 M = some (bI (rg 4 x)) := by
  rw [c_isFrom, show (3 : Int32) = nI 3 from rfl, rg_le (n := 3) (by omega)]
theorem gA.set {D T : Nat} {σ : Nat → Nat → Int32} {W : Nat → List Nat} {U : Nat → Nat} {sq d kp nt k v : Nat} (h : gA D T σ W U sq d kp nt) (hk : k < 4) (h1 : sLo k ≤ v) (h2 : v ≤ sHi k) : ∃ sq' kp' nt', gA D T (ud σ 1 k (nI v)) W U sq' d kp' nt' := by
  obtain ⟨hW, hN, hU, ⟨v1, v2, v3, v4, v5, v6⟩, hd, hB, ⟨l1, l2⟩, hS⟩ := h
  have hi := sHi_le k
  have ot : ∀ o j, o ≠ 1 → ud σ 1 k (nI v) o j = σ o j := fun o j ho => ud_ne _ _ (fun z => ho z.1)
  have on : ∀ j, ud σ 1 k (nI v) 1 j = if j = k then nI v else σ 1 j := by
    intro j
    by_cases e : j = k
    · subst e
      rw [ud_eq, if_pos rfl]
    · rw [ud_col _ _ _ _ e, if_neg e]
  have hlo : k ≠ 0 → 1 ≤ v := fun e => by
    have : sLo k = 1 := by
      rcases (by omega : k = 1 ∨ k = 2 ∨ k = 3) with rfl | rfl | rfl <;> rfl
    omega
  have h0 : k = 0 → v ≤ 5 := fun e => by
    rw [e] at h2
    exact h2
  have h30 : k = 2 → v ≤ 30 := fun e => by
    rw [e] at h2
    exact h2
  refine ⟨if k = 0 then v else sq, if k = 3 then v else kp, if k = 2 then v else nt, hW.congr (fun o j a1 a2 => ot o j (by omega)), fun s hs q hq => ?_, ⟨?_, ?_, fun s hs => ?_⟩, ⟨?_, v2, ?_, ?_, fun q hq => ?_, fun q hq => ?_⟩, hd, hB.congr (fun o j a1 a2 => ot o j (by omega)), ⟨fun q hq hr => ?_, fun s hs q hq => ?_⟩, fun i hi => ?_, ?_, ?_, ?_⟩
  · rw [ot 4 q (by omega)]
    exact hN s hs q hq
  · rw [on]
    by_cases e : k = 0
    · rw [if_pos e.symm, if_pos e]
    · rw [if_neg (fun z => e z.symm), if_neg e]
      exact hU.1
  · by_cases e : k = 0
    · rw [if_pos e]
      exact h0 e
    · rw [if_neg e]
      exact hU.2.1
  · rw [ot 2 s (by omega)]
    exact hU.2.2 s hs
  · rw [ot 0 4 (by omega)]
    exact v1
  · rw [on]
    by_cases e : k = 3
    · rw [if_pos e.symm, if_pos e]
    · rw [if_neg (fun z => e z.symm), if_neg e]
      exact v3
  · split
    · omega
    · exact v4
  · rw [ot 4 q (by omega)]
    exact v5 q hq
  · rw [ot 23 q (by omega)]
    exact v6 q hq
  · rw [ot 4 q (by omega)] at hr
    rw [ot 5 q (by omega)]
    exact l1 q hq hr
  · rw [ot _ q (by omega)]
    exact l2 s hs q hq
  · rw [on]
    split
    · exact ⟨v, by omega, rfl⟩
    · exact hS.1 i hi
  · rw [on]
    by_cases e : k = 2
    · rw [if_pos e.symm, if_pos e]
    · rw [if_neg (fun z => e z.symm), if_neg e]
      exact hS.2.1
  · split
    · next e => exact hlo (by omega)
    · exact hS.2.2.1
  · split
    · next e => exact h30 e
    · exact hS.2.2.2
