/-! a permit given up -/
theorem zLv_other {p : Nat} {σ : Nat → Nat → Int32} {o j : Nat} (h : ¬ (7 ≤ o ∧ o < 10)) : zLv p σ 3 o j = σ o j := if_neg h
def zQt (p : Nat) (σ : Nat → Nat → Int32) : Nat → Nat → Int32 := zLv p (ud (ud σ 4 p (-6)) 5 p (-6)) 3
theorem zQt_other {p : Nat} {σ : Nat → Nat → Int32} {o j : Nat} (h4 : o ≠ 4) (h5 : o ≠ 5) (h7 : ¬ (7 ≤ o ∧ o < 10)) : zQt p σ o j = σ o j := by
  unfold zQt
  rw [zLv_other h7, ud_ne _ _ (fun z => h5 z.1), ud_ne _ _ (fun z => h4 z.1)]
theorem zQt_4 {p : Nat} {σ : Nat → Nat → Int32} {j : Nat} : zQt p σ 4 j = if j = p then -6 else σ 4 j := by
  unfold zQt
  rw [zLv_other (by omega), ud_ne _ _ (by omega)]
  by_cases e : j = p
  · subst e
    rw [ud_eq, if_pos rfl]
  · rw [ud_col _ _ _ _ e, if_neg e]
theorem zQt_5 {p : Nat} {σ : Nat → Nat → Int32} {j : Nat} : zQt p σ 5 j = if j = p then -6 else σ 5 j := by
  unfold zQt
  rw [zLv_other (by omega)]
  by_cases e : j = p
  · subst e
    rw [ud_eq, if_pos rfl]
  · rw [ud_col _ _ _ _ e, ud_col _ _ _ _ e, if_neg e]
theorem gA.quit {D T : Nat} {σ : Nat → Nat → Int32} {W : Nat → List Nat} {U : Nat → Nat} {sq d kp nt p : Nat} (h : gA D T σ W U sq d kp nt) (hp : p < 20) : gA D T (zQt p σ) (fun s => rmv p (W s)) U sq d kp nt := by
  obtain ⟨hW, hN, hU, ⟨v1, v2, v3, v4, v5, v6⟩, hd, hB, ⟨l1, l2⟩, hS⟩ := h
  have hW' : cW (ud (ud σ 4 p (-6)) 5 p (-6)) W := hW.congr (fun o j h1 h2 => by rw [ud_ne _ _ (fun z => by omega), ud_ne _ _ (fun z => by omega)])
  refine ⟨hW'.leave hp, fun s hs q hq => ?_, hU.congr (fun j => zQt_other (by omega) (by omega) (by omega)) (fun j => zQt_other (by omega) (by omega) (by omega)), ⟨?_, v2, ?_, v4, fun q hq => ?_, fun q hq => ?_⟩, hd, hB.congr (fun o j h1 h2 => zQt_other (by omega) (by omega) (by omega)), ⟨fun q hq hr => ?_, fun s hs q hq => ?_⟩, hS.congr (fun j => zQt_other (by omega) (by omega) (by omega))⟩
  · rw [zQt_4]
    split
    · rfl
    · exact hN s hs q (rmv_mem hq)
  · rw [zQt_other (by omega) (by omega) (by omega)]
    exact v1
  · rw [zQt_other (by omega) (by omega) (by omega)]
    exact v3
  · rw [zQt_4]
    split
    · exact Or.inl rfl
    · exact v5 q hq
  · rw [zQt_other (by omega) (by omega) (by omega)]
    exact v6 q hq
  · rw [zQt_4] at hr
    rw [zQt_5]
    by_cases e : q = p
    · rw [if_pos e, rg_6] at hr
      cases hr
    · rw [if_neg e] at hr ⊢
      exact l1 q hq hr
  · rw [zQt_other (by omega) (by omega) (by omega)]
    exact l2 s hs q (rmv_mem hq)
theorem c_waitsForSome {r p : Nat} {M : xM} (hp : p < 20) : f_X4_waitsForSome r (nI p) M = some (bI (!decide (zWait (M.1 r) p 3 = 0))) := by
  unfold f_X4_waitsForSome
  rw [c_shedsWaitedFor hp, Option.bind_some, nar_0, nar_1, bI_ite']
