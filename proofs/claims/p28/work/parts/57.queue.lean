/-! somebody comes to the end of a list -/
def zQ (p sh l : Nat) (a dy : Int32) (σ : Nat → Nat → Int32) : Nat → Nat → Int32 := ud (ud (ud σ (7 + sh) p (nI l)) (11 + sh) p a) (15 + sh) p dy
def zQW (p sh : Nat) (W : Nat → List Nat) : Nat → List Nat := fun k => if k = sh then W sh ++ [p] else W k
theorem zQ_other {p sh l : Nat} {a dy : Int32} {σ : Nat → Nat → Int32} {o j : Nat} (hs : sh < 3) (h : ¬ (7 ≤ o ∧ o < 18)) : zQ p sh l a dy σ o j = σ o j := by
  unfold zQ
  rw [ud_ne _ _ (fun z => by omega), ud_ne _ _ (fun z => by omega), ud_ne _ _ (fun z => by omega)]
theorem zQ_row {p sh l : Nat} {a dy : Int32} {σ : Nat → Nat → Int32} {k j : Nat} (hs : sh < 3) (hk : k < 3) : zQ p sh l a dy σ (7 + k) j = if k = sh ∧ j = p then nI l else σ (7 + k) j := by
  unfold zQ
  rw [ud_ne _ _ (fun z => by omega), ud_ne _ _ (fun z => by omega)]
  by_cases h : k = sh ∧ j = p
  · rw [if_pos h, h.1, h.2, ud_eq]
  · rw [if_neg h, ud_ne _ _ (fun z => h ⟨by omega, z.2⟩)]
theorem zQ_days {p sh l : Nat} {a dy : Int32} {σ : Nat → Nat → Int32} {k j : Nat} (hs : sh < 3) (hk : k < 3) : zQ p sh l a dy σ (11 + k) j = if k = sh ∧ j = p then a else σ (11 + k) j := by
  unfold zQ
  rw [ud_ne _ _ (fun z => by omega)]
  by_cases h : k = sh ∧ j = p
  · rw [if_pos h, h.1, h.2, ud_eq]
  · rw [if_neg h, ud_ne _ _ (fun z => h ⟨by omega, z.2⟩), ud_ne _ _ (fun z => by omega)]
theorem zQ_asked {p sh l : Nat} {a dy : Int32} {σ : Nat → Nat → Int32} {k j : Nat} (hs : sh < 3) (hk : k < 3) : zQ p sh l a dy σ (15 + k) j = if k = sh ∧ j = p then dy else σ (15 + k) j := by
  unfold zQ
  by_cases h : k = sh ∧ j = p
  · rw [if_pos h, h.1, h.2, ud_eq]
  · rw [if_neg h, ud_ne _ _ (fun z => h ⟨by omega, z.2⟩), ud_ne _ _ (fun z => by omega), ud_ne _ _ (fun z => by omega)]
theorem cW.queue {σ : Nat → Nat → Int32} {W : Nat → List Nat} (h : cW σ W) {p sh : Nat} {a dy : Int32} (hp : p < 20) (hs : sh < 3) (hm : p ∉ W sh) : cW (zQ p sh (W sh).length a dy σ) (zQW p sh W) := by
  intro k hk
  unfold zQW
  by_cases e : k = sh
  · subst e
    rw [if_pos rfl]
    refine (h k hs).push hp hm ?_ (fun q hq => ?_)
    · rw [zQ_row hs hk, if_pos ⟨rfl, rfl⟩]
    · rw [zQ_row hs hk, if_neg (fun z => hq z.2)]
  · rw [if_neg e]
    have : zQ p sh (W sh).length a dy σ (7 + k) = σ (7 + k) := by
      funext j
      rw [zQ_row hs hk, if_neg (fun z => e z.1)]
    rw [this]
    exact h k hk
theorem zQW_mem {p sh k q : Nat} {W : Nat → List Nat} (h : q ∈ zQW p sh W k) : q ∈ W k ∨ (k = sh ∧ q = p) := by
  unfold zQW at h
  split at h
  · next e =>
    subst e
    rcases List.mem_append.mp h with z | z
    · exact Or.inl z
    · exact Or.inr ⟨rfl, List.mem_singleton.mp z⟩
  · exact Or.inl h
theorem gA.queue {D T : Nat} {σ : Nat → Nat → Int32} {W : Nat → List Nat} {U : Nat → Nat} {sq d kp nt p sh a : Nat} {dy : Int32} (h : gA D T σ W U sq d kp nt) (hp : p < 20) (hs : sh < 3) (ha : 1 ≤ a) (ha2 : a ≤ 99) (h6 : σ 4 p = -6) (hm : p ∉ W sh) : gA D T (zQ p sh (W sh).length (nI a) dy σ) (zQW p sh W) U sq d kp nt := by
  obtain ⟨hW, hN, hU, ⟨v1, v2, v3, v4, v5, v6⟩, hd, hB, ⟨l1, l2⟩, hS⟩ := h
  refine ⟨hW.queue hp hs hm, fun k hk q hq => ?_, hU.congr (fun j => zQ_other hs (by omega)) (fun j => zQ_other hs (by omega)), ⟨?_, v2, ?_, v4, fun q hq => ?_, fun q hq => ?_⟩, hd, hB.congr (fun o j h1 h2 => zQ_other hs (by omega)), ⟨fun q hq hr => ?_, fun k hk q hq => ?_⟩, hS.congr (fun j => zQ_other hs (by omega))⟩
  · rw [zQ_other hs (by omega)]
    rcases zQW_mem hq with z | ⟨-, z⟩
    · exact hN k hk q z
    · rw [z]
      exact h6
  · rw [zQ_other hs (by omega)]
    exact v1
  · rw [zQ_other hs (by omega)]
    exact v3
  · rw [zQ_other hs (by omega)]
    exact v5 q hq
  · rw [zQ_other hs (by omega)]
    exact v6 q hq
  · rw [zQ_other hs (by omega)] at hr ⊢
    exact l1 q hq hr
  · rw [zQ_days hs hk]
    by_cases e : k = sh ∧ q = p
    · rw [if_pos e]
      exact ⟨a, ha, ha2, rfl⟩
    · rw [if_neg e]
      exact l2 k hk q ((zQW_mem hq).resolve_right e)
