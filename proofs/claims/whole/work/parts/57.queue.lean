/-! somebody comes to the end of a list -/
def zQ (p sh l : Nat) (a dy : Int32) (σ : Nat → Nat → Int32) : Nat → Nat → Int32 := ud (ud (ud σ (7 + sh) p (nI l)) (11 + sh) p a) (15 + sh) p dy
def zQW (p sh : Nat) (W : Nat → List Nat) : Nat → List Nat := fun k => if k = sh then W sh ++ [p] else W k
theorem zQ_other {p sh l : Nat} {a dy : Int32} {σ : Nat → Nat → Int32} {o j : Nat} (hs : sh < 3) (h : ¬ (7 ≤ o ∧ o < 18)) : zQ p sh l a dy σ o j = σ o j := by
  unfold zQ
  rw [ud_ne _ _ (fun z => by omega), ud_ne _ _ (fun z => by omega), ud_ne _ _ (fun z => by omega)]
theorem zQ_row {p sh l : Nat} {a dy : Int32} {σ : Nat → Nat → Int32} {k j : Nat} (hs : sh < 3) (hk : k < 3) : zQ p sh l a dy σ (7 + k) j = if k = sh ∧ j = p then nI l else σ (7 + k) j := by
  unfold zQ
  rw [ud_ne _ _ (fun z => by omega), ud_ne _ _ (fun z => by omega)]
  by_cases h : k = sh ∧ j = p
  · rw [if_pos h, h.1, h.2, ud_eq]
  · rw [if_neg h, ud_ne _ _ (fun z => h ⟨by omega, z.2⟩)]
theorem zQ_days {p sh l : Nat} {a dy : Int32} {σ : Nat → Nat → Int32} {k j : Nat} (hs : sh < 3) (hk : k < 3) : zQ p sh l a dy σ (11 + k) j = if k = sh ∧ j = p then a else σ (11 + k) j := by
  unfold zQ
  rw [ud_ne _ _ (fun z => by omega)]
  by_cases h : k = sh ∧ j = p
  · rw [if_pos h, h.1, h.2, ud_eq]
  · rw [if_neg h, ud_ne _ _ (fun z => h ⟨by omega, z.2⟩), ud_ne _ _ (fun z => by omega)]
theorem zQ_asked {p sh l : Nat} {a dy : Int32} {σ : Nat → Nat → Int32} {k j : Nat} (hs : sh < 3) (hk : k < 3) : zQ p sh l a dy σ (15 + k) j = if k = sh ∧ j = p then dy else σ (15 + k) j := by
  unfold zQ
  by_cases h : k = sh ∧ j = p
  · rw [if_pos h, h.1, h.2, ud_eq]
  · rw [if_neg h, ud_ne _ _ (fun z => h ⟨by omega, z.2⟩), ud_ne _ _ (fun z => by omega), ud_ne _ _ (fun z => by omega)]
theorem cW.queue {σ : Nat → Nat → Int32} {W : Nat → List Nat} (h : cW σ W) {p sh : Nat} {a dy : Int32} (hp : p < 20) (hs : sh < 3) (hm : p ∉ W sh) : cW (zQ p sh (W sh).length a dy σ) (zQW p sh W) := by
  intro k hk
  unfold zQW
  by_cases e : k = sh
  · subst e
    rw [if_pos rfl]
    refine (h k hs).push hp hm ?_ (fun q hq => ?_)
    · rw [zQ_row hs hk, if_pos ⟨rfl, rfl⟩]
    · rw [zQ_row hs hk, if_neg (fun z => hq z.2)]
  · rw [if_neg e]
    have : zQ p sh (W sh).length a dy σ (7 + k) = σ (7 + k) := by
      funext j
      rw [zQ_row hs hk, if_neg (fun z => e z.1)]
    rw [this]
    exact h k hk
theorem zQW_mem {p sh k q : Nat} {W : Nat → List Nat} (h : q ∈ zQW p sh W k) : q ∈ W k ∨ (k = sh ∧ q = p) := by
  unfold zQW at h
  split at h
  · next e =>
    subst e
    rcases List.mem_append.mp h with z | z
    · exact Or.inl z
    · exact Or.inr ⟨rfl, List.mem_singleton.mp z⟩
  · exact Or.inl h
theorem gA.queue {D T : Nat} {σ : Nat → Nat → Int32} {W : Nat → List Nat} {U : Nat → Nat} {sq d kp nt p sh a : Nat} {dy : Int32} (h : gA D T σ W U sq d kp nt) (hp : p < 20) (hs : sh < 3) (ha : 1 ≤ a) (ha2 : a ≤ 99) (h6 : σ 4 p = -6) (hm : p ∉ W sh) : gA D T (zQ p sh (W sh).length (nI a) dy σ) (zQW p sh W) U sq d kp nt := by
  obtain ⟨hW, hN, hU, ⟨v1, v2, v3, v4, v5, v6⟩, hd, hB, ⟨l1, l2⟩, hS⟩ := h
  refine ⟨hW.queue hp hs hm, fun k hk q hq => ?_, hU.congr (fun j => zQ_other hs (by omega)) (fun j => zQ_other hs (by omega)), ⟨?_, v2, ?_, v4, fun q hq => ?_, fun q hq => ?_⟩, hd, hB.congr (fun o j h1 h2 => zQ_other hs (by omega)), ⟨fun q hq hr => ?_, fun k hk q hq => ?_⟩, hS.congr (fun j => zQ_other hs (by omega))⟩
  · rw [zQ_other hs (by omega)]
    rcases zQW_mem hq with z | ⟨-, z⟩
    · exact hN k hk q z
    · rw [z]
      exact h6
  · rw [zQ_other hs (by omega)]
    exact v1
  · rw [zQ_other hs (by omega)]
    exact v3
  · rw [zQ_other hs (by omega)]
    exact v5 q hq
  · rw [zQ_other hs (by omega)]
    exact v6 q hq
  · rw [zQ_other hs (by omega)] at hr ⊢
    exact l1 q hq hr
  · rw [zQ_days hs hk]
    by_cases e : k = sh ∧ q = p
    · rw [if_pos e]
      exact ⟨a, ha, ha2, rfl⟩
    · rw [if_neg e]
      exact l2 k hk q ((zQW_mem hq).resolve_right e)
theorem mR.queue {σ : Nat → Nat → Int32} {W : Nat → List Nat} {U : Nat → Nat} {s : Nat → Int32} {b p sh : Nat} {a : Int32} (h : mR σ W U s b) (hc : cW σ W) (hp : p < 20) (hs : sh < 3) (hm : p ∉ W sh) : mR (zQ p sh (W sh).length a (σ 0 4) σ) (zQW p sh W) U (us (us (us (us s (b + 174 + 3 * (20 * sh + (W sh).length)) (nI p)) (b + 174 + 3 * (20 * sh + (W sh).length) + 1) a) (b + 174 + 3 * (20 * sh + (W sh).length) + 2) (s (b + 4))) (b + 11 + sh) (nI ((W sh).length + 1))) b := by
  obtain ⟨⟨a1, a2, a3, a4, a5⟩, ho, hl, hP⟩ := h
  have hlen : (W sh).length < 20 := by
    have := ((hc.queue (a := a) (dy := 0) hp hs hm) sh hs).len
    unfold zQW at this
    rw [if_pos rfl, List.length_append] at this
    exact this
  generalize hL : (W sh).length = L at hlen ⊢
  have lo : ∀ {j : Nat}, j < b + 174 → j ≠ b + 11 + sh → us (us (us (us s (b + 174 + 3 * (20 * sh + L)) (nI p)) (b + 174 + 3 * (20 * sh + L) + 1) a) (b + 174 + 3 * (20 * sh + L) + 2) (s (b + 4))) (b + 11 + sh) (nI (L + 1)) j = s j := by
    intro j h1 h2
    rw [us_ne _ _ h2, us_ne _ _ (by omega), us_ne _ _ (by omega), us_ne _ _ (by omega)]
  refine ⟨⟨fun k hk => ?_, ?_, ?_, ?_, ?_⟩, fun k hk => ?_, fun k hk => ⟨?_, fun i q hi => ?_⟩, fun q g hq hg => ?_⟩
  · rw [lo (by omega) (by omega), zQ_other hs (by omega)]
    exact a1 k hk
  · rw [lo (by omega) (by omega), zQ_other hs (by omega)]
    exact a2
  · rw [lo (by omega) (by omega)]
    have : zQ p sh L a (σ 0 4) σ 24 = σ 24 := by
      funext j
      exact zQ_other hs (by omega)
    rw [this]
    exact a3
  · rw [lo (by omega) (by omega), zQ_other hs (by omega)]
    exact a4
  · rw [lo (by omega) (by omega), zQ_other hs (by omega)]
    exact a5
  · rw [lo (by omega) (by omega)]
    exact ho k hk
  · unfold zQW
    by_cases e : k = sh
    · subst e
      rw [us_eq, if_pos rfl, List.length_append, hL]
      rfl
    · rw [lo (by omega) (by omega), if_neg e]
      exact (hl k hk).1
  · rw [zQ_days hs hk, zQ_asked hs hk]
    have old : (W k)[i]? = some q → (k = sh → i ≠ L) → us (us (us (us s (b + 174 + 3 * (20 * sh + L)) (nI p)) (b + 174 + 3 * (20 * sh + L) + 1) a) (b + 174 + 3 * (20 * sh + L) + 2) (s (b + 4))) (b + 11 + sh) (nI (L + 1)) (b + 174 + 3 * (20 * k + i)) = nI q ∧ us (us (us (us s (b + 174 + 3 * (20 * sh + L)) (nI p)) (b + 174 + 3 * (20 * sh + L) + 1) a) (b + 174 + 3 * (20 * sh + L) + 2) (s (b + 4))) (b + 11 + sh) (nI (L + 1)) (b + 174 + 3 * (20 * k + i) + 1) = (if k = sh ∧ q = p then a else σ (11 + k) q) ∧ us (us (us (us s (b + 174 + 3 * (20 * sh + L)) (nI p)) (b + 174 + 3 * (20 * sh + L) + 1) a) (b + 174 + 3 * (20 * sh + L) + 2) (s (b + 4))) (b + 11 + sh) (nI (L + 1)) (b + 174 + 3 * (20 * k + i) + 2) = (if k = sh ∧ q = p then σ 0 4 else σ (15 + k) q) := by
      intro hi hne
      have hi20 := ((hc k hk).lt hi).1
      have hp' : ¬ (k = sh ∧ q = p) := fun z => hm (by
        rw [← z.1, ← z.2]
        exact List.mem_of_getElem? hi)
      rw [if_neg hp', if_neg hp']
      have hix : 20 * k + i ≠ 20 * sh + L := by
        by_cases e : k = sh
        · have := hne e
          omega
        · omega
      rw [us_ne _ _ (by omega), us_ne _ _ (by omega), us_ne _ _ (by omega), us_ne _ _ (by omega), us_ne _ _ (by omega), us_ne _ _ (by omega), us_ne _ _ (by omega), us_ne _ _ (by omega), us_ne _ _ (by omega), us_ne _ _ (by omega), us_ne _ _ (by omega), us_ne _ _ (by omega)]
      exact (hl k hk).2 i q hi
    unfold zQW at hi
    by_cases e : k = sh
    · subst e
      rw [if_pos rfl] at hi
      by_cases hiL : i < L
      · rw [List.getElem?_append_left (by omega)] at hi
        exact old hi (fun _ => by omega)
      · have hi2 : i < ((W k) ++ [p]).length := by
          rcases Nat.lt_or_ge i ((W k) ++ [p]).length with z | z
          · exact z
          · rw [List.getElem?_eq_none z] at hi
            cases hi
        rw [List.length_append, hL] at hi2
        have hi3 : i < L + 1 := hi2
        have : i = L := by omega
        subst this
        rw [← hL, List.getElem?_concat_length] at hi
        have hq : q = p := (Option.some.inj hi).symm
        subst hq
        rw [if_pos ⟨rfl, rfl⟩, if_pos ⟨rfl, rfl⟩]
        refine ⟨?_, ?_, ?_⟩
        · rw [us_ne _ _ (by omega), us_ne _ _ (by omega), us_ne _ _ (by omega), us_eq]
        · rw [us_ne _ _ (by omega), us_ne _ _ (by omega), us_eq]
        · rw [us_ne _ _ (by omega), us_eq, a2]
    · rw [if_neg e] at hi
      exact old hi (fun z => absurd z e)
  · obtain ⟨f0, f1, f2, f3, f18, f7, f24⟩ := mF_far g hg
    have e1 : mF g ≠ 7 ∧ mF g ≠ 8 := by omega
    rw [lo (by omega) (by omega), zQ_other hs (by omega)]
    exact hP q g hq hg
