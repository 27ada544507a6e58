/-! what holds of a state of the class at all times -/
/-- bicycles: in no rack, or in one of a shed, each in its own -/
def cB (σ : Nat → Nat → Int32) (d : Nat) : Prop := (∀ p, p < 20 → (σ 19 p = -6 ∧ σ 20 p = -6 ∧ σ 21 p = -6 ∧ σ 22 p = -6) ∨ ∃ sh k pk, sh < 3 ∧ k < 8 ∧ pk ≤ d ∧ σ 19 p = nI sh ∧ σ 20 p = nI k ∧ σ 21 p = nI pk ∧ (σ 22 p = -6 ∨ ∃ t, t ≤ d ∧ σ 22 p = nI t)) ∧ ∀ p q, p < 20 → q < 20 → p ≠ q → σ 19 p ≠ -6 → σ 19 p = σ 19 q → σ 20 p ≠ σ 20 q
/-- permits end on a day from now on; who waits asked for 1 to 99 days -/
def cL (σ : Nat → Nat → Int32) (W : Nat → List Nat) (d T : Nat) : Prop := (∀ p, p < 20 → rg 3 (σ 4 p) = true → ∃ l, d ≤ l ∧ l ≤ T ∧ σ 5 p = nI l) ∧ ∀ sh, sh < 3 → ∀ q ∈ W sh, ∃ a, 1 ≤ a ∧ a ≤ 99 ∧ σ (11 + sh) q = nI a
/-- settings -/
def cS (σ : Nat → Nat → Int32) (nt : Nat) : Prop := (∀ k, k < 4 → ∃ v, v ≤ 99 ∧ σ 1 k = nI v) ∧ σ 1 2 = nI nt ∧ 1 ≤ nt ∧ nt ≤ 30
def gA (D T : Nat) (σ : Nat → Nat → Int32) (W : Nat → List Nat) (U : Nat → Nat) (sq d kp nt : Nat) : Prop := cW σ W ∧ cN σ W ∧ cU σ U sq ∧ cV σ d kp ∧ d ≤ D ∧ cB σ d ∧ cL σ W d T ∧ cS σ nt
theorem cB.congr {σ τ : Nat → Nat → Int32} {d : Nat} (h : cB σ d) (e : ∀ o j, 19 ≤ o → o < 23 → τ o j = σ o j) : cB τ d := by
  refine ⟨fun p hp => ?_, fun p q hp hq hn => ?_⟩
  · rw [e 19 p (by omega) (by omega), e 20 p (by omega) (by omega), e 21 p (by omega) (by omega), e 22 p (by omega) (by omega)]
    exact h.1 p hp
  · rw [e 19 p (by omega) (by omega), e 19 q (by omega) (by omega), e 20 p (by omega) (by omega), e 20 q (by omega) (by omega)]
    exact h.2 p q hp hq hn
theorem cS.congr {σ τ : Nat → Nat → Int32} {nt : Nat} (h : cS σ nt) (e : ∀ j, τ 1 j = σ 1 j) : cS τ nt := ⟨fun k hk => by rw [e]; exact h.1 k hk, by rw [e]; exact h.2.1, h.2.2⟩
theorem give_day {d a : Nat} (ha : 1 ≤ a) : (nI d + nI a) - 1 = nI (d + a - 1) := by
  obtain ⟨c, rfl⟩ : ∃ c, a = c + 1 := ⟨a - 1, by omega⟩
  rw [nI_add, show d + (c + 1) = (d + (c + 1) - 1) + 1 by omega, ← up_1, Int32.add_sub_cancel]
  rfl
theorem rg3_nI {k : Nat} (h : k < 3) : rg 3 (nI k) = true := rg_nI h (by omega)
theorem gA.give {D T : Nat} {σ : Nat → Nat → Int32} {W : Nat → List Nat} {U : Nat → Nat} {sq d kp nt p sh a : Nat} (h : gA D T σ W U sq d kp nt) (hT : D + 99 ≤ T) (hp : p < 20) (hs : sh < 3) (ha : 1 ≤ a) (ha2 : a ≤ 99) : gA D T (zGive p (nI sh) (nI a) (σ 0 4) σ) (fun s => rmv p (W s)) U sq d kp nt := by
  obtain ⟨hW, hN, hU, ⟨v1, v2, v3, v4, v5, v6⟩, hd, hB, ⟨l1, l2⟩, hS⟩ := h
  have ot : ∀ o j, o ≠ 3 → o ≠ 4 → o ≠ 5 → ¬ (7 ≤ o ∧ o < 10) → zGive p (nI sh) (nI a) (σ 0 4) σ o j = σ o j := fun o j h3 h4 h5 h7 => zGive_other h3 h4 h5 h7
  have e5 : ∀ j, zGive p (nI sh) (nI a) (σ 0 4) σ 5 j = if j = p then nI (d + a - 1) else σ 5 j := by
    intro j
    rw [zGive_at (by omega), ud_ne _ _ (by omega)]
    by_cases e : j = p
    · subst e
      rw [ud_eq, if_pos rfl, v1, give_day ha]
    · rw [ud_col _ _ _ _ e, if_neg e, ud_ne _ _ (by omega)]
  refine ⟨hW.give hp _ _ _, hN.give hW, hU.congr (fun j => ot 1 j (by omega) (by omega) (by omega) (by omega)) (fun j => ot 2 j (by omega) (by omega) (by omega) (by omega)), ⟨?_, v2, ?_, v4, fun q hq => ?_, fun q hq => ?_⟩, hd, hB.congr (fun o j h1 h2 => ot o j (by omega) (by omega) (by omega) (by omega)), ⟨fun q hq hr => ?_, fun s hs q hq => ?_⟩, hS.congr (fun j => ot 1 j (by omega) (by omega) (by omega) (by omega))⟩
  · rw [ot 0 4 (by omega) (by omega) (by omega) (by omega)]
    exact v1
  · rw [ot 1 3 (by omega) (by omega) (by omega) (by omega)]
    exact v3
  · rw [zGive_4]
    by_cases e : q = p
    · rw [if_pos e]
      exact Or.inr (rg3_nI hs)
    · rw [if_neg e]
      exact v5 q hq
  · rw [ot 23 q (by omega) (by omega) (by omega) (by omega)]
    exact v6 q hq
  · rw [e5]
    rw [zGive_4] at hr
    by_cases e : q = p
    · rw [if_pos e]
      exact ⟨d + a - 1, by omega, by omega, rfl⟩
    · rw [if_neg e] at hr ⊢
      exact l1 q hq hr
  · rw [ot _ q (by omega) (by omega) (by omega) (by omega)]
    exact l2 s hs q (rmv_mem hq)
theorem gA.st {D T : Nat} {q : (Nat → Nat → Int32) × (Nat → List Nat)} {U : Nat → Nat} {sq d kp nt sh : Nat} (h : gA D T q.1 q.2 U sq d kp nt) (hT : D + 99 ≤ T) (hs : sh < 3) : gA D T (zSt sh q).1 (zSt sh q).2 U sq d kp nt := by
  cases hl : q.2 sh with
  | nil =>
    rw [zSt_nil hl]
    exact h
  | cons x r =>
    have hx : x ∈ q.2 sh := by
      rw [hl]
      exact List.mem_cons_self
    obtain ⟨a, a1, a2, a3⟩ := h.2.2.2.2.2.2.1.2 sh hs x hx
    rw [zSt_cons hl, a3]
    exact h.give hT ((h.1 sh hs).2.1 x hx) hs a1 a2
theorem gA.mv {D T : Nat} {q : (Nat → Nat → Int32) × (Nat → List Nat)} {U : Nat → Nat} {sq d kp nt sh : Nat} (h : gA D T q.1 q.2 U sq d kp nt) (hT : D + 99 ≤ T) (hs : sh < 3) : ∀ n, gA D T (zMv sh n q).1 (zMv sh n q).2 U sq d kp nt
  | 0 => h
  | n + 1 => gA.st (gA.mv h hT hs n) hT hs
theorem gA.up {D T : Nat} {q : (Nat → Nat → Int32) × (Nat → List Nat)} {U : Nat → Nat} {sq d kp nt : Nat} (h : gA D T q.1 q.2 U sq d kp nt) (hT : D + 99 ≤ T) : ∀ n, n ≤ 3 → gA D T (zUp U sq n q).1 (zUp U sq n q).2 U sq d kp nt
  | 0, _ => h
  | n + 1, hn => gA.mv (gA.up h hT n (by omega)) hT (by omega) _
/-! a day begins -/
theorem zDay0_4 {σ : Nat → Nat → Int32} {j : Nat} (hj : j < 20) : zDay0 σ 4 j = if rg 3 (σ 4 j) = true ∧ σ 5 j < σ 0 4 + 1 then -6 else σ 4 j := by
  rw [zDay0_pm]
  unfold pm zDF
  rw [if_pos hj, zSell_other (by omega) (by omega)]
  unfold zEnd
  rw [ud_ne _ _ (by omega), ud_ne _ _ (by omega)]
  by_cases h : rg 3 (σ 4 j) = true ∧ σ 5 j < σ 0 4 + 1
  · rw [if_pos ⟨Or.inl rfl, h⟩, if_pos h]
  · rw [if_neg (fun z => h z.2), if_neg h]
theorem zDay0_5 {σ : Nat → Nat → Int32} {j : Nat} (hj : j < 20) : zDay0 σ 5 j = if rg 3 (σ 4 j) = true ∧ σ 5 j < σ 0 4 + 1 then -6 else σ 5 j := by
  rw [zDay0_pm]
  unfold pm zDF
  rw [if_pos hj, zSell_other (by omega) (by omega)]
  unfold zEnd
  rw [ud_ne _ _ (by omega), ud_ne _ _ (by omega)]
  by_cases h : rg 3 (σ 4 j) = true ∧ σ 5 j < σ 0 4 + 1
  · rw [if_pos ⟨Or.inr rfl, h⟩, if_pos h]
  · rw [if_neg (fun z => h z.2), if_neg h]
theorem zDay0_23 {σ : Nat → Nat → Int32} {j : Nat} (hj : j < 20) : zDay0 σ 23 j = if ¬ σ 23 j = -6 ∧ ¬ σ 0 4 + 1 - σ 1 3 < σ 23 j then -6 else σ 23 j := by
  rw [zDay0_pm]
  unfold pm zDF
  rw [if_pos hj]
  unfold zSell
  rw [zEnd_other (by omega) (by omega), ud_ne _ _ (by omega), if_pos rfl]
theorem zDay0_d {σ : Nat → Nat → Int32} : zDay0 σ 0 4 = σ 0 4 + 1 := by
  rw [zDay0_pm, pm_same (by rw [zDF_other (by omega) (by omega) (by omega) (by omega)]), ud_eq]
theorem gA.day0 {D D' T : Nat} {σ : Nat → Nat → Int32} {W : Nat → List Nat} {U : Nat → Nat} {sq d kp nt : Nat} (h : gA D T σ W U sq d kp nt) (hD : d + 1 ≤ D') (hD2 : D' ≤ 20000) (hT2 : T < 2 ^ 30) : gA D' T (zDay0 σ) W U sq (d + 1) kp nt := by
  obtain ⟨hW, hN, hU, ⟨v1, v2, v3, v4, v5, v6⟩, hd, hB, ⟨l1, l2⟩, hS⟩ := h
  have ot : ∀ o j, ¬ (o = 0 ∧ j = 4) → o ≠ 4 → o ≠ 5 → o ≠ 23 → o ≠ 24 → zDay0 σ o j = σ o j := fun o j h1 h2 h3 h4 h5 => zDay0_other h1 h2 h3 h4 h5
  refine ⟨hW.congr (fun o j h1 h2 => ot o j (by omega) (by omega) (by omega) (by omega) (by omega)), zDay0_N hN, hU.congr (fun j => ot 1 j (by omega) (by omega) (by omega) (by omega) (by omega)) (fun j => ot 2 j (by omega) (by omega) (by omega) (by omega) (by omega)), ⟨?_, by omega, ?_, v4, fun q hq => ?_, fun q hq => ?_⟩, hD, ?_, ⟨fun q hq hr => ?_, fun s hs q hq => ?_⟩, hS.congr (fun j => ot 1 j (by omega) (by omega) (by omega) (by omega) (by omega))⟩
  · rw [zDay0_d, v1, up_1]
  · rw [ot 1 3 (by omega) (by omega) (by omega) (by omega) (by omega)]
    exact v3
  · rw [zDay0_4 hq]
    split
    · exact Or.inl rfl
    · exact v5 q hq
  · rw [zDay0_23 hq]
    split
    · exact Or.inl rfl
    · rcases v6 q hq with z | ⟨k, k1, k2⟩
      · exact Or.inl z
      · exact Or.inr ⟨k, by omega, k2⟩
  · have hB' : cB σ (d + 1) := by
      refine ⟨fun p hp => ?_, hB.2⟩
      rcases hB.1 p hp with z | ⟨sh, k, pk, b1, b2, b3, b4, b5, b6, b7⟩
      · exact Or.inl z
      · refine Or.inr ⟨sh, k, pk, b1, b2, by omega, b4, b5, b6, ?_⟩
        rcases b7 with z | ⟨t, t1, t2⟩
        · exact Or.inl z
        · exact Or.inr ⟨t, by omega, t2⟩
    exact hB'.congr (fun o j h1 h2 => ot o j (by omega) (by omega) (by omega) (by omega) (by omega))
  · rw [zDay0_4 hq] at hr
    rw [zDay0_5 hq]
    by_cases e : rg 3 (σ 4 q) = true ∧ σ 5 q < σ 0 4 + 1
    · rw [if_pos e, rg_6] at hr
      cases hr
    · rw [if_neg e] at hr ⊢
      obtain ⟨l, a1, a2, a3⟩ := l1 q hq hr
      refine ⟨l, ?_, a2, a3⟩
      rcases Nat.lt_or_ge d l with z | z
      · exact z
      · exact absurd ⟨hr, by rw [a3, v1, up_1]; exact nI_lt (by omega) (by omega)⟩ e
  · rw [ot _ q (by omega) (by omega) (by omega) (by omega) (by omega)]
    exact l2 s hs q hq
theorem gA.day {D D' T : Nat} {q : (Nat → Nat → Int32) × (Nat → List Nat)} {U : Nat → Nat} {sq d kp nt : Nat} (h : gA D T q.1 q.2 U sq d kp nt) (hD : d + 1 ≤ D') (hD2 : D' ≤ 20000) (hT : D' + 99 ≤ T) (hT2 : T < 2 ^ 30) : gA D' T (zDay U sq q).1 (zDay U sq q).2 U sq (d + 1) kp nt := by
  rw [zDay_eq]
  exact gA.up (q := (zDay0 q.1, q.2)) (h.day0 hD hD2 hT2) hT 3 (Nat.le_refl 3)
theorem gA.mono {D D' T T' : Nat} {σ : Nat → Nat → Int32} {W : Nat → List Nat} {U : Nat → Nat} {sq d kp nt : Nat} (h : gA D T σ W U sq d kp nt) (hD : d ≤ D') (hT : T ≤ T') : gA D' T' σ W U sq d kp nt := by
  obtain ⟨hW, hN, hU, hV, hd, hB, ⟨l1, l2⟩, hS⟩ := h
  refine ⟨hW, hN, hU, hV, hD, hB, ⟨fun p hp hr => ?_, l2⟩, hS⟩
  obtain ⟨l, a1, a2, a3⟩ := l1 p hp hr
  exact ⟨l, a1, by omega, a3⟩
