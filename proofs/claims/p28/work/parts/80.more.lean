/-! what else holds of a state: lists in the order of asking; who is in a rack is not in the pound; counters -/
def sumN (s : Nat → Nat) : Nat → Nat
  | 0 => 0
  | k + 1 => sumN s k + s k
def cO (σ : Nat → Nat → Int32) (W : Nat → List Nat) (d : Nat) : Prop := ∀ sh, sh < 3 → (∀ q ∈ W sh, ∃ k, k ≤ d ∧ σ (15 + sh) q = nI k) ∧ (W sh).Pairwise (fun a b => ¬ σ (15 + sh) b < σ (15 + sh) a)
def cP (σ : Nat → Nat → Int32) : Prop := ∀ p, p < 20 → σ 19 p ≠ -6 → σ 23 p = -6
def cE (σ : Nat → Nat → Int32) : Prop := ∀ p, p < 20 → σ 4 p = -6 → σ 5 p = -6
def cG (B : Nat) (σ : Nat → Nat → Int32) : Prop := ∃ g, σ 3 5 = nI g ∧ cnt (fun p => !decide (σ 4 p = -6)) 20 ≤ g ∧ g ≤ B
def cK (B : Nat) (σ : Nat → Nat → Int32) : Prop := ∃ t s, σ 18 6 = nI t ∧ (∀ p, p < 20 → σ 24 p = nI (s p)) ∧ cnt (fun p => !decide (σ 23 p = -6)) 20 + sumN s 20 ≤ t ∧ t ≤ B
def cY (Bg Bt : Nat) (σ : Nat → Nat → Int32) (W : Nat → List Nat) (d : Nat) : Prop := cO σ W d ∧ cP σ ∧ cE σ ∧ cG Bg σ ∧ cK Bt σ
/-- nobody waits for a shed that has permits to give -/
def cF (σ : Nat → Nat → Int32) (W : Nat → List Nat) (U : Nat → Nat) (sq : Nat) : Prop := ∀ sh, sh < 3 → W sh ≠ [] → pcnt (U sh) + sq ≤ cnt (fun p => decide (σ 4 p = nI sh)) 20
theorem cnt_mono {P Q : Nat → Bool} : ∀ n, (∀ p, p < n → P p = true → Q p = true) → cnt P n ≤ cnt Q n
  | 0, _ => Nat.le_refl _
  | n + 1, h => by
    have ih := cnt_mono (P := P) (Q := Q) n (fun p hp => h p (by omega))
    rw [cnt_succ, cnt_succ]
    by_cases hP : P n = true
    · rw [if_pos hP, if_pos (h n (by omega) hP)]
      omega
    · rw [if_neg hP]
      split <;> omega
theorem rmv_sub {p : Nat} : ∀ l : List Nat, (rmv p l).Sublist l
  | [] => List.Sublist.refl _
  | x :: r => by
    show (if x = p then r else x :: rmv p r).Sublist (x :: r)
    split
    · exact List.sublist_cons_self x r
    · exact (rmv_sub r).cons_cons x
theorem cO.congr {σ τ : Nat → Nat → Int32} {W : Nat → List Nat} {d d' : Nat} (h : cO σ W d) (e : ∀ o j, 15 ≤ o → o < 18 → τ o j = σ o j) (hd : d ≤ d') : cO τ W d' := by
  intro sh hs
  have e' : τ (15 + sh) = σ (15 + sh) := funext fun j => e _ j (by omega) (by omega)
  rw [e']
  exact ⟨fun q hq => by
    obtain ⟨k, k1, k2⟩ := (h sh hs).1 q hq
    exact ⟨k, by omega, k2⟩, (h sh hs).2⟩
theorem cO.rmv {σ : Nat → Nat → Int32} {W : Nat → List Nat} {d : Nat} (h : cO σ W d) (p : Nat) : cO σ (fun s => rmv p (W s)) d := fun sh hs => ⟨fun q hq => (h sh hs).1 q (rmv_mem hq), List.Pairwise.sublist (rmv_sub _) (h sh hs).2⟩
theorem cP.congr {σ τ : Nat → Nat → Int32} (h : cP σ) (e : ∀ o j, o = 19 ∨ o = 23 → τ o j = σ o j) : cP τ := by
  intro p hp
  rw [e 19 p (Or.inl rfl), e 23 p (Or.inr rfl)]
  exact h p hp
theorem cK.congr {B B' : Nat} {σ τ : Nat → Nat → Int32} (h : cK B σ) (e : ∀ o j, o = 18 ∨ o = 23 ∨ o = 24 → τ o j = σ o j) (hB : B ≤ B') : cK B' τ := by
  obtain ⟨t, s, h1, h2, h3, h4⟩ := h
  have e23 : τ 23 = σ 23 := funext fun j => e 23 j (by omega)
  refine ⟨t, s, ?_, fun p hp => ?_, ?_, by omega⟩
  · rw [e 18 6 (by omega)]
    exact h1
  · rw [e 24 p (by omega)]
    exact h2 p hp
  · rw [e23]
    exact h3
theorem cG.congr {B B' : Nat} {σ τ : Nat → Nat → Int32} (h : cG B σ) (e3 : τ 3 5 = σ 3 5) (e : ∀ p, p < 20 → τ 4 p ≠ -6 → σ 4 p ≠ -6) (hB : B ≤ B') : cG B' τ := by
  obtain ⟨g, h1, h2, h3⟩ := h
  refine ⟨g, e3.trans h1, Nat.le_trans (cnt_mono 20 (fun p hp z => ?_)) h2, by omega⟩
  simp only [Bool.not_eq_true', decide_eq_false_iff_not] at z ⊢
  exact e p hp z
theorem cE.congr {σ τ : Nat → Nat → Int32} (h : cE σ) (e : ∀ o j, o = 4 ∨ o = 5 → τ o j = σ o j) : cE τ := by
  intro p hp
  rw [e 4 p (Or.inl rfl), e 5 p (Or.inr rfl)]
  exact h p hp
theorem cY.mono {Bg Bt Bg' Bt' d : Nat} {σ : Nat → Nat → Int32} {W : Nat → List Nat} (h : cY Bg Bt σ W d) (h1 : Bg ≤ Bg') (h2 : Bt ≤ Bt') : cY Bg' Bt' σ W d := ⟨h.1, h.2.1, h.2.2.1, h.2.2.2.1.congr rfl (fun _ _ z => z) h1, h.2.2.2.2.congr (fun _ _ _ => rfl) h2⟩
/-- changes of places that none of this looks at -/
theorem cY.congr {Bg Bt d : Nat} {σ τ : Nat → Nat → Int32} {W : Nat → List Nat} (h : cY Bg Bt σ W d) (e : ∀ o j, (3 ≤ o ∧ o < 6) ∨ (15 ≤ o ∧ o < 20) ∨ (23 ≤ o ∧ o < 25) → τ o j = σ o j) : cY Bg Bt τ W d :=
  ⟨h.1.congr (fun o j h1 h2 => e o j (by omega)) (Nat.le_refl d), h.2.1.congr (fun o j h1 => e o j (by omega)), h.2.2.1.congr (fun o j h1 => e o j (by omega)), h.2.2.2.1.congr (e 3 5 (by omega)) (fun p _ z => by rw [e 4 p (by omega)] at z; exact z) (Nat.le_refl _), h.2.2.2.2.congr (fun o j h1 => e o j (by omega)) (Nat.le_refl _)⟩
theorem zGive_5 {p : Nat} {sh d dy : Int32} {σ : Nat → Nat → Int32} {j : Nat} : zGive p sh d dy σ 5 j = if j = p then (dy + d) - 1 else σ 5 j := by
  rw [zGive_at (by omega), ud_ne _ _ (by omega)]
  by_cases h : j = p
  · subst h
    rw [ud_eq, if_pos rfl]
  · rw [ud_col _ _ _ _ h, if_neg h, ud_ne _ _ (by omega)]
theorem cY.give {Bg Bt d p sh : Nat} {a dy : Int32} {σ : Nat → Nat → Int32} {W : Nat → List Nat} (h : cY Bg Bt σ W d) (hp : p < 20) (hs : sh < 3) (h6 : σ 4 p = -6) : cY (Bg + 1) Bt (zGive p (nI sh) a dy σ) (fun s => rmv p (W s)) d := by
  have ot : ∀ o j, o ≠ 3 → o ≠ 4 → o ≠ 5 → ¬ (7 ≤ o ∧ o < 10) → zGive p (nI sh) a dy σ o j = σ o j := fun o j h3 h4 h5 h7 => zGive_other h3 h4 h5 h7
  refine ⟨(h.1.congr (fun o j h1 h2 => ot o j (by omega) (by omega) (by omega) (by omega)) (Nat.le_refl d)).rmv p, h.2.1.congr (fun o j h1 => ot o j (by omega) (by omega) (by omega) (by omega)), fun q hq h4 => ?_, ?_, h.2.2.2.2.congr (fun o j h1 => ot o j (by omega) (by omega) (by omega) (by omega)) (Nat.le_refl _)⟩
  · rw [zGive_4] at h4
    rw [zGive_5]
    by_cases e : q = p
    · rw [if_pos e] at h4
      exact absurd h4 (nI_ne6 (by omega))
    · rw [if_neg e] at h4 ⊢
      exact h.2.2.1 q hq h4
  · obtain ⟨g, h1, h2, h3⟩ := h.2.2.2.1
    refine ⟨g + 1, ?_, ?_, by omega⟩
    · rw [zGive_3, h1, up_1]
    · have hx : (!decide (σ 4 p = -6)) = false := by rw [decide_eq_true h6]; rfl
      have ha := cnt_add (fun q => !decide (σ 4 q = -6)) p hx 20
      rw [if_pos hp] at ha
      have : cnt (fun q => !decide (zGive p (nI sh) a dy σ 4 q = -6)) 20 = cnt (fun q => (!decide (σ 4 q = -6)) || q == p) 20 := by
        refine cnt_congr 20 (fun j _ => ?_)
        rw [zGive_4]
        by_cases e : j = p
        · rw [if_pos e, beq_iff_eq.mpr e, Bool.or_true, decide_eq_false (nI_ne6 (by omega))]
          rfl
        · rw [if_neg e, beq_eq_false_iff_ne.mpr e, Bool.or_false]
      rw [this, ha]
      omega
theorem cY.st {Bg Bt d sh : Nat} {q : (Nat → Nat → Int32) × (Nat → List Nat)} (h : cY Bg Bt q.1 q.2 d) (hc : cW q.1 q.2) (hn : cN q.1 q.2) (hs : sh < 3) : cY (Bg + 1) Bt (zSt sh q).1 (zSt sh q).2 d := by
  cases hl : q.2 sh with
  | nil =>
    rw [zSt_nil hl]
    exact h.mono (by omega) (Nat.le_refl _)
  | cons x r =>
    have hx : x ∈ q.2 sh := by
      rw [hl]
      exact List.mem_cons_self
    rw [zSt_cons hl]
    exact h.give ((hc sh hs).2.1 x hx) hs (hn sh hs x hx)
theorem zSt_N {sh : Nat} {q : (Nat → Nat → Int32) × (Nat → List Nat)} (hc : cW q.1 q.2) (hn : cN q.1 q.2) : cN (zSt sh q).1 (zSt sh q).2 := by
  cases hl : q.2 sh with
  | nil =>
    rw [zSt_nil hl]
    exact hn
  | cons x r =>
    rw [zSt_cons hl]
    exact hn.give hc
theorem cY.mv {Bg Bt d sh : Nat} {q : (Nat → Nat → Int32) × (Nat → List Nat)} (h : cY Bg Bt q.1 q.2 d) (hc : cW q.1 q.2) (hn : cN q.1 q.2) (hs : sh < 3) : ∀ n, cY (Bg + n) Bt (zMv sh n q).1 (zMv sh n q).2 d
  | 0 => h
  | n + 1 => (cY.mv h hc hn hs n).st (zMv_W hs hc n) (zMv_N hs hc hn) hs
theorem cY.up {Bg Bt d sq : Nat} {U : Nat → Nat} {q : (Nat → Nat → Int32) × (Nat → List Nat)} (h : cY Bg Bt q.1 q.2 d) (hc : cW q.1 q.2) (hn : cN q.1 q.2) (hq : sq ≤ 5) : ∀ n, n ≤ 3 → cY (Bg + 13 * n) Bt (zUp U sq n q).1 (zUp U sq n q).2 d
  | 0, _ => h
  | n + 1, hn3 => by
    have ih := cY.up (U := U) h hc hn hq n (by omega)
    have hf : zFr U sq n (zUp U sq n q).1 ≤ 13 := by
      have := pcnt_le (U n)
      unfold zFr
      omega
    exact (ih.mv (zUp_W hc n (by omega)) (zUp_N hc hn n (by omega)) (by omega) (zFr U sq n (zUp U sq n q).1)).mono (by omega) (Nat.le_refl _)
/-! permits are not taken from anybody while people move up -/
theorem zSt_keep {sh p : Nat} {q : (Nat → Nat → Int32) × (Nat → List Nat)} (hn : cN q.1 q.2) (hs : sh < 3) (h : q.1 4 p ≠ -6) : (zSt sh q).1 4 p = q.1 4 p := by
  cases hl : q.2 sh with
  | nil => rw [zSt_nil hl]
  | cons x r =>
    rw [zSt_cons hl]
    dsimp only
    rw [zGive_4, if_neg (fun e => h (by
      rw [e]
      exact hn sh hs x (by rw [hl]; exact List.mem_cons_self)))]
theorem zMv_keep {sh p : Nat} {q : (Nat → Nat → Int32) × (Nat → List Nat)} (hc : cW q.1 q.2) (hn : cN q.1 q.2) (hs : sh < 3) (h : q.1 4 p ≠ -6) : ∀ n, (zMv sh n q).1 4 p = q.1 4 p
  | 0 => rfl
  | n + 1 => by
    have ih := zMv_keep hc hn hs h n
    exact (zSt_keep (q := zMv sh n q) (zMv_N hs hc hn) hs (by rw [ih]; exact h)).trans ih
theorem zSt_sub {sh s : Nat} {q : (Nat → Nat → Int32) × (Nat → List Nat)} : ((zSt sh q).2 s).Sublist (q.2 s) := by
  cases hl : q.2 sh with
  | nil =>
    rw [zSt_nil hl]
    exact List.Sublist.refl _
  | cons x r =>
    rw [zSt_cons hl]
    exact rmv_sub _
theorem zMv_sub {sh s : Nat} {q : (Nat → Nat → Int32) × (Nat → List Nat)} : ∀ n, ((zMv sh n q).2 s).Sublist (q.2 s)
  | 0 => List.Sublist.refl _
  | n + 1 => (zSt_sub (sh := sh) (q := zMv sh n q)).trans (zMv_sub n)
theorem sub_ne {l m : List Nat} (h : l.Sublist m) (hl : l ≠ []) : m ≠ [] := fun e => hl (by
  rw [e] at h
  exact List.sublist_nil.mp h)
theorem zUp_full {U : Nat → Nat} {sq : Nat} {q : (Nat → Nat → Int32) × (Nat → List Nat)} (hc : cW q.1 q.2) (hn : cN q.1 q.2) : ∀ n, n ≤ 3 → ∀ sh, sh < n → (zUp U sq n q).2 sh ≠ [] → pcnt (U sh) + sq ≤ cnt (fun p => decide ((zUp U sq n q).1 4 p = nI sh)) 20
  | 0, _, sh, h, _ => absurd h (by omega)
  | n + 1, h3, sh, hsh, hne => by
    have hWn := zUp_W (U := U) (sp := sq) hc n (by omega)
    have hNn := zUp_N (U := U) (sp := sq) hc hn n (by omega)
    have ih := zUp_full (U := U) (sq := sq) hc hn n (by omega) sh
    have he : zUp U sq (n + 1) q = zMv n (zFr U sq n (zUp U sq n q).1) (zUp U sq n q) := rfl
    rw [he] at hne ⊢
    generalize zUp U sq n q = Q at hWn hNn ih hne ⊢
    by_cases e : sh = n
    · subst e
      rw [zMv_min (by omega) hWn hNn] at hne ⊢
      obtain ⟨f1, f2, f3⟩ := zMv_facts (sh := sh) (q := Q) (by omega) hWn hNn (min (zFr U sq sh Q.1) (Q.2 sh).length) (Nat.min_le_right _ _)
      rw [f2]
      rw [f1] at hne
      have hlt : min (zFr U sq sh Q.1) (Q.2 sh).length < (Q.2 sh).length := by
        rcases Nat.lt_or_ge (min (zFr U sq sh Q.1) (Q.2 sh).length) (Q.2 sh).length with z | z
        · exact z
        · exact absurd (List.drop_eq_nil_of_le z) hne
      have : min (zFr U sq sh Q.1) (Q.2 sh).length = zFr U sq sh Q.1 := by omega
      rw [this]
      unfold zFr
      omega
    · refine Nat.le_trans (ih (by omega) (sub_ne (zMv_sub _) hne)) (cnt_mono 20 (fun p _ z => ?_))
      have z := of_decide_eq_true z
      refine decide_eq_true ?_
      rw [zMv_keep hWn hNn (by omega) (by rw [z]; exact nI_ne6 (by omega)), z]
theorem cF.up {U : Nat → Nat} {sq : Nat} {q : (Nat → Nat → Int32) × (Nat → List Nat)} (hc : cW q.1 q.2) (hn : cN q.1 q.2) : cF (zUp U sq 3 q).1 (zUp U sq 3 q).2 U sq := fun sh hs h => zUp_full hc hn 3 (Nat.le_refl 3) sh hs h
