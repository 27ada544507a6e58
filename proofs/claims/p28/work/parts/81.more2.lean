/-! days, and the deeds, keep it -/
theorem zDay0_24 {σ : Nat → Nat → Int32} {j : Nat} (hj : j < 20) : zDay0 σ 24 j = if ¬ σ 23 j = -6 ∧ ¬ σ 0 4 + 1 - σ 1 3 < σ 23 j then σ 24 j + 1 else σ 24 j := by
  rw [zDay0_pm]
  unfold pm zDF
  rw [if_pos hj]
  unfold zSell
  rw [zEnd_other (by omega) (by omega), zEnd_other (by omega) (by omega), ud_ne _ _ (by omega), ud_ne _ _ (by omega)]
  by_cases e : ¬ σ 23 j = -6 ∧ ¬ σ 0 4 + 1 - σ 1 3 < σ 23 j
  · rw [if_pos e, if_pos e, if_neg (show ¬ 24 = 23 by omega), if_pos rfl]
  · rw [if_neg e, if_neg e]
theorem cnt_sum {P P' : Nat → Bool} {s s' : Nat → Nat} : ∀ n, (∀ p, p < n → (P' p = P p ∧ s' p = s p) ∨ (P p = true ∧ P' p = false ∧ s' p = s p + 1)) → cnt P' n + sumN s' n = cnt P n + sumN s n
  | 0, _ => rfl
  | n + 1, h => by
    have ih := cnt_sum (P := P) (P' := P') (s := s) (s' := s') n (fun p hp => h p (by omega))
    show cnt P' (n + 1) + (sumN s' n + s' n) = cnt P (n + 1) + (sumN s n + s n)
    rw [cnt_succ, cnt_succ]
    rcases h n (by omega) with ⟨h1, h2⟩ | ⟨h1, h2, h3⟩
    · rw [h1, h2]
      split <;> omega
    · rw [h1, h2, h3, if_pos rfl, if_neg (by decide)]
      omega
theorem cY.day0 {Bg Bt d : Nat} {σ : Nat → Nat → Int32} {W : Nat → List Nat} (h : cY Bg Bt σ W d) : cY Bg Bt (zDay0 σ) W (d + 1) := by
  have ot : ∀ o j, ¬ (o = 0 ∧ j = 4) → o ≠ 4 → o ≠ 5 → o ≠ 23 → o ≠ 24 → zDay0 σ o j = σ o j := fun o j h1 h2 h3 h4 h5 => zDay0_other h1 h2 h3 h4 h5
  refine ⟨h.1.congr (fun o j h1 h2 => ot o j (by omega) (by omega) (by omega) (by omega) (by omega)) (by omega), fun p hp h19 => ?_, fun p hp h4 => ?_, h.2.2.2.1.congr (ot 3 5 (by omega) (by omega) (by omega) (by omega) (by omega)) (fun p hp z => ?_) (Nat.le_refl _), ?_⟩
  · rw [ot 19 p (by omega) (by omega) (by omega) (by omega) (by omega)] at h19
    rw [zDay0_23 hp, h.2.1 p hp h19, if_neg (fun z => z.1 rfl)]
  · rw [zDay0_4 hp] at h4
    rw [zDay0_5 hp]
    by_cases e : rg 3 (σ 4 p) = true ∧ σ 5 p < σ 0 4 + 1
    · rw [if_pos e]
    · rw [if_neg e] at h4 ⊢
      exact h.2.2.1 p hp h4
  · rw [zDay0_4 hp] at z
    split at z
    · exact absurd rfl z
    · exact z
  · obtain ⟨t, s, h1, h2, h3, h4⟩ := h.2.2.2.2
    have hs := cnt_sum (P := fun p => !decide (σ 23 p = -6)) (P' := fun p => !decide (zDay0 σ 23 p = -6)) (s := s) (s' := fun p => if ¬ σ 23 p = -6 ∧ ¬ σ 0 4 + 1 - σ 1 3 < σ 23 p then s p + 1 else s p) 20 (fun p hp => by
      rw [zDay0_23 hp]
      by_cases e : ¬ σ 23 p = -6 ∧ ¬ σ 0 4 + 1 - σ 1 3 < σ 23 p
      · rw [if_pos e, if_pos e, decide_eq_false e.1]
        exact Or.inr ⟨rfl, rfl, rfl⟩
      · rw [if_neg e, if_neg e]
        exact Or.inl ⟨rfl, rfl⟩)
    refine ⟨t, fun p => if ¬ σ 23 p = -6 ∧ ¬ σ 0 4 + 1 - σ 1 3 < σ 23 p then s p + 1 else s p, ?_, fun p hp => ?_, by rw [hs]; exact h3, h4⟩
    · rw [ot 18 6 (by omega) (by omega) (by omega) (by omega) (by omega)]
      exact h1
    · rw [zDay0_24 hp, h2 p hp]
      by_cases e : ¬ σ 23 p = -6 ∧ ¬ σ 0 4 + 1 - σ 1 3 < σ 23 p
      · show _ = nI (if _ then _ else _)
        rw [if_pos e, if_pos e, up_1]
      · show _ = nI (if _ then _ else _)
        rw [if_neg e, if_neg e]
theorem gA.c0 {D T : Nat} {σ : Nat → Nat → Int32} {W : Nat → List Nat} {U : Nat → Nat} {sq d kp nt : Nat} (h : gA D T σ W U sq d kp nt) : cW (zDay0 σ) W := h.1.congr (fun o j h1 h2 => zDay0_other (by omega) (by omega) (by omega) (by omega) (by omega))
theorem cY.day {D T Bg Bt d sq kp nt : Nat} {U : Nat → Nat} {q : (Nat → Nat → Int32) × (Nat → List Nat)} (h : cY Bg Bt q.1 q.2 d) (hA : gA D T q.1 q.2 U sq d kp nt) : cY (Bg + 39) Bt (zDay U sq q).1 (zDay U sq q).2 (d + 1) := by
  rw [zDay_eq]
  exact cY.up (q := (zDay0 q.1, q.2)) h.day0 hA.c0 (zDay0_N hA.2.1) hA.2.2.1.2.1 3 (Nat.le_refl 3)
theorem cF.day {D T d sq kp nt : Nat} {U : Nat → Nat} {q : (Nat → Nat → Int32) × (Nat → List Nat)} (hA : gA D T q.1 q.2 U sq d kp nt) : cF (zDay U sq q).1 (zDay U sq q).2 U sq := by
  rw [zDay_eq]
  exact cF.up (q := (zDay0 q.1, q.2)) hA.c0 (zDay0_N hA.2.1)
theorem cY.days {T Bg Bt d sq kp nt : Nat} {U : Nat → Nat} {q : (Nat → Nat → Int32) × (Nat → List Nat)} (h : cY Bg Bt q.1 q.2 d) (hA : gA d T q.1 q.2 U sq d kp nt) (hT2 : T < 2 ^ 30) : ∀ n, d + n ≤ 20000 → d + n + 99 ≤ T → cY (Bg + 39 * n) Bt (zDays U sq n q).1 (zDays U sq n q).2 (d + n)
  | 0, _, _ => h
  | n + 1, h1, h2 => by
    have ih := cY.days h hA hT2 n (by omega) (by omega)
    have hAn := gA.days hA hT2 n (by omega) (by omega)
    exact (ih.day hAn).mono (by omega) (Nat.le_refl _)
theorem cF.days {T d sq kp nt : Nat} {U : Nat → Nat} {q : (Nat → Nat → Int32) × (Nat → List Nat)} (h : cF q.1 q.2 U sq) (hA : gA d T q.1 q.2 U sq d kp nt) (hT2 : T < 2 ^ 30) : ∀ n, d + n ≤ 20000 → d + n + 99 ≤ T → cF (zDays U sq n q).1 (zDays U sq n q).2 U sq
  | 0, _, _ => h
  | n + 1, h1, h2 => cF.day (gA.days hA hT2 n (by omega) (by omega))
theorem cY.queue {Bg Bt d p sh : Nat} {a dy : Int32} {σ : Nat → Nat → Int32} {W : Nat → List Nat} (h : cY Bg Bt σ W d) (hs : sh < 3) (hm : p ∉ W sh) (hdy : dy = nI d) (hd : d ≤ 20000) : cY Bg Bt (zQ p sh (W sh).length a dy σ) (zQW p sh W) d := by
  have ot : ∀ o j, ¬ (7 ≤ o ∧ o < 18) → zQ p sh (W sh).length a dy σ o j = σ o j := fun o j ho => zQ_other hs ho
  refine ⟨fun k hk => ?_, h.2.1.congr (fun o j h1 => ot o j (by omega)), h.2.2.1.congr (fun o j h1 => ot o j (by omega)), h.2.2.2.1.congr (ot 3 5 (by omega)) (fun p' _ z => by rw [ot 4 p' (by omega)] at z; exact z) (Nat.le_refl _), h.2.2.2.2.congr (fun o j h1 => ot o j (by omega)) (Nat.le_refl _)⟩
  unfold zQW
  by_cases e : k = sh
  · subst e
    rw [if_pos rfl]
    have old : ∀ q ∈ W k, zQ p k (W k).length a dy σ (15 + k) q = σ (15 + k) q := fun q hq => by
      rw [zQ_asked hs hk, if_neg (fun z => hm (by rw [← z.2]; exact hq))]
    have new : zQ p k (W k).length a dy σ (15 + k) p = nI d := by
      rw [zQ_asked hs hk, if_pos ⟨rfl, rfl⟩, hdy]
    refine ⟨fun q hq => ?_, ?_⟩
    · rcases List.mem_append.mp hq with z | z
      · rw [old q z]
        exact (h.1 k hk).1 q z
      · rw [List.mem_singleton.mp z, new]
        exact ⟨d, Nat.le_refl d, rfl⟩
    · rw [List.pairwise_append]
      refine ⟨List.Pairwise.imp_of_mem (fun ha hb hr => ?_) (h.1 k hk).2, List.pairwise_singleton _ _, fun x hx y hy => ?_⟩
      · rw [old _ ha, old _ hb]
        exact hr
      · rw [List.mem_singleton.mp hy, new, old x hx]
        obtain ⟨t, t1, t2⟩ := (h.1 k hk).1 x hx
        rw [t2]
        exact nI_nlt t1 (by omega)
  · rw [if_neg e]
    have e' : zQ p sh (W sh).length a dy σ (15 + k) = σ (15 + k) := funext fun j => by rw [zQ_asked hs hk, if_neg (fun z => e z.1)]
    rw [e']
    exact h.1 k hk
theorem cY.quit {Bg Bt d p : Nat} {σ : Nat → Nat → Int32} {W : Nat → List Nat} (h : cY Bg Bt σ W d) : cY Bg Bt (zQt p σ) (fun s => rmv p (W s)) d := by
  have ot : ∀ o j, o ≠ 4 → o ≠ 5 → ¬ (7 ≤ o ∧ o < 10) → zQt p σ o j = σ o j := fun o j h4 h5 h7 => zQt_other h4 h5 h7
  refine ⟨(h.1.congr (fun o j h1 h2 => ot o j (by omega) (by omega) (by omega)) (Nat.le_refl d)).rmv p, h.2.1.congr (fun o j h1 => ot o j (by omega) (by omega) (by omega)), fun q hq h4 => ?_, h.2.2.2.1.congr (ot 3 5 (by omega) (by omega) (by omega)) (fun q hq z => ?_) (Nat.le_refl _), h.2.2.2.2.congr (fun o j h1 => ot o j (by omega) (by omega) (by omega)) (Nat.le_refl _)⟩
  · rw [zQt_4] at h4
    rw [zQt_5]
    by_cases e : q = p
    · rw [if_pos e]
    · rw [if_neg e] at h4 ⊢
      exact h.2.2.1 q hq h4
  · rw [zQt_4] at z
    split at z
    · exact absurd rfl z
    · exact z
/-- what a sweep does to one bicycle -/
theorem sw_dich {σ : Nat → Nat → Int32} {sh d : Nat} {lt : Int32} (hd : σ 0 4 = nI d) {p : Nat} (hp : p < 20) : (zDue (nI sh) lt (zSweep (nI sh) σ) p = true ∧ σ 19 p = nI sh ∧ zSw (nI sh) lt (σ 0 4) σ 20 19 p = -6 ∧ zSw (nI sh) lt (σ 0 4) σ 20 20 p = -6 ∧ zSw (nI sh) lt (σ 0 4) σ 20 21 p = -6 ∧ zSw (nI sh) lt (σ 0 4) σ 20 22 p = -6 ∧ zSw (nI sh) lt (σ 0 4) σ 20 23 p = nI d) ∨ (zDue (nI sh) lt (zSweep (nI sh) σ) p = false ∧ zSw (nI sh) lt (σ 0 4) σ 20 19 p = σ 19 p ∧ zSw (nI sh) lt (σ 0 4) σ 20 20 p = σ 20 p ∧ zSw (nI sh) lt (σ 0 4) σ 20 21 p = σ 21 p ∧ zSw (nI sh) lt (σ 0 4) σ 20 22 p = (if σ 19 p = nI sh then zT (nI sh) σ p else σ 22 p) ∧ zSw (nI sh) lt (σ 0 4) σ 20 23 p = σ 23 p) := by
  have at1 : ∀ o, 18 < o → zSw (nI sh) lt (σ 0 4) σ 20 o p = zG (nI sh) lt (σ 0 4) σ o p := fun o ho => (zSw_2 (fun z => by omega)).trans (pm_in _ _ hp)
  rw [at1 19 (by omega), at1 20 (by omega), at1 21 (by omega), at1 22 (by omega), at1 23 (by omega)]
  by_cases h1 : σ 19 p = nI sh
  · rw [zG_at hp h1, zG_at hp h1, zG_at hp h1, zG_at hp h1, zG_at hp h1, if_pos h1]
    cases zDue (nI sh) lt (zSweep (nI sh) σ) p
    · exact Or.inr ⟨rfl, rfl, rfl, rfl, rfl, rfl⟩
    · exact Or.inl ⟨rfl, h1, rfl, rfl, rfl, rfl, hd⟩
  · rw [zG_no hp h1, zG_no hp h1, zG_no hp h1, zG_no hp h1, zG_no hp h1, if_neg h1]
    refine Or.inr ⟨?_, rfl, rfl, rfl, rfl, rfl⟩
    rw [zDue_at hp, decide_eq_false h1, Bool.false_and]
/-- two counts together -/
theorem cnt_split {P Q R : Nat → Bool} : ∀ n, (∀ p, p < n → (Q p = true ∧ P p = true ∧ R p = false) ∨ (Q p = false ∧ P p = R p)) → cnt P n = cnt R n + cnt Q n
  | 0, _ => rfl
  | n + 1, h => by
    have ih := cnt_split (P := P) (Q := Q) (R := R) n (fun p hp => h p (by omega))
    rw [cnt_succ, cnt_succ, cnt_succ, ih]
    rcases h n (by omega) with ⟨a, b, c⟩ | ⟨a, b⟩
    · rw [a, b, c, if_pos rfl, if_neg (by decide), if_pos rfl]
      omega
    · rw [a, b, if_neg (show ¬ false = true by decide)]
      split <;> omega
theorem sw_pound {σ : Nat → Nat → Int32} {sh d : Nat} {lt : Int32} (hd : σ 0 4 = nI d) (hd2 : d ≤ 20000) (hs : sh < 3) (hP : cP σ) : cnt (fun p => !decide (zSw (nI sh) lt (σ 0 4) σ 20 23 p = -6)) 20 = cnt (fun p => !decide (σ 23 p = -6)) 20 + cnt (zDue (nI sh) lt (zSweep (nI sh) σ)) 20 := by
  refine cnt_split 20 (fun p hp => ?_)
  rcases sw_dich (lt := lt) (sh := sh) hd hp with ⟨a1, a2, a3, a4, a5, a6, a7⟩ | ⟨a1, a2, a3, a4, a5, a6⟩
  · left
    refine ⟨a1, ?_, ?_⟩
    · rw [a7, decide_eq_false (nI_ne6 (by omega))]
      rfl
    · rw [hP p hp (by rw [a2]; exact nI_ne6 (by omega))]
      rfl
  · right
    refine ⟨a1, ?_⟩
    rw [a6]
theorem sw_racks {σ : Nat → Nat → Int32} {sh d : Nat} {lt : Int32} (hd : σ 0 4 = nI d) (hs : sh < 3) : cnt (fun p => !decide (σ 19 p = -6)) 20 = cnt (fun p => !decide (zSw (nI sh) lt (σ 0 4) σ 20 19 p = -6)) 20 + cnt (zDue (nI sh) lt (zSweep (nI sh) σ)) 20 := by
  refine cnt_split 20 (fun p hp => ?_)
  rcases sw_dich (lt := lt) (sh := sh) hd hp with ⟨a1, a2, a3, a4, a5, a6, a7⟩ | ⟨a1, a2, a3, a4, a5, a6⟩
  · left
    refine ⟨a1, ?_, ?_⟩
    · rw [a2, decide_eq_false (nI_ne6 (by omega))]
      rfl
    · rw [a3]
      rfl
  · right
    refine ⟨a1, ?_⟩
    rw [a2]
theorem cY.sweep {Bg Bt d sh : Nat} {lt : Int32} {σ : Nat → Nat → Int32} {W : Nat → List Nat} (h : cY Bg Bt σ W d) (hs : sh < 3) (hd : σ 0 4 = nI d) (hd2 : d ≤ 20000) : cY Bg (Bt + 20) (zSw (nI sh) lt (σ 0 4) σ 20) W d := by
  have lo : ∀ o j, o < 18 → zSw (nI sh) lt (σ 0 4) σ 20 o j = σ o j := fun o j ho => (zSw_2 (fun z => by omega)).trans (pm_same (zG_18 (by omega)))
  refine ⟨h.1.congr (fun o j h1 h2 => lo o j h2) (Nat.le_refl d), fun p hp h19 => ?_, h.2.2.1.congr (fun o j h1 => lo o j (by omega)), h.2.2.2.1.congr (lo 3 5 (by omega)) (fun p _ z => by rw [lo 4 p (by omega)] at z; exact z) (Nat.le_refl _), ?_⟩
  · rcases sw_dich (lt := lt) (sh := sh) hd hp with ⟨a1, a2, a3, a4, a5, a6, a7⟩ | ⟨a1, a2, a3, a4, a5, a6⟩
    · exact absurd a3 h19
    · rw [a2] at h19
      rw [a6]
      exact h.2.1 p hp h19
  · obtain ⟨t, s, h1, h2, h3, h4⟩ := h.2.2.2.2
    have hc := cnt_le (zDue (nI sh) lt (zSweep (nI sh) σ)) 20
    refine ⟨t + cnt (zDue (nI sh) lt (zSweep (nI sh) σ)) 20, s, ?_, fun p hp => ?_, ?_, by omega⟩
    · unfold zSw
      rw [ud_eq, h1, nI_add]
    · rw [zSw_2 (by omega), pm_in _ _ hp]
      have : zG (nI sh) lt (σ 0 4) σ 24 p = σ 24 p := by
        by_cases e : σ 19 p = nI sh
        · rw [zG_at hp e]
          cases zDue (nI sh) lt (zSweep (nI sh) σ) p <;> rfl
        · exact zG_no hp e
      rw [this]
      exact h2 p hp
    · rw [sw_pound hd hd2 hs h.2.1]
      omega
