/-! days that pass, in both -/
theorem zMv_3 {sh : Nat} {q : (Nat → Nat → Int32) × (Nat → List Nat)} (hs : sh < 3) (hc : cW q.1 q.2) (hn : cN q.1 q.2) : ∀ k, k ≤ (q.2 sh).length → (zMv sh k q).1 3 5 = q.1 3 5 + nI k
  | 0, _ => (Int32.add_zero _).symm
  | k + 1, hk => by
    have h1 := (zMv_facts hs hc hn k (by omega)).1
    have hd : (q.2 sh).drop k = (q.2 sh)[k] :: (q.2 sh).drop (k + 1) := List.drop_eq_getElem_cons (by omega)
    rw [hd] at h1
    show (zSt sh (zMv sh k q)).1 3 5 = _
    rw [zSt_cons h1]
    dsimp only
    rw [zGive_3, zMv_3 hs hc hn k (by omega), Int32.add_assoc, aI_1]
theorem zMv_cnt {sh n : Nat} {q : (Nat → Nat → Int32) × (Nat → List Nat)} (hs : sh < 3) (hc : cW q.1 q.2) (hn : cN q.1 q.2) : ∃ m, m ≤ 20 ∧ (zMv sh n q).1 3 5 = q.1 3 5 + nI m := by
  rw [zMv_min hs hc hn]
  have := (hc sh hs).len
  exact ⟨min n (q.2 sh).length, by omega, zMv_3 hs hc hn _ (Nat.min_le_right _ _)⟩
theorem zUp_cnt {U : Nat → Nat} {sp : Nat} {q : (Nat → Nat → Int32) × (Nat → List Nat)} (h : cW q.1 q.2) (hn : cN q.1 q.2) : ∀ n, n ≤ 3 → ∃ m, m ≤ 20 * n ∧ (zUp U sp n q).1 3 5 = q.1 3 5 + nI m
  | 0, _ => ⟨0, by omega, (Int32.add_zero _).symm⟩
  | n + 1, h3 => by
    obtain ⟨m, m1, m2⟩ := zUp_cnt (U := U) (sp := sp) h hn n (by omega)
    obtain ⟨m', m3, m4⟩ := zMv_cnt (sh := n) (n := zFr U sp n (zUp U sp n q).1) (q := zUp U sp n q) (by omega) (zUp_W h n (by omega)) (zUp_N h hn n (by omega))
    refine ⟨m + m', by omega, ?_⟩
    show (zMv n (zFr U sp n (zUp U sp n q).1) (zUp U sp n q)).1 3 5 = _
    rw [m4, m2, Int32.add_assoc, nI_add]
theorem zDay_cnt {U : Nat → Nat} {sp : Nat} {q : (Nat → Nat → Int32) × (Nat → List Nat)} (h : cW q.1 q.2) (hn : cN q.1 q.2) : ∃ m, m ≤ 60 ∧ (zDay U sp q).1 3 5 = q.1 3 5 + nI m := by
  have c0 : cW (zDay0 q.1) q.2 := h.congr (fun o j h1 h2 => zDay0_other (by omega) (by omega) (by omega) (by omega) (by omega))
  obtain ⟨m, m1, m2⟩ := zUp_cnt (U := U) (sp := sp) (q := (zDay0 q.1, q.2)) c0 (zDay0_N hn) 3 (Nat.le_refl 3)
  refine ⟨m, m1, ?_⟩
  rw [zDay_eq, m2]
  show zDay0 q.1 3 5 + nI m = _
  rw [zDay0_other (by omega) (by omega) (by omega) (by omega) (by omega)]
theorem gA.days {T : Nat} {q : (Nat → Nat → Int32) × (Nat → List Nat)} {U : Nat → Nat} {sq d kp nt : Nat} (h : gA d T q.1 q.2 U sq d kp nt) (hT2 : T < 2 ^ 30) : ∀ n, d + n ≤ 20000 → d + n + 99 ≤ T → gA (d + n) T (zDays U sq n q).1 (zDays U sq n q).2 U sq (d + n) kp nt
  | 0, _, _ => h
  | n + 1, h1, h2 => gA.day (D' := d + n + 1) (gA.days h hT2 n (by omega) (by omega)) (Nat.le_refl _) (by omega) (by omega) hT2
theorem gA.self {D T : Nat} {σ : Nat → Nat → Int32} {W : Nat → List Nat} {U : Nat → Nat} {sq d kp nt : Nat} (h : gA D T σ W U sq d kp nt) : gA d T σ W U sq d kp nt := h.mono (Nat.le_refl d) (Nat.le_refl T)
theorem zDays_s {U : Nat → Nat} {sp n : Nat} {q : (Nat → Nat → Int32) × (Nat → List Nat)} : zDays U sp (n + 1) q = zDay U sp (zDays U sp n q) := rfl
theorem zDays_cnt {T : Nat} {q : (Nat → Nat → Int32) × (Nat → List Nat)} {U : Nat → Nat} {sq d kp nt : Nat} (h : gA d T q.1 q.2 U sq d kp nt) (hT2 : T < 2 ^ 30) : ∀ n, d + n ≤ 20000 → d + n + 99 ≤ T → ∃ m, m ≤ 60 * n ∧ (zDays U sq n q).1 3 5 = q.1 3 5 + nI m
  | 0, _, _ => ⟨0, by omega, (Int32.add_zero _).symm⟩
  | n + 1, h1, h2 => by
    obtain ⟨m, m1, m2⟩ := zDays_cnt h hT2 n (by omega) (by omega)
    have hA := gA.days h hT2 n (by omega) (by omega)
    obtain ⟨m', m3, m4⟩ := zDay_cnt (U := U) (sp := sq) (q := zDays U sq n q) hA.1 hA.2.1
    refine ⟨m + m', by omega, ?_⟩
    rw [zDays_s, m4, m2, Int32.add_assoc, nI_add]
theorem m_days {T b n sq d kp nt : Nat} {σ : Nat → Nat → Int32} {W : Nat → List Nat} {U : Nat → Nat} {M : xM} (hb : b ≤ 3186) (hR : mR σ W U (M.1 6 1) b) (hA : gA d T σ W U sq d kp nt) (hT2 : T < 2 ^ 30) (hn : n ≤ 300) (h1 : d + n ≤ 20000) (h2 : d + n + 99 ≤ T) : ∃ t, f_X7_days (nI b) (nI n) M = some ((zDays U sq n (σ, W)).1 3 5 - σ 3 5, sp M t) ∧ mR (zDays U sq n (σ, W)).1 (zDays U sq n (σ, W)).2 U t b ∧ mFr (M.1 6 1) t b := by
  have := xlp_rule (body := f_X7_days_l5 (nI b) (nI n)) (Q := fun r => ∃ t, r = ((zDays U sq n (σ, W)).1 3 5 - σ 3 5, sp M t) ∧ mR (zDays U sq n (σ, W)).1 (zDays U sq n (σ, W)).2 U t b ∧ mFr (M.1 6 1) t b)
    (fun k st => ∃ t, st = ((zDays U sq k (σ, W)).1 3 5 - σ 3 5, nI k, sp M t) ∧ mR (zDays U sq k (σ, W)).1 (zDays U sq k (σ, W)).2 U t b ∧ mFr (M.1 6 1) t b) n 4000 (by omega) (fun k st hk hP => ?_) (fun st hP => ?_) (0, nI 0, M) ⟨M.1 6 1, ?_, hR, mFr.refl _ _⟩
  · obtain ⟨q, g1, t, rfl, g2, g3⟩ := this
    exact ⟨t, g1, g2, g3⟩
  · obtain ⟨t, rfl, ht, hf⟩ := hP
    left
    have hAk := gA.days (q := (σ, W)) hA hT2 k (by omega) (by omega)
    obtain ⟨t', t1, t2, t3⟩ := m_day (sq := sq) (M := sp M t) hb (by rw [sp_get]; exact ht) hAk.1 hAk.2.1 hAk.2.2.1 hAk.2.2.2.1
    rw [sp_sp] at t1
    rw [sp_get] at t3
    have et : ((zDays U sq k (σ, W)).1, (zDays U sq k (σ, W)).2) = zDays U sq k (σ, W) := rfl
    rw [et, ← zDays_s] at t1 t2
    have e := i_add2 0 ((zDays U sq k (σ, W)).1 3 5) (σ 3 5) ((zDays U sq (k + 1) (σ, W)).1 3 5)
    rw [Int32.zero_add, Int32.zero_add] at e
    have hb2 : f_X7_days_l5 (nI b) (nI n) ((zDays U sq k (σ, W)).1 3 5 - σ 3 5, nI k, sp M t) = some (.inl ((zDays U sq k (σ, W)).1 3 5 - σ 3 5 + ((zDays U sq (k + 1) (σ, W)).1 3 5 - (zDays U sq k (σ, W)).1 3 5), nI (k + 1), sp M t')) := by
      unfold f_X7_days_l5
      dsimp only
      rw [if_pos (nI_lt hk (by omega)), t1, aI_1, Option.bind_some]
    rw [e] at hb2
    exact ⟨_, hb2, t', rfl, t2, hf.trans t3⟩
  · obtain ⟨t, rfl, ht, hf⟩ := hP
    refine ⟨_, ?_, t, rfl, ht, hf⟩
    unfold f_X7_days_l5
    simp only
    rw [if_neg (nI_nlt (Nat.le_refl n) (by omega))]
    rfl
  · have e0 : (zDays U sq 0 (σ, W)).1 3 5 = σ 3 5 := rfl
    rw [sp_self, e0, Int32.sub_self]
theorem add_sub_nI {x : Int32} {m : Nat} : (x + nI m) - x = nI m := by
  rw [Int32.add_comm, Int32.add_sub_cancel]
theorem op_pass {T : Nat} (hT : 10098 ≤ T) (hT2 : T < 2 ^ 30) (x : Int32) : opOK 9999 T (f_X5_letPass 2 x) (f_X7_passError x) (f_X7_days 0 x) := by
  rintro M M' ⟨W, U, sq, d, kp, nt, hR, hA⟩
  have hd := hA.2.2.2.1.1
  have hd2 := hA.2.2.2.2.1
  have e4 : M'.1 6 1 4 = nI d := hR.1.2.1.trans hd
  by_cases hz : (!decide (x < 1) && !decide (99 < x)) = true
  · obtain ⟨a, ha, ha2, rfl⟩ := (frm_nI (a := 1) (b := 99) (by omega) (by omega)).mp hz
    by_cases hl : d + a ≤ 9999
    · have hlt : ¬ (9999 : Int32) < nI (d + a) := nI_nlt (a := 9999) hl (by omega)
      right
      obtain ⟨m, m1, m2⟩ := zDays_cnt (q := (M.1 2, W)) hA.self hT2 a (by omega) (by omega)
      have hAd := gA.days (q := (M.1 2, W)) hA.self hT2 a (by omega) (by omega)
      refine ⟨?_, nI m, (zDays U sq a (M.1 2, W)).1, nI_pos (by omega), ?_, fun M'' hg => ?_⟩
      · unfold f_X7_passError
        simp only [m_areDays, hz, Option.bind_some, ite_bI, if_true, e4, nI_add, hlt, if_false]
      · unfold f_X5_letPass
        simp only [c_isFrom, hz, Option.bind_some, ite_bI, if_true, hd, nI_add, hlt, if_false]
        rw [c_days ha2 hA.1 hA.2.2.1, m2]
        show some ((M.1 2 3 5 + nI m) - M.1 2 3 5, _) = _
        rw [add_sub_nI]
      · obtain ⟨t, t1, t2, t3⟩ := m_days (b := 0) (n := a) (M := M'') (by omega) (hR.agree hA.1 hg) hA.self hT2 (by omega) (by omega) (by omega)
        rw [m2] at t1
        have e : (M.1 2 3 5 + nI m) - M.1 2 3 5 = nI m := add_sub_nI
        have t1 : f_X7_days (nI 0) (nI a) M'' = some ((M.1 2 3 5 + nI m) - M.1 2 3 5, sp M'' t) := t1
        rw [e] at t1
        exact ⟨t, t1, ⟨_, U, sq, d + a, kp, nt, t2, hAd.mono hl (Nat.le_refl T)⟩, t3⟩
    · have hlt : (9999 : Int32) < nI (d + a) := nI_lt (a := 9999) (by omega) (by omega)
      left
      refine ⟨-4, i_neg4, ?_, ?_⟩
      · unfold f_X5_letPass
        simp only [c_isFrom, hz, Option.bind_some, ite_bI, if_true, hd, nI_add, hlt]
      · unfold f_X7_passError
        simp only [m_areDays, hz, Option.bind_some, ite_bI, if_true, e4, nI_add, hlt]
  · left
    refine ⟨-2, i_neg2, ?_, ?_⟩
    · unfold f_X5_letPass
      simp only [c_isFrom, hz, Option.bind_some, ite_bI, Bool.false_eq_true, if_false]
    · unfold f_X7_passError
      simp only [m_areDays, hz, Option.bind_some, ite_bI, Bool.false_eq_true, if_false]
