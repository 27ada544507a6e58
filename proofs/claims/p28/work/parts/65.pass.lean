/-! days that pass, in both -/
theorem zMv_3 {sh : Nat} {q : (Nat → Nat → Int32) × (Nat → List Nat)} (hs : sh < 3) (hc : cW q.1 q.2) (hn : cN q.1 q.2) : ∀ k, k ≤ (q.2 sh).length → (zMv sh k q).1 3 5 = q.1 3 5 + nI k
  | 0, _ => (Int32.add_zero _).symm
  | k + 1, hk => by
    have h1 := (zMv_facts hs hc hn k (by omega)).1
    have hd : (q.2 sh).drop k = (q.2 sh)[k] :: (q.2 sh).drop (k + 1) := List.drop_eq_getElem_cons (by omega)
    rw [hd] at h1
    show (zSt sh (zMv sh k q)).1 3 5 = _
    rw [zSt_cons h1]
    dsimp only
    rw [zGive_3, zMv_3 hs hc hn k (by omega), Int32.add_assoc, aI_1]
theorem zMv_cnt {sh n : Nat} {q : (Nat → Nat → Int32) × (Nat → List Nat)} (hs : sh < 3) (hc : cW q.1 q.2) (hn : cN q.1 q.2) : ∃ m, m ≤ 20 ∧ (zMv sh n q).1 3 5 = q.1 3 5 + nI m := by
  rw [zMv_min hs hc hn]
  have := (hc sh hs).len
  exact ⟨min n (q.2 sh).length, by omega, zMv_3 hs hc hn _ (Nat.min_le_right _ _)⟩
theorem zUp_cnt {U : Nat → Nat} {sp : Nat} {q : (Nat → Nat → Int32) × (Nat → List Nat)} (h : cW q.1 q.2) (hn : cN q.1 q.2) : ∀ n, n ≤ 3 → ∃ m, m ≤ 20 * n ∧ (zUp U sp n q).1 3 5 = q.1 3 5 + nI m
  | 0, _ => ⟨0, by omega, (Int32.add_zero _).symm⟩
  | n + 1, h3 => by
    obtain ⟨m, m1, m2⟩ := zUp_cnt (U := U) (sp := sp) h hn n (by omega)
    obtain ⟨m', m3, m4⟩ := zMv_cnt (sh := n) (n := zFr U sp n (zUp U sp n q).1) (q := zUp U sp n q) (by omega) (zUp_W h n (by omega)) (zUp_N h hn n (by omega))
    refine ⟨m + m', by omega, ?_⟩
    show (zMv n (zFr U sp n (zUp U sp n q).1) (zUp U sp n q)).1 3 5 = _
    rw [m4, m2, Int32.add_assoc, nI_add]
theorem zDay_cnt {U : Nat → Nat} {sp : Nat} {q : (Nat → Nat → Int32) × (Nat → List Nat)} (h : cW q.1 q.2) (hn : cN q.1 q.2) : ∃ m, m ≤ 60 ∧ (zDay U sp q).1 3 5 = q.1 3 5 + nI m := by
  have c0 : cW (zDay0 q.1) q.2 := h.congr (fun o j h1 h2 => zDay0_other (by omega) (by omega) (by omega) (by omega) (by omega))
  obtain ⟨m, m1, m2⟩ := zUp_cnt (U := U) (sp := sp) (q := (zDay0 q.1, q.2)) c0 (zDay0_N hn) 3 (Nat.le_refl 3)
  refine ⟨m, m1, ?_⟩
  rw [zDay_eq, m2]
  show zDay0 q.1 3 5 + nI m = _
  rw [zDay0_other (by omega) (by omega) (by omega) (by omega) (by omega)]
theorem gA.days {T : Nat} {q : (Nat → Nat → Int32) × (Nat → List Nat)} {U : Nat → Nat} {sq d kp nt : Nat} (h : gA d T q.1 q.2 U sq d kp nt) (hT2 : T < 2 ^ 30) : ∀ n, d + n ≤ 20000 → d + n + 99 ≤ T → gA (d + n) T (zDays U sq n q).1 (zDays U sq n q).2 U sq (d + n) kp nt
  | 0, _, _ => h
  | n + 1, h1, h2 => gA.day (D' := d + n + 1) (gA.days h hT2 n (by omega) (by omega)) (Nat.le_refl _) (by omega) (by omega) hT2
theorem gA.self {D T : Nat} {σ : Nat → Nat → Int32} {W : Nat → List Nat} {U : Nat → Nat} {sq d kp nt : Nat} (h : gA D T σ W U sq d kp nt) : gA d T σ W U sq d kp nt := h.mono (Nat.le_refl d) (Nat.le_refl T)
theorem zDays_s {U : Nat → Nat} {sp n : Nat} {q : (Nat → Nat → Int32) × (Nat → List Nat)} : zDays U sp (n + 1) q = zDay U sp (zDays U sp n q) := rfl
theorem zDays_cnt {T : Nat} {q : (Nat → Nat → Int32) × (Nat → List Nat)} {U : Nat → Nat} {sq d kp nt : Nat} (h : gA d T q.1 q.2 U sq d kp nt) (hT2 : T < 2 ^ 30) : ∀ n, d + n ≤ 20000 → d + n + 99 ≤ T → ∃ m, m ≤ 60 * n ∧ (zDays U sq n q).1 3 5 = q.1 3 5 + nI m
  | 0, _, _ => ⟨0, by omega, (Int32.add_zero _).symm⟩
  | n + 1, h1, h2 => by
    obtain ⟨m, m1, m2⟩ := zDays_cnt h hT2 n (by omega) (by omega)
    have hA := gA.days h hT2 n (by omega) (by omega)
    obtain ⟨m', m3, m4⟩ := zDay_cnt (U := U) (sp := sq) (q := zDays U sq n q) hA.1 hA.2.1
    refine ⟨m + m', by omega, ?_⟩
    rw [zDays_s, m4, m2, Int32.add_assoc, nI_add]
theorem add_sub_nI {x : Int32} {m : Nat} : (x + nI m) - x = nI m := by
  rw [Int32.add_comm, Int32.add_sub_cancel]
