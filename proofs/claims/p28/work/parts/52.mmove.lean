/-! people move up, in the model -/
def cN (σ : Nat → Nat → Int32) (W : Nat → List Nat) : Prop := ∀ sh, sh < 3 → ∀ q ∈ W sh, σ 4 q = -6
theorem rmv_mem {p q : Nat} : ∀ {l : List Nat}, q ∈ rmv p l → q ∈ l
  | [], h => by cases h
  | x :: r, h => by
    have h : q ∈ (if x = p then r else x :: rmv p r) := h
    split at h
    · exact List.mem_cons_of_mem _ h
    · rcases List.mem_cons.mp h with z | z
      · rw [z]
        exact List.mem_cons_self
      · exact List.mem_cons_of_mem _ (rmv_mem z)
theorem rmv_not {p : Nat} : ∀ {l : List Nat}, l.Nodup → p ∉ rmv p l
  | [], _, h => by cases h
  | x :: r, hn, h => by
    rw [List.nodup_cons] at hn
    have h : p ∈ (if x = p then r else x :: rmv p r) := h
    split at h
    · next e =>
      subst e
      exact hn.1 h
    · next e =>
      rcases List.mem_cons.mp h with z | z
      · exact e z.symm
      · exact rmv_not hn.2 z
theorem zGive_4 {p : Nat} {sh d dy : Int32} {σ : Nat → Nat → Int32} {j : Nat} : zGive p sh d dy σ 4 j = if j = p then sh else σ 4 j := by
  rw [zGive_at (by omega), ud_ne _ _ (by omega), ud_ne _ _ (by omega)]
  by_cases h : j = p
  · subst h
    rw [ud_eq, if_pos rfl]
  · rw [ud_col _ _ _ _ h, if_neg h]
theorem cN.give {σ : Nat → Nat → Int32} {W : Nat → List Nat} (h : cN σ W) (hc : cW σ W) {p : Nat} {sh d dy : Int32} : cN (zGive p sh d dy σ) (fun s => rmv p (W s)) := by
  intro s hs q hq
  have hne : q ≠ p := fun e => by
    subst e
    exact rmv_not (hc s hs).1 hq
  rw [zGive_4, if_neg hne]
  exact h s hs q (rmv_mem hq)
theorem cnt_give {σ : Nat → Nat → Int32} {p sh : Nat} {d dy : Int32} (hp : p < 20) (hs : sh < 3) (h6 : σ 4 p = -6) : cnt (fun j => decide (zGive p (nI sh) d dy σ 4 j = nI sh)) 20 = cnt (fun j => decide (σ 4 j = nI sh)) 20 + 1 := by
  have hx : decide (σ 4 p = nI sh) = false := by
    rw [h6]
    exact decide_eq_false (fun e => nI_ne6 (by omega) e.symm)
  have h := cnt_add (fun j => decide (σ 4 j = nI sh)) p hx 20
  rw [if_pos hp] at h
  rw [← h]
  refine cnt_congr 20 (fun j _ => ?_)
  rw [zGive_4]
  by_cases e : j = p
  · subst e
    rw [if_pos rfl, beq_self_eq_true, Bool.or_true]
    exact decide_eq_true rfl
  · rw [if_neg e, beq_eq_false_iff_ne.mpr e, Bool.or_false]
theorem zSt_cons {sh x : Nat} {r : List Nat} {q : (Nat → Nat → Int32) × (Nat → List Nat)} (h : q.2 sh = x :: r) : zSt sh q = (zGive x (nI sh) (q.1 (11 + sh) x) (q.1 0 4) q.1, fun s => rmv x (q.2 s)) := by
  unfold zSt
  rw [h]
theorem zSt_nil {sh : Nat} {q : (Nat → Nat → Int32) × (Nat → List Nat)} (h : q.2 sh = []) : zSt sh q = q := by
  unfold zSt
  rw [h]
/-- along the moves of one shed -/
theorem zMv_facts {sh : Nat} {q : (Nat → Nat → Int32) × (Nat → List Nat)} (hs : sh < 3) (hc : cW q.1 q.2) (hn : cN q.1 q.2) : ∀ k, k ≤ (q.2 sh).length → (zMv sh k q).2 sh = (q.2 sh).drop k ∧ cnt (fun j => decide ((zMv sh k q).1 4 j = nI sh)) 20 = cnt (fun j => decide (q.1 4 j = nI sh)) 20 + k ∧ cN (zMv sh k q).1 (zMv sh k q).2
  | 0, _ => ⟨rfl, rfl, hn⟩
  | k + 1, hk => by
    obtain ⟨h1, h2, h3⟩ := zMv_facts hs hc hn k (by omega)
    have hW := zMv_W (q := q) hs hc k
    have hd : (q.2 sh).drop k = (q.2 sh)[k] :: (q.2 sh).drop (k + 1) := List.drop_eq_getElem_cons (by omega)
    rw [hd] at h1
    have he : zMv sh (k + 1) q = zSt sh (zMv sh k q) := rfl
    rw [he, zSt_cons h1]
    have hx : (q.2 sh)[k] < 20 := (hW sh hs).2.1 _ (by rw [h1]; exact List.mem_cons_self)
    have hx6 := h3 sh hs (q.2 sh)[k] (by rw [h1]; exact List.mem_cons_self)
    refine ⟨?_, ?_, cN.give h3 hW⟩
    · show rmv _ ((zMv sh k q).2 sh) = _
      rw [h1]
      exact if_pos rfl
    · refine (cnt_give (d := (zMv sh k q).1 (11 + sh) (q.2 sh)[k]) (dy := (zMv sh k q).1 0 4) hx hs hx6).trans ?_
      rw [h2]
      omega
theorem zMv_stop {sh : Nat} {q : (Nat → Nat → Int32) × (Nat → List Nat)} (hs : sh < 3) (hc : cW q.1 q.2) (hn : cN q.1 q.2) : ∀ d, zMv sh ((q.2 sh).length + d) q = zMv sh (q.2 sh).length q
  | 0 => rfl
  | d + 1 => by
    have ih := zMv_stop hs hc hn d
    show zSt sh (zMv sh ((q.2 sh).length + d) q) = _
    rw [ih]
    exact zSt_nil (by rw [(zMv_facts hs hc hn _ (Nat.le_refl _)).1, List.drop_length])
theorem zMv_min {sh n : Nat} {q : (Nat → Nat → Int32) × (Nat → List Nat)} (hs : sh < 3) (hc : cW q.1 q.2) (hn : cN q.1 q.2) : zMv sh n q = zMv sh (min n (q.2 sh).length) q := by
  rcases Nat.le_total n (q.2 sh).length with h | h
  · rw [Nat.min_eq_left h]
  · rw [Nat.min_eq_right h]
    obtain ⟨d, rfl⟩ := Nat.le.dest h
    exact zMv_stop hs hc hn d
theorem i_mv (n x y : Int32) : n + (x - y) + 1 = n + (x + 1 - y) := by
  rw [Int32.sub_eq_add_neg, Int32.sub_eq_add_neg, Int32.add_assoc, Int32.add_assoc, Int32.add_assoc, Int32.add_comm (-y) 1]
theorem i_0 (n x : Int32) : n + (x - x) = n := by
  rw [Int32.sub_self, Int32.add_zero]
theorem zGive_3 {p : Nat} {sh d dy : Int32} {σ : Nat → Nat → Int32} : zGive p sh d dy σ 3 5 = σ 3 5 + 1 := by
  rw [zGive_at (by omega), ud_eq]
theorem zMv_N {sh n : Nat} {q : (Nat → Nat → Int32) × (Nat → List Nat)} (hs : sh < 3) (hc : cW q.1 q.2) (hn : cN q.1 q.2) : cN (zMv sh n q).1 (zMv sh n q).2 := by
  rw [zMv_min hs hc hn]
  exact (zMv_facts hs hc hn _ (Nat.min_le_right _ _)).2.2
theorem zUp_N {U : Nat → Nat} {sp : Nat} {q : (Nat → Nat → Int32) × (Nat → List Nat)} (h : cW q.1 q.2) (hn : cN q.1 q.2) : ∀ n, n ≤ 3 → cN (zUp U sp n q).1 (zUp U sp n q).2
  | 0, _ => hn
  | n + 1, h3 => zMv_N (by omega) (zUp_W h n (by omega)) (zUp_N h hn n (by omega))
theorem zUp_U {U : Nat → Nat} {sp : Nat} {q : (Nat → Nat → Int32) × (Nat → List Nat)} (h : cU q.1 U sp) (n : Nat) : cU (zUp U sp n q).1 U sp := h.congr (fun j => zUp_other (by omega) (by omega) (by omega) (by omega) n) (fun j => zUp_other (by omega) (by omega) (by omega) (by omega) n)
theorem i_add2 (n x y z : Int32) : n + (x - y) + (z - x) = n + (z - y) := by
  rw [Int32.sub_eq_add_neg, Int32.sub_eq_add_neg, Int32.sub_eq_add_neg, Int32.add_assoc, Int32.add_comm (x + -y), Int32.add_assoc, ← Int32.add_assoc (-x) x, Int32.add_comm (-x) x, Int32.add_right_neg, Int32.zero_add]
