/-! a wait list and its row -/
theorem nodup_inj : ∀ {l : List Nat} {a b x : Nat}, l.Nodup → l[a]? = some x → l[b]? = some x → a = b
  | [], a, b, x, _, h, _ => by cases a <;> cases h
  | y :: r, 0, 0, x, _, _, _ => rfl
  | y :: r, 0, b + 1, x, hn, h1, h2 => by
    rw [List.nodup_cons] at hn
    have e : y = x := Option.some.inj h1
    subst e
    exact absurd (List.mem_of_getElem? (show r[b]? = some y from h2)) hn.1
  | y :: r, a + 1, 0, x, hn, h1, h2 => by
    rw [List.nodup_cons] at hn
    have e : y = x := Option.some.inj h2
    subst e
    exact absurd (List.mem_of_getElem? (show r[a]? = some y from h1)) hn.1
  | y :: r, a + 1, b + 1, x, hn, h1, h2 => by
    rw [List.nodup_cons] at hn
    have := nodup_inj hn.2 (show r[a]? = some x from h1) (show r[b]? = some x from h2)
    rw [this]
def rowRel (row : Nat → Int32) (l : List Nat) : Prop := l.Nodup ∧ (∀ q ∈ l, q < 20) ∧ ∀ q, q < 20 → (q ∉ l ∧ row q = -6) ∨ ∃ k, l[k]? = some q ∧ row q = nI k
theorem cnt_add (P : Nat → Bool) (x : Nat) (hx : P x = false) : ∀ n, cnt (fun p => P p || p == x) n = cnt P n + (if x < n then 1 else 0)
  | 0 => rfl
  | n + 1 => by
    rw [cnt_succ, cnt_succ, cnt_add P x hx n]
    by_cases h : n = x
    · subst h
      rw [hx, beq_self_eq_true, if_neg (show ¬ n < n by omega), if_pos (show n < n + 1 by omega)]
      rfl
    · have hb : (n == x) = false := beq_eq_false_iff_ne.mpr h
      rw [hb, Bool.or_false]
      by_cases h2 : x < n
      · rw [if_pos h2, if_pos (show x < n + 1 by omega)]
        cases P n <;> rfl
      · rw [if_neg h2, if_neg (show ¬ x < n + 1 by omega)]
        cases P n <;> rfl
theorem cnt_false (n : Nat) : cnt (fun _ => false) n = 0 := by
  induction n with
  | zero => rfl
  | succ n ih =>
    rw [cnt_succ, ih]
    rfl
theorem cnt_mem : ∀ (l : List Nat), l.Nodup → (∀ q ∈ l, q < 20) → cnt (fun p => l.contains p) 20 = l.length
  | [], _, _ => cnt_false 20
  | x :: r, hn, hb => by
    rw [List.nodup_cons] at hn
    have ih := cnt_mem r hn.2 (fun q hq => hb q (List.mem_cons_of_mem _ hq))
    have h := cnt_add (fun p => r.contains p) x (by
      rw [Bool.eq_false_iff]
      intro z
      exact hn.1 (List.contains_iff_mem.mp z)) 20
    rw [ih, if_pos (hb x List.mem_cons_self)] at h
    rw [List.length_cons, ← h]
    refine cnt_congr 20 (fun j _ => ?_)
    rw [List.contains_cons]
    exact Bool.or_comm _ _
theorem rowRel.cnt {row : Nat → Int32} {l : List Nat} (h : rowRel row l) : cnt (fun p => !decide (row p = -6)) 20 = l.length := by
  rw [← cnt_mem l h.1 h.2.1]
  refine cnt_congr 20 (fun j hj => ?_)
  rcases h.2.2 j hj with ⟨h1, h2⟩ | ⟨k, h1, h2⟩
  · rw [decide_eq_true h2]
    show false = l.contains j
    rw [eq_comm, Bool.eq_false_iff]
    exact fun z => h1 (List.contains_iff_mem.mp z)
  · have hk : k < 2 ^ 31 ∨ ¬ k < 2 ^ 31 := by omega
    have hne : row j ≠ -6 := by
      rw [h2]
      intro e
      have hl : k < l.length := (List.getElem?_eq_some_iff.mp h1).1
      have hl2 : l.length ≤ 20 := by
        rw [← cnt_mem l h.1 h.2.1]
        exact cnt_le _ 20
      have := nI_pos (n := k) (by omega)
      rw [e] at this
      exact this (by decide)
    rw [decide_eq_false hne]
    show true = l.contains j
    rw [List.contains_iff_mem.mpr (List.mem_of_getElem? h1)]
theorem rowRel.len {row : Nat → Int32} {l : List Nat} (h : rowRel row l) : l.length ≤ 20 := by
  rw [← cnt_mem l h.1 h.2.1]
  exact cnt_le _ 20
theorem rowRel.lt {row : Nat → Int32} {l : List Nat} (h : rowRel row l) {k q : Nat} (hk : l[k]? = some q) : k < 20 ∧ q < 20 := ⟨by
  have := (List.getElem?_eq_some_iff.mp hk).1
  have := h.len
  omega, h.2.1 q (List.mem_of_getElem? hk)⟩
theorem nI_ne6 {k : Nat} (hk : k < 2 ^ 31) : nI k ≠ -6 := by
  intro e
  have := nI_pos (n := k) hk
  rw [e] at this
  exact this (by decide)
theorem rowRel.at {row : Nat → Int32} {l : List Nat} (h : rowRel row l) {k q : Nat} (hk : l[k]? = some q) : row q = nI k := by
  obtain ⟨h1, h2⟩ := h.lt hk
  rcases h.2.2 q h2 with ⟨z, -⟩ | ⟨k', z1, z2⟩
  · exact absurd (List.mem_of_getElem? hk) z
  · have : k = k' := nodup_inj h.1 hk z1
    rw [this, z2]
theorem rowRel.out {row : Nat → Int32} {l : List Nat} (h : rowRel row l) {q : Nat} (hq : q < 20) : row q = -6 ↔ q ∉ l := by
  rcases h.2.2 q hq with ⟨z1, z2⟩ | ⟨k, z1, z2⟩
  · exact ⟨fun _ => z1, fun _ => z2⟩
  · refine ⟨fun e => ?_, fun z => absurd (List.mem_of_getElem? z1) z⟩
    rw [z2] at e
    exact absurd e (nI_ne6 (by have := (h.lt z1).1; omega))
theorem rowRel.ok {row : Nat → Int32} {l : List Nat} (h : rowRel row l) {q : Nat} (hq : q < 20) : okPl (row q) := by
  rcases h.2.2 q hq with ⟨-, z2⟩ | ⟨k, z1, z2⟩
  · exact Or.inl z2
  · rw [z2]
    exact Or.inr (nI_pos (by have := (h.lt z1).1; omega))
/-- the row when p leaves -/
def lvRow (p : Nat) (row : Nat → Int32) (j : Nat) : Int32 := if j = p then -6 else if j < 20 ∧ ¬ row p = -6 ∧ row p < row j then row j - 1 else row j
theorem rowRel.leave_out {row : Nat → Int32} {l : List Nat} (h : rowRel row l) {p : Nat} (hp : p < 20) (hm : p ∉ l) : rowRel (lvRow p row) l := by
  refine ⟨h.1, h.2.1, fun q hq => ?_⟩
  have h6 : row p = -6 := (h.out hp).mpr hm
  unfold lvRow
  by_cases e : q = p
  · subst e
    rw [if_pos rfl]
    exact Or.inl ⟨hm, rfl⟩
  · rw [if_neg e, if_neg (fun z => z.2.1 h6)]
    exact h.2.2 q hq
theorem rowRel.leave_in {row : Nat → Int32} {l : List Nat} (h : rowRel row l) {p i : Nat} (hi : l[i]? = some p) : rowRel (lvRow p row) (l.eraseIdx i) := by
  obtain ⟨hi20, hp⟩ := h.lt hi
  have hrp := h.at hi
  have hn6 : ¬ row p = -6 := by
    rw [hrp]
    exact nI_ne6 (by omega)
  refine ⟨List.Nodup.sublist (List.eraseIdx_sublist l i) h.1, fun q hq => h.2.1 q (List.Sublist.mem hq (List.eraseIdx_sublist l i)), fun q hq => ?_⟩
  unfold lvRow
  have hget : ∀ k, (l.eraseIdx i)[k]? = if k < i then l[k]? else l[k + 1]? := fun k => List.getElem?_eraseIdx ..
  have inj : ∀ a b x : Nat, l[a]? = some x → l[b]? = some x → a = b := fun a b x => nodup_inj h.1
  by_cases e : q = p
  · subst e
    rw [if_pos rfl]
    refine Or.inl ⟨fun hm => ?_, rfl⟩
    obtain ⟨k, hk⟩ := List.getElem?_of_mem hm
    rw [hget] at hk
    split at hk
    · next hlt => have := inj _ _ _ hk hi; omega
    · next hlt => have := inj _ _ _ hk hi; omega
  · rw [if_neg e]
    rcases h.2.2 q hq with ⟨z1, z2⟩ | ⟨k, z1, z2⟩
    · left
      refine ⟨fun hm => z1 (List.Sublist.mem hm (List.eraseIdx_sublist l i)), ?_⟩
      rw [if_neg (fun z => ?_)]
      · exact z2
      · have := z.2.2
        rw [z2, hrp] at this
        exact nI_pos (n := i) (by omega) (Int32.lt_trans this (by decide))
    · right
      have hk20 := (h.lt z1).1
      have hne : k ≠ i := fun e2 => by
        subst e2
        rw [hi] at z1
        cases z1
        exact e rfl
      by_cases hlt : i < k
      · refine ⟨k - 1, ?_, ?_⟩
        · rw [hget, if_neg (by omega), show k - 1 + 1 = k by omega]
          exact z1
        · rw [if_pos ⟨hq, hn6, by rw [hrp, z2]; exact nI_lt hlt (by omega)⟩, z2, show k = k - 1 + 1 by omega, nI_pred]
          rfl
      · refine ⟨k, ?_, ?_⟩
        · rw [hget, if_pos (by omega)]
          exact z1
        · rw [if_neg (fun z => ?_), z2]
          have := z.2.2
          rw [hrp, z2] at this
          exact nI_nlt (by omega) (by omega) this
theorem rowRel.push {row row' : Nat → Int32} {l : List Nat} (h : rowRel row l) {p : Nat} (hp : p < 20) (hm : p ∉ l) (h1 : row' p = nI l.length) (h2 : ∀ q, q ≠ p → row' q = row q) : rowRel row' (l ++ [p]) := by
  refine ⟨?_, fun q hq => ?_, fun q hq => ?_⟩
  · rw [List.nodup_append]
    refine ⟨h.1, List.nodup_cons.mpr ⟨List.not_mem_nil, List.nodup_nil⟩, fun a ha b hb e => ?_⟩
    rw [List.mem_singleton] at hb
    subst hb
    subst e
    exact hm ha
  · rcases List.mem_append.mp hq with hq | hq
    · exact h.2.1 q hq
    · rw [List.mem_singleton.mp hq]
      exact hp
  · by_cases e : q = p
    · subst e
      right
      refine ⟨l.length, ?_, h1⟩
      rw [List.getElem?_append_right (Nat.le_refl _), Nat.sub_self]
      rfl
    · rw [h2 q e]
      rcases h.2.2 q hq with ⟨z1, z2⟩ | ⟨k, z1, z2⟩
      · left
        refine ⟨fun hm2 => ?_, z2⟩
        rcases List.mem_append.mp hm2 with z | z
        · exact z1 z
        · exact e (List.mem_singleton.mp z)
      · right
        refine ⟨k, ?_, z2⟩
        rw [List.getElem?_append_left (List.getElem?_eq_some_iff.mp z1).1]
        exact z1
