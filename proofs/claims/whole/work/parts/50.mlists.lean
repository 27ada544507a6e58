/-! the model's wait lists, changed -/
theorem m_waitsFor {b p : Nat} {W : Nat → List Nat} {M : xM} (hb : b ≤ 3186) (hp : p < 20) (h : ∀ sh, sh < 3 → mL (M.1 6 1) b sh (W sh) ∧ (W sh).Nodup ∧ (W sh).length ≤ 20 ∧ ∀ q ∈ W sh, q < 20) (ac : Nat → Int32) (h0 : ac 0 = 0) (hac : ∀ k, k < 3 → ac (k + 1) = if p ∈ W k then ac k ||| ((1 : Int32) <<< (nI k &&& 31)) else ac k) : f_X7_waitsFor (nI b) (nI p) M = some (ac 3) := by
  unfold f_X7_waitsFor
  have := xlp_for (body := f_X7_waitsFor_l5 (nI b) (nI p) M) (q := ac 3) (f := fun k => (ac k, nI k)) 3 4000 (by omega) (fun k hk => ?_) rfl
  · rw [h0] at this
    exact this
  · obtain ⟨h1, h2, h3, h4⟩ := h k hk
    unfold f_X7_waitsFor_l5
    simp only [show (3 : Int32) = nI 3 from rfl, lt_nI hk (by omega), if_true, m_placeOf hb hk h3 hp h4 h1, Option.bind_some, up_1]
    rw [hac k hk]
    by_cases hm : p ∈ W k
    · obtain ⟨i, hi⟩ := List.getElem?_of_mem hm
      have hil := (List.getElem?_eq_some_iff.mp hi).1
      rw [if_pos hm, fnd_in h2 hi _ hil, if_neg (nI_ne6 (by omega))]
    · rw [if_neg hm, fnd_out hm, if_pos rfl, show ac k ||| 0 = ac k from Int32.or_zero]
/-- k numbers from a on, taken from 3 places on -/
def shf (s : Nat → Int32) (a k : Nat) : Nat → Int32 := fun j => if a ≤ j ∧ j < a + k then s (j + 3) else s j
theorem shf_0 (s : Nat → Int32) (a : Nat) : shf s a 0 = s := by
  funext j
  exact if_neg (by omega)
theorem shf_next (s : Nat → Int32) (a k : Nat) : us (shf s a k) (a + k) (shf s a k (a + k + 3)) = shf s a (k + 1) := by
  funext j
  have e : shf s a k (a + k + 3) = s (a + k + 3) := if_neg (by omega)
  rw [e]
  unfold us shf
  by_cases h : j = a + k
  · subst h
    rw [if_pos rfl, if_pos (by omega)]
  · rw [if_neg h]
    by_cases h2 : a ≤ j ∧ j < a + k
    · rw [if_pos h2, if_pos (by omega)]
    · rw [if_neg h2, if_neg (by omega)]
theorem st_sp {ρ : Type} {k : Nat} {M : xM} {τ τ' : Nat → Int32} (h : τ = τ') : (some (.inl (nI k, sp M τ)) : Option ((Int32 × xM) ⊕ ρ)) = some (.inl (nI k, sp M τ')) := by rw [h]
theorem m_shift {b p sh i n : Nat} {M : xM} (hb : b ≤ 3186) (hs : sh < 3) (hi : i ≤ n) (hn : n < 20) (h : M.1 6 1 (b + 11 + sh) = nI n) : xlp (f_X7_leavesLists_l47_2 (nI b) (nI p) (nI sh)) 4000 (nI (b + 174 + 3 * (20 * sh + i)), M) = some (.inl (nI (sh + 1), sp M (shf (M.1 6 1) (b + 174 + 3 * (20 * sh + i)) (3 * (n - i))))) := by
  have hlen : ∀ k, shf (M.1 6 1) (b + 174 + 3 * (20 * sh + i)) k (b + 11 + sh) = nI n := fun k => (if_neg (by omega)).trans h
  have := xlp_for (body := f_X7_leavesLists_l47_2 (nI b) (nI p) (nI sh)) (q := .inl (nI (sh + 1), sp M (shf (M.1 6 1) (b + 174 + 3 * (20 * sh + i)) (3 * (n - i))))) (f := fun k => (nI (b + 174 + 3 * (20 * sh + i) + k), sp M (shf (M.1 6 1) (b + 174 + 3 * (20 * sh + i)) k))) (3 * (n - i)) 4000 (by omega) (fun k hk => ?_) ?_
  · rw [shf_0, sp_self] at this
    exact this
  · unfold f_X7_leavesLists_l47_2
    simp only [show (11 : Int32) = nI 11 from rfl, show (3 : Int32) = nI 3 from rfl, nI_add, in_nI (show b + 11 + sh < 3540 by omega) (by omega), cl_nI (show b + 11 + sh < 2 ^ 31 by omega), if_true, sp_get, hlen, m_placeAt, Option.bind_some]
    rw [if_pos (nI_lt (show b + 174 + 3 * (20 * sh + i) + k < b + 174 + 3 * (20 * sh + n) by omega) (by omega))]
    simp only [in_nI (show b + 174 + 3 * (20 * sh + i) + k + 3 < 3540 by omega) (by omega), in_nI (show b + 174 + 3 * (20 * sh + i) + k < 3540 by omega) (by omega), cl_nI (show b + 174 + 3 * (20 * sh + i) + k + 3 < 2 ^ 31 by omega), cl_nI (show b + 174 + 3 * (20 * sh + i) + k < 2 ^ 31 by omega), if_true, up_sp, sp_get, sp_sp, up_1]
    exact st_sp (shf_next _ _ _)
  · unfold f_X7_leavesLists_l47_2
    simp only [show (11 : Int32) = nI 11 from rfl, show (3 : Int32) = nI 3 from rfl, nI_add, in_nI (show b + 11 + sh < 3540 by omega) (by omega), cl_nI (show b + 11 + sh < 2 ^ 31 by omega), if_true, sp_get, hlen, m_placeAt, Option.bind_some]
    rw [if_neg (nI_nlt (show b + 174 + 3 * (20 * sh + n) ≤ b + 174 + 3 * (20 * sh + i) + 3 * (n - i) by omega) (by omega)), up_1]
    rfl
def pos (p : Nat) : List Nat → Nat
  | [] => 0
  | x :: r => if x = p then 0 else pos p r + 1
theorem pos_get {p : Nat} : ∀ {l : List Nat}, p ∈ l → l[pos p l]? = some p
  | [], h => by cases h
  | x :: r, h => by
    unfold pos
    by_cases e : x = p
    · rw [if_pos e, e]
      rfl
    · rw [if_neg e]
      show r[pos p r]? = some p
      refine pos_get ?_
      rcases List.mem_cons.mp h with z | z
      · exact absurd z.symm e
      · exact z
/-- p leaves the list of one shed -/
def mLv1 (b sh p : Nat) (l : List Nat) (s : Nat → Int32) : Nat → Int32 := if p ∈ l then shf (us s (b + 11 + sh) (nI (l.length - 1))) (b + 174 + 3 * (20 * sh + pos p l)) (3 * (l.length - 1 - pos p l)) else s
def mLvs (b p : Nat) (W : Nat → List Nat) (s : Nat → Int32) : Nat → Nat → Int32
  | 0 => s
  | k + 1 => mLv1 b k p (W k) (mLvs b p W s k)
theorem mLv1_ne {b sh p : Nat} {l : List Nat} {s : Nat → Int32} {j : Nat} (hl : l.length ≤ 20) (h1 : j ≠ b + 11 + sh) (h2 : ¬ (b + 174 + 60 * sh ≤ j ∧ j < b + 174 + 60 * sh + 60)) : mLv1 b sh p l s j = s j := by
  unfold mLv1
  split
  · next hm =>
    have hp := (List.getElem?_eq_some_iff.mp (pos_get hm)).1
    unfold shf
    rw [if_neg (by omega)]
    exact us_ne _ _ h1
  · rfl
theorem mLvs_ne {b p : Nat} {W : Nat → List Nat} {s : Nat → Int32} {j : Nat} (hl : ∀ k, k < 3 → (W k).length ≤ 20) : ∀ n, n ≤ 3 → (∀ k, k < n → j ≠ b + 11 + k ∧ ¬ (b + 174 + 60 * k ≤ j ∧ j < b + 174 + 60 * k + 60)) → mLvs b p W s n j = s j
  | 0, _, _ => rfl
  | n + 1, hn, h => (mLv1_ne (hl n (by omega)) (h n (by omega)).1 (h n (by omega)).2).trans (mLvs_ne hl n (by omega) (fun k hk => h k (by omega)))
theorem mL.congr {s t : Nat → Int32} {b sh : Nat} {l : List Nat} (h : mL s b sh l) (hl : l.length ≤ 20) (e1 : t (b + 11 + sh) = s (b + 11 + sh)) (e2 : ∀ j, b + 174 + 60 * sh ≤ j → j < b + 174 + 60 * sh + 60 → t j = s j) : mL t b sh l := by
  refine ⟨e1.trans h.1, fun k p hk => ?_⟩
  have := (List.getElem?_eq_some_iff.mp hk).1
  rw [e2 _ (by omega) (by omega)]
  exact h.2 k p hk
theorem m_leavesLists {b p : Nat} {W : Nat → List Nat} {M : xM} (hb : b ≤ 3186) (hp : p < 20) (h : ∀ sh, sh < 3 → mL (M.1 6 1) b sh (W sh) ∧ (W sh).Nodup ∧ (W sh).length ≤ 20 ∧ ∀ q ∈ W sh, q < 20) : f_X7_leavesLists (nI b) (nI p) M = some (sp M (mLvs b p W (M.1 6 1) 3)) := by
  unfold f_X7_leavesLists
  have := xlp_for (body := f_X7_leavesLists_l2 (nI b) (nI p)) (q := sp M (mLvs b p W (M.1 6 1) 3)) (f := fun k => (nI k, sp M (mLvs b p W (M.1 6 1) k))) 3 4000 (by omega) (fun k hk => ?_) rfl
  · have e : sp M (mLvs b p W (M.1 6 1) 0) = M := sp_self M
    rw [e] at this
    exact this
  · obtain ⟨h1, h2, h3, h4⟩ := h k hk
    have hl : ∀ k, k < 3 → (W k).length ≤ 20 := fun k hk => (h k hk).2.2.1
    have h1' : mL (mLvs b p W (M.1 6 1) k) b k (W k) := h1.congr h3 (mLvs_ne hl k (by omega) (fun j hj => by omega)) (fun j z1 z2 => mLvs_ne hl k (by omega) (fun q hq => by omega))
    have hnext : mLvs b p W (M.1 6 1) (k + 1) = mLv1 b k p (W k) (mLvs b p W (M.1 6 1) k) := rfl
    rw [hnext]
    generalize mLvs b p W (M.1 6 1) k = t at h1' ⊢
    have hpl := m_placeOf (M := sp M t) hb hk h3 hp h4 (by rw [sp_get]; exact h1')
    unfold f_X7_leavesLists_l2 mLv1
    simp only [show (3 : Int32) = nI 3 from rfl, lt_nI hk (by omega), if_true, hpl, Option.bind_some, up_1]
    by_cases hm : p ∈ W k
    · have hi := pos_get hm
      have hil := (List.getElem?_eq_some_iff.mp hi).1
      rw [if_pos hm, fnd_in h2 hi _ hil, if_neg (nI_ne6 (by omega))]
      have e1 : nI (W k).length - 1 = nI ((W k).length - 1) := by
        rw [show (W k).length = (W k).length - 1 + 1 by omega, nI_pred]
        rfl
      simp only [show (11 : Int32) = nI 11 from rfl, nI_add, in_nI (show b + 11 + k < 3540 by omega) (by omega), cl_nI (show b + 11 + k < 2 ^ 31 by omega), if_true, sp_get, h1'.1, e1, up_sp, sp_sp, m_placeAt, Option.bind_some]
      have hsf := m_shift (p := p) (M := sp M (us t (b + 11 + k) (nI ((W k).length - 1)))) (i := pos p (W k)) (n := (W k).length - 1) hb hk (by omega) (by omega) (by rw [sp_get]; exact us_eq _ _ _)
      rw [hsf, sp_get, sp_sp]
    · rw [if_neg hm, fnd_out hm, if_pos rfl]
theorem rmv_len (p : Nat) : ∀ l : List Nat, (rmv p l).length ≤ l.length
  | [] => Nat.le_refl _
  | x :: r => by
    have := rmv_len p r
    show (if x = p then r else x :: rmv p r).length ≤ r.length + 1
    split
    · omega
    · rw [List.length_cons]
      omega
theorem mLv1_len {b sh p : Nat} {l : List Nat} {s : Nat → Int32} (hn : l.Nodup) (hs : sh < 3) (hl : l.length ≤ 20) (h : s (b + 11 + sh) = nI l.length) : mLv1 b sh p l s (b + 11 + sh) = nI (rmv p l).length := by
  unfold mLv1
  by_cases hm : p ∈ l
  · have hi := pos_get hm
    have hil := (List.getElem?_eq_some_iff.mp hi).1
    rw [if_pos hm, rmv_in hn hi, List.length_eraseIdx, if_pos hil]
    unfold shf
    rw [if_neg (by omega)]
    exact us_eq _ _ _
  · rw [if_neg hm, rmv_out hm]
    exact h
theorem mLv1_at {b sh p : Nat} {l : List Nat} {s : Nat → Int32} (hn : l.Nodup) (hs : sh < 3) (hl : l.length ≤ 20) {k q f : Nat} (hf : f < 3) (hk : (rmv p l)[k]? = some q) : ∃ k', l[k']? = some q ∧ mLv1 b sh p l s (b + 174 + 3 * (20 * sh + k) + f) = s (b + 174 + 3 * (20 * sh + k') + f) := by
  unfold mLv1
  by_cases hm : p ∈ l
  · have hi := pos_get hm
    have hil := (List.getElem?_eq_some_iff.mp hi).1
    rw [rmv_in hn hi, List.getElem?_eraseIdx] at hk
    rw [if_pos hm]
    unfold shf
    by_cases hlt : k < pos p l
    · rw [if_pos hlt] at hk
      refine ⟨k, hk, ?_⟩
      rw [if_neg (by omega), us_ne _ _ (by omega)]
    · rw [if_neg hlt] at hk
      have hk2 := (List.getElem?_eq_some_iff.mp hk).1
      refine ⟨k + 1, hk, ?_⟩
      rw [if_pos (by omega), us_ne _ _ (by omega)]
      congr 1
      omega
  · rw [rmv_out hm] at hk
    rw [if_neg hm]
    exact ⟨k, hk, rfl⟩
/-- the three lists with what was asked -/
def mLw (σ : Nat → Nat → Int32) (W : Nat → List Nat) (s : Nat → Int32) (b : Nat) : Prop := ∀ sh, sh < 3 → s (b + 11 + sh) = nI (W sh).length ∧ ∀ k p, (W sh)[k]? = some p → s (b + 174 + 3 * (20 * sh + k)) = nI p ∧ s (b + 174 + 3 * (20 * sh + k) + 1) = σ (11 + sh) p ∧ s (b + 174 + 3 * (20 * sh + k) + 2) = σ (15 + sh) p
theorem mLw.mL {σ : Nat → Nat → Int32} {W : Nat → List Nat} {s : Nat → Int32} {b sh : Nat} (h : mLw σ W s b) (hs : sh < 3) : mL s b sh (W sh) := ⟨(h sh hs).1, fun k p hk => ((h sh hs).2 k p hk).1⟩
theorem mLvs_at {b p : Nat} {W : Nat → List Nat} {s : Nat → Int32} (hW : ∀ k, k < 3 → (W k).length ≤ 20) : ∀ n, n ≤ 3 → ∀ sh, sh < n → ∀ j, (j = b + 11 + sh ∨ (b + 174 + 60 * sh ≤ j ∧ j < b + 174 + 60 * sh + 60)) → mLvs b p W s n j = mLv1 b sh p (W sh) s j
  | 0, _, sh, hsh, _, _ => absurd hsh (by omega)
  | n + 1, hn, sh, hsh, j, hj => by
    show mLv1 b n p (W n) (mLvs b p W s n) j = _
    by_cases e : sh = n
    · subst e
      have hsame : ∀ j, (j = b + 11 + sh ∨ (b + 174 + 60 * sh ≤ j ∧ j < b + 174 + 60 * sh + 60)) → mLvs b p W s sh j = s j := fun j hj => mLvs_ne hW sh (by omega) (fun k hk => by omega)
      unfold mLv1
      split
      · next hm =>
        have hil := (List.getElem?_eq_some_iff.mp (pos_get hm)).1
        have hwl := hW sh (by omega)
        have hus : ∀ j, (j = b + 11 + sh ∨ (b + 174 + 60 * sh ≤ j ∧ j < b + 174 + 60 * sh + 60)) → us (mLvs b p W s sh) (b + 11 + sh) (nI ((W sh).length - 1)) j = us s (b + 11 + sh) (nI ((W sh).length - 1)) j := by
          intro j hj
          unfold us
          rw [hsame j hj]
        unfold shf
        by_cases hc : b + 174 + 3 * (20 * sh + pos p (W sh)) ≤ j ∧ j < b + 174 + 3 * (20 * sh + pos p (W sh)) + 3 * ((W sh).length - 1 - pos p (W sh))
        · rw [if_pos hc, if_pos hc]
          exact hus _ (by omega)
        · rw [if_neg hc, if_neg hc]
          exact hus _ hj
      · exact hsame j hj
    · rw [mLv1_ne (hW n (by omega)) (by omega) (by omega)]
      exact mLvs_at hW n (by omega) sh (by omega) j hj
theorem mLw.leave {σ τ : Nat → Nat → Int32} {W : Nat → List Nat} {s : Nat → Int32} {b p : Nat} (h : mLw σ W s b) (hc : cW σ W) (e : ∀ sh q, sh < 3 → τ (11 + sh) q = σ (11 + sh) q ∧ τ (15 + sh) q = σ (15 + sh) q) : mLw τ (fun sh => rmv p (W sh)) (mLvs b p W s 3) b := by
  have hW : ∀ k, k < 3 → (W k).length ≤ 20 := fun k hk => (hc k hk).len
  intro sh hs
  have hn := (hc sh hs).1
  have hl := hW sh hs
  refine ⟨?_, fun k q hk => ?_⟩
  · rw [mLvs_at hW 3 (Nat.le_refl _) sh hs _ (Or.inl rfl)]
    exact mLv1_len hn hs hl (h sh hs).1
  · have hk20 : k < 20 := by
      have h1 : k < (rmv p (W sh)).length := (List.getElem?_eq_some_iff.mp hk).1
      have h2 := rmv_len p (W sh)
      omega
    have go : ∀ f, f < 3 → ∀ v, (∀ k', (W sh)[k']? = some q → s (b + 174 + 3 * (20 * sh + k') + f) = v) → mLvs b p W s 3 (b + 174 + 3 * (20 * sh + k) + f) = v := by
      intro f hf v hv
      rw [mLvs_at hW 3 (Nat.le_refl _) sh hs _ (Or.inr (by omega))]
      obtain ⟨k', hk', e'⟩ := mLv1_at (s := s) (b := b) hn hs hl hf hk
      rw [e', hv k' hk']
    obtain ⟨e1, e2⟩ := e sh q hs
    refine ⟨go 0 (by omega) _ (fun k' hk' => ((h sh hs).2 k' q hk').1), go 1 (by omega) _ (fun k' hk' => ?_), go 2 (by omega) _ (fun k' hk' => ?_)⟩
    · rw [e1]
      exact ((h sh hs).2 k' q hk').2.1
    · rw [e2]
      exact ((h sh hs).2 k' q hk').2.2
