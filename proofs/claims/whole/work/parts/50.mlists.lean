/-! the model's wait lists, changed -/
theorem m_waitsFor {b p : Nat} {W : Nat → List Nat} {M : xM} (hb : b ≤ 3186) (hp : p < 20) (h : ∀ sh, sh < 3 → mL (M.1 6 1) b sh (W sh) ∧ (W sh).Nodup ∧ (W sh).length ≤ 20 ∧ ∀ q ∈ W sh, q < 20) (ac : Nat → Int32) (h0 : ac 0 = 0) (hac : ∀ k, k < 3 → ac (k + 1) = if p ∈ W k then ac k ||| ((1 : Int32) <<< (nI k &&& 31)) else ac k) : f_X7_waitsFor (nI b) (nI p) M = some (ac 3) := by
  unfold f_X7_waitsFor
  have := xlp_for (body := f_X7_waitsFor_l5 (nI b) (nI p) M) (q := ac 3) (f := fun k => (ac k, nI k)) 3 4000 (by omega) (fun k hk => ?_) rfl
  · rw [h0] at this
    exact this
  · obtain ⟨h1, h2, h3, h4⟩ := h k hk
    unfold f_X7_waitsFor_l5
    simp only [show (3 : Int32) = nI 3 from rfl, lt_nI hk (by omega), if_true, m_placeOf hb hk h3 hp h4 h1, Option.bind_some, up_1]
    rw [hac k hk]
    by_cases hm : p ∈ W k
    · obtain ⟨i, hi⟩ := List.getElem?_of_mem hm
      have hil := (List.getElem?_eq_some_iff.mp hi).1
      rw [if_pos hm, fnd_in h2 hi _ hil, if_neg (nI_ne6 (by omega))]
    · rw [if_neg hm, fnd_out hm, if_pos rfl, show ac k ||| 0 = ac k from Int32.or_zero]
