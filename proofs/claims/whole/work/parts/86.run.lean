/-! deeds of a text -/
theorem bind_pair {α β : Type} (a : Option (α × β)) : a.bind (fun q => some (q.1, q.2)) = a := by cases a <;> rfl
theorem bind_self {α : Type} (a : Option α) : a.bind (fun q => some q) = a := by cases a <;> rfl
theorem dP_kind {ch : Nat → Nat} {i : Nat} (h : (dP ch i).1 = true) : (dP ch i).2.2 = 63 ∨ (dP ch i).2.2 = 46 ∨ (dP ch i).2.2 = 112 ∨ (dP ch i).2.2 = 114 ∨ (dP ch i).2.2 = 97 ∨ (dP ch i).2.2 = 102 ∨ ((dP ch i).2.2 = 115 ∧ sP ch (i + 1) = true) := by
  unfold dP at h ⊢
  by_cases h115 : ch i = 115
  · rw [if_pos h115] at h ⊢
    exact Or.inr (Or.inr (Or.inr (Or.inr (Or.inr (Or.inr ⟨rfl, h⟩)))))
  rw [if_neg h115] at h ⊢
  by_cases h46 : ch i = 46
  · rw [if_pos h46]
    exact Or.inr (Or.inl rfl)
  rw [if_neg h46] at h ⊢
  by_cases hA : 65 ≤ ch i ∧ ch i ≤ 84
  · rw [if_pos hA] at h ⊢
    by_cases h63 : ch (i + 1) = 63
    · rw [if_pos h63] at h ⊢
      by_cases hs : sP ch (i + 2) = true
      · rw [if_pos hs] at h ⊢
        by_cases h58 : ch (i + 3) = 58
        · rw [if_pos h58]
          exact Or.inl rfl
        · rw [if_neg h58] at h
          cases h
      · rw [if_neg hs] at h
        cases h
    · rw [if_neg h63] at h ⊢
      by_cases hk : ch (i + 1) = 112 ∨ ch (i + 1) = 114 ∨ ch (i + 1) = 97 ∨ ch (i + 1) = 102
      · rw [if_pos hk]
        dsimp only
        omega
      · rw [if_neg hk] at h
        cases h
  · rw [if_neg hA] at h
    cases h
theorem nI_nelit {a b : Nat} (ha : a < 2 ^ 31) (hb : b < 2 ^ 31) (h : a ≠ b) : ¬ nI a = nI b := fun z => h ((nI_eq ha hb).mp z)
theorem deed_op {T : Nat} (hT : 10398 ≤ T) (hT2 : T < 2 ^ 30) {ch : Nat → Nat} {i : Nat} (hok : (dP ch i).1 = true) : ∃ C E F, opOK 9999 T C E F ∧ (∀ N : xM, fOK ch i (N.1 5 79 3) (N.1 5 79 4) (N.1 5 79 5) (N.1 5 79 6) → f_X6_doDeed N = C N) ∧ ∀ N : xM, fOK ch i (N.1 6 0 7) (N.1 6 0 6) (N.1 6 0 8) (N.1 6 0 9) → f_X7_deedError N = E N ∧ f_X7_does N = F N := by
  rcases dP_kind hok with hk | hk | hk | hk | hk | hk | ⟨hk, hs⟩
  · refine ⟨_, _, _, op_ask (by omega) (nI (ch i - 65)) (nI (ch (i + 2) - 48)) (nI (nP ch (i + 4)).2.2), fun N hf => ?_, fun N hf => ?_⟩
    · unfold fOK at hf
      rw [hk] at hf
      obtain ⟨f1, f2, f3, f4, f5⟩ := hf
      obtain ⟨f6, f7⟩ := f5 rfl
      unfold f_X6_doDeed
      rw [f1, if_pos (show nI 63 = 63 from rfl), f4 (by omega) (by omega), f6, f7, bind_pair]
    · unfold fOK at hf
      rw [hk] at hf
      obtain ⟨f1, f2, f3, f4, f5⟩ := hf
      obtain ⟨f6, f7⟩ := f5 rfl
      unfold f_X7_deedError f_X7_does
      rw [f1, if_neg (show ¬ nI 63 = 46 by decide), if_neg (show ¬ nI 63 = 46 by decide), if_pos (show nI 63 = 63 from rfl), if_pos (show nI 63 = 63 from rfl), f4 (by omega) (by omega), f6, f7, bind_pair, bind_self]
      exact ⟨rfl, rfl⟩
  · refine ⟨_, _, _, op_pass (by omega) hT2 (nI (nP ch (i + 1)).2.2), fun N hf => ?_, fun N hf => ?_⟩
    · unfold fOK at hf
      rw [hk] at hf
      obtain ⟨f1, f2, f3, f4, f5⟩ := hf
      unfold f_X6_doDeed
      rw [f1, if_neg (show ¬ nI 46 = 63 by decide), if_neg (show ¬ nI 46 = 97 by decide), if_neg (show ¬ nI 46 = 102 by decide), if_neg (show ¬ nI 46 = 112 by decide), if_neg (show ¬ nI 46 = 114 by decide), if_neg (show ¬ nI 46 = 115 by decide), f3 rfl, bind_pair]
    · unfold fOK at hf
      rw [hk] at hf
      obtain ⟨f1, f2, f3, f4, f5⟩ := hf
      unfold f_X7_deedError f_X7_does
      rw [f1, if_pos (show nI 46 = 46 from rfl), if_pos (show nI 46 = 46 from rfl), f3 rfl, bind_pair, bind_self]
      exact ⟨rfl, rfl⟩
  · refine ⟨_, _, _, op_park (nI (ch i - 65)), fun N hf => ?_, fun N hf => ?_⟩
    · unfold fOK at hf
      rw [hk] at hf
      obtain ⟨f1, f2, f3, f4, f5⟩ := hf
      unfold f_X6_doDeed
      rw [f1, if_neg (show ¬ nI 112 = 63 by decide), if_neg (show ¬ nI 112 = 97 by decide), if_neg (show ¬ nI 112 = 102 by decide), if_pos (show nI 112 = 112 from rfl), f4 (by omega) (by omega), bind_pair]
    · unfold fOK at hf
      rw [hk] at hf
      obtain ⟨f1, f2, f3, f4, f5⟩ := hf
      unfold f_X7_deedError f_X7_does
      rw [f1, if_neg (show ¬ nI 112 = 46 by decide), if_neg (show ¬ nI 112 = 63 by decide), if_neg (show ¬ nI 112 = 97 by decide), if_neg (show ¬ nI 112 = 102 by decide), if_pos (show nI 112 = 112 from rfl), if_neg (show ¬ nI 112 = 46 by decide), if_neg (show ¬ nI 112 = 63 by decide), if_neg (show ¬ nI 112 = 97 by decide), if_neg (show ¬ nI 112 = 102 by decide), if_pos (show nI 112 = 112 from rfl), f4 (by omega) (by omega), bind_pair, bind_self]
      exact ⟨rfl, rfl⟩
  · refine ⟨_, _, _, op_ride (nI (ch i - 65)), fun N hf => ?_, fun N hf => ?_⟩
    · unfold fOK at hf
      rw [hk] at hf
      obtain ⟨f1, f2, f3, f4, f5⟩ := hf
      unfold f_X6_doDeed
      rw [f1, if_neg (show ¬ nI 114 = 63 by decide), if_neg (show ¬ nI 114 = 97 by decide), if_neg (show ¬ nI 114 = 102 by decide), if_neg (show ¬ nI 114 = 112 by decide), if_pos (show nI 114 = 114 from rfl), f4 (by omega) (by omega), bind_pair]
    · unfold fOK at hf
      rw [hk] at hf
      obtain ⟨f1, f2, f3, f4, f5⟩ := hf
      unfold f_X7_deedError f_X7_does
      rw [f1, if_neg (show ¬ nI 114 = 46 by decide), if_neg (show ¬ nI 114 = 63 by decide), if_neg (show ¬ nI 114 = 97 by decide), if_neg (show ¬ nI 114 = 102 by decide), if_neg (show ¬ nI 114 = 112 by decide), if_pos (show nI 114 = 114 from rfl), if_neg (show ¬ nI 114 = 46 by decide), if_neg (show ¬ nI 114 = 63 by decide), if_neg (show ¬ nI 114 = 97 by decide), if_neg (show ¬ nI 114 = 102 by decide), if_neg (show ¬ nI 114 = 112 by decide), if_pos (show nI 114 = 114 from rfl), f4 (by omega) (by omega), bind_pair, bind_self]
      exact ⟨rfl, rfl⟩
  · refine ⟨_, _, _, op_answer (nI (ch i - 65)), fun N hf => ?_, fun N hf => ?_⟩
    · unfold fOK at hf
      rw [hk] at hf
      obtain ⟨f1, f2, f3, f4, f5⟩ := hf
      unfold f_X6_doDeed
      rw [f1, if_neg (show ¬ nI 97 = 63 by decide), if_pos (show nI 97 = 97 from rfl), f4 (by omega) (by omega), bind_pair]
    · unfold fOK at hf
      rw [hk] at hf
      obtain ⟨f1, f2, f3, f4, f5⟩ := hf
      unfold f_X7_deedError f_X7_does
      rw [f1, if_neg (show ¬ nI 97 = 46 by decide), if_neg (show ¬ nI 97 = 63 by decide), if_pos (show nI 97 = 97 from rfl), if_neg (show ¬ nI 97 = 46 by decide), if_neg (show ¬ nI 97 = 63 by decide), if_pos (show nI 97 = 97 from rfl), f4 (by omega) (by omega), bind_pair, bind_self]
      exact ⟨rfl, rfl⟩
  · refine ⟨_, _, _, op_fetch (nI (ch i - 65)), fun N hf => ?_, fun N hf => ?_⟩
    · unfold fOK at hf
      rw [hk] at hf
      obtain ⟨f1, f2, f3, f4, f5⟩ := hf
      unfold f_X6_doDeed
      rw [f1, if_neg (show ¬ nI 102 = 63 by decide), if_neg (show ¬ nI 102 = 97 by decide), if_pos (show nI 102 = 102 from rfl), f4 (by omega) (by omega), bind_pair]
    · unfold fOK at hf
      rw [hk] at hf
      obtain ⟨f1, f2, f3, f4, f5⟩ := hf
      unfold f_X7_deedError f_X7_does
      rw [f1, if_neg (show ¬ nI 102 = 46 by decide), if_neg (show ¬ nI 102 = 63 by decide), if_neg (show ¬ nI 102 = 97 by decide), if_pos (show nI 102 = 102 from rfl), if_neg (show ¬ nI 102 = 46 by decide), if_neg (show ¬ nI 102 = 63 by decide), if_neg (show ¬ nI 102 = 97 by decide), if_pos (show nI 102 = 102 from rfl), f4 (by omega) (by omega), bind_pair, bind_self]
      exact ⟨rfl, rfl⟩
  · have hs3 : ch (i + 1) - 48 < 3 := by
      have := of_decide_eq_true hs
      omega
    refine ⟨_, _, _, op_sweep hs3, fun N hf => ?_, fun N hf => ?_⟩
    · unfold fOK at hf
      rw [hk] at hf
      obtain ⟨f1, f2, f3, f4, f5⟩ := hf
      unfold f_X6_doDeed
      rw [f1, if_neg (show ¬ nI 115 = 63 by decide), if_neg (show ¬ nI 115 = 97 by decide), if_neg (show ¬ nI 115 = 102 by decide), if_neg (show ¬ nI 115 = 112 by decide), if_neg (show ¬ nI 115 = 114 by decide), if_pos (show nI 115 = 115 from rfl), f2 rfl, bind_pair]
    · unfold fOK at hf
      rw [hk] at hf
      obtain ⟨f1, f2, f3, f4, f5⟩ := hf
      unfold f_X7_deedError f_X7_does
      rw [f1, if_neg (show ¬ nI 115 = 46 by decide), if_neg (show ¬ nI 115 = 63 by decide), if_neg (show ¬ nI 115 = 97 by decide), if_neg (show ¬ nI 115 = 102 by decide), if_neg (show ¬ nI 115 = 112 by decide), if_neg (show ¬ nI 115 = 114 by decide), if_neg (show ¬ nI 115 = 46 by decide), if_neg (show ¬ nI 115 = 63 by decide), if_neg (show ¬ nI 115 = 97 by decide), if_neg (show ¬ nI 115 = 102 by decide), if_neg (show ¬ nI 115 = 112 by decide), if_neg (show ¬ nI 115 = 114 by decide), f2 rfl, bind_pair]
      exact ⟨rfl, rfl⟩
/-- what the class does is settled ahead of the model's row -/
theorem op_det {D T : Nat} {C F : xM → Option (Int32 × xM)} {E : xM → Option Int32} (h : opOK D T C E F) {N : xM} {t0 : Nat → Int32} (h0 : gS D T (N.1 2) t0 0) : (∃ e, e < 0 ∧ C N = some (e, N) ∧ ∀ N' : xM, gS D T (N.1 2) (N'.1 6 1) 0 → E N' = some e) ∨ ∃ ans τ t1, ¬ ans < 0 ∧ C N = some (ans, put N 2 τ) ∧ gS D T τ t1 0 ∧ ∀ N' : xM, gS D T (N.1 2) (N'.1 6 1) 0 → E N' = some 0 ∧ ∃ t, F N' = some (ans, sp N' t) ∧ gS D T τ t 0 ∧ mFr (N'.1 6 1) t 0 := by
  rcases h N (mm N (N.1 6 0) t0) (by rw [mm_1]; exact h0) with ⟨e, e1, e2, -⟩ | ⟨-, ans, τ, e1, e2, e3⟩
  · left
    refine ⟨e, e1, e2, fun N' hN' => ?_⟩
    rcases h N N' hN' with ⟨e', f1, f2, f3⟩ | ⟨-, ans', τ', f1, f2, -⟩
    · rw [e2] at f2
      have : e = e' := congrArg Prod.fst (Option.some.inj f2)
      rw [this]
      exact f3
    · rw [e2] at f2
      have : e = ans' := congrArg Prod.fst (Option.some.inj f2)
      rw [this] at e1
      exact absurd e1 f1
  · right
    obtain ⟨t1, -, g2, -⟩ := e3 (mm N (N.1 6 0) t0) (fun j _ _ => rfl)
    refine ⟨ans, τ, t1, e1, e2, g2, fun N' hN' => ?_⟩
    rcases h N N' hN' with ⟨e', f1, f2, f3⟩ | ⟨f0, ans', τ', f1, f2, f3⟩
    · rw [e2] at f2
      have : ans = e' := congrArg Prod.fst (Option.some.inj f2)
      rw [this] at e1
      exact absurd f1 e1
    · rw [e2] at f2
      have q1 : ans = ans' := congrArg Prod.fst (Option.some.inj f2)
      have q2 : put N 2 τ = put N 2 τ' := congrArg Prod.snd (Option.some.inj f2)
      have q3 : τ = τ' := by
        have := congrArg (fun Q : xM => Q.1 2) q2
        rw [put_get, put_get] at this
        exact this
      subst q1 q3
      exact ⟨f0, f3 N' (fun j _ _ => rfl)⟩
theorem xlp_opt {σ ρ : Type} {body : σ → Option (σ ⊕ ρ)} {n : Nat} {s : σ} {o : Option ρ} (h : body s = Option.map Sum.inr o) : xlp body (n + 1) s = o := by
  unfold xlp
  rw [h]
  cases o <;> rfl
