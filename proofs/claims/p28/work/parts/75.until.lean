theorem cp_put (M : xM) (a b : Nat) : xe_cp a b M = put M a (M.1 b) := by
  refine Prod.ext ?_ rfl
  funext r o j
  show (if r = a then M.1 b o j else M.1 r o j) = (if r = a then M.1 b else M.1 r) o j
  by_cases h : r = a
  · rw [if_pos h, if_pos h]
  · rw [if_neg h, if_neg h]
/-- the first day on which p has a permit, counted from now -/
def frst (U : Nat → Nat) (sq : Nat) (q : (Nat → Nat → Int32) × (Nat → List Nat)) (p K : Nat) : Prop := 1 ≤ K ∧ K ≤ 300 ∧ (zDays U sq K q).1 4 p ≠ -6 ∧ ∀ k, k < K → (zDays U sq k q).1 4 p = -6
theorem frst_or {U : Nat → Nat} {sq p : Nat} {q : (Nat → Nat → Int32) × (Nat → List Nat)} (h0 : q.1 4 p = -6) : ∀ n, n ≤ 300 → (∃ K, K ≤ n ∧ frst U sq q p K) ∨ ∀ k, k ≤ n → (zDays U sq k q).1 4 p = -6
  | 0, _ => Or.inr (fun k hk => by
    have : k = 0 := by omega
    subst this
    exact h0)
  | n + 1, hn => by
    rcases frst_or (U := U) (sq := sq) h0 n (by omega) with ⟨K, k1, k2⟩ | h
    · exact Or.inl ⟨K, by omega, k2⟩
    · by_cases e : (zDays U sq (n + 1) q).1 4 p = -6
      · right
        intro k hk
        by_cases z : k = n + 1
        · rw [z]
          exact e
        · exact h k (by omega)
      · exact Or.inl ⟨n + 1, Nat.le_refl _, by omega, hn, e, fun k hk => h k (by omega)⟩
theorem c_until {T r p sq d kp nt : Nat} {W : Nat → List Nat} {U : Nat → Nat} {M : xM} (hA : gA d T (M.1 r) W U sq d kp nt) (hp : p < 20) (hT2 : T < 2 ^ 30) (h1 : d + 300 ≤ 20000) (h2 : d + 300 + 99 ≤ T) : (∀ K, frst U sq (M.1 r, W) p K → ∃ τ, f_X5_passUntilPermit r (nI p) M = some (nI K, put M r τ)) ∧ ((∀ k, k ≤ 300 → (zDays U sq k (M.1 r, W)).1 4 p = -6) → ∃ τ, f_X5_passUntilPermit r (nI p) M = some (-6, put M r τ)) := by
  have step : ∀ k, k < 300 → f_X5_passUntilPermit_l2 r (nI p) (nI (k + 1), put M r (zDays U sq k (M.1 r, W)).1) = if (zDays U sq (k + 1) (M.1 r, W)).1 4 p = -6 then some (.inl (nI (k + 2), put M r (zDays U sq (k + 1) (M.1 r, W)).1)) else some (.inr (nI (k + 1), put M r (zDays U sq (k + 1) (M.1 r, W)).1)) := by
    intro k hk
    have hAk := gA.days (q := (M.1 r, W)) hA hT2 k (by omega) (by omega)
    have hAk1 := gA.days (q := (M.1 r, W)) hA hT2 (k + 1) (by omega) (by omega)
    have hb := c_beginDay (r := r) (M := put M r (zDays U sq k (M.1 r, W)).1) (W := (zDays U sq k (M.1 r, W)).2) (U := U) (sp := sq) (by rw [put_get]; exact hAk.1) (by rw [put_get]; exact hAk.2.2.1)
    have et : ((zDays U sq k (M.1 r, W)).1, (zDays U sq k (M.1 r, W)).2) = zDays U sq k (M.1 r, W) := rfl
    rw [put_get, put_put, et, ← zDays_s] at hb
    have hrg := rg3_perm (hAk1.2.2.2.1.2.2.2.2.1 p hp)
    unfold f_X5_passUntilPermit_l2
    dsimp only
    rw [if_neg (show ¬ (300 : Int32) < nI (k + 1) from nI_nlt (a := 300) (by omega) (by omega)), hb, Option.bind_some, c_hasPermit hp, put_get, hrg, Option.bind_some, ite_bI, aI_1]
    by_cases e : (zDays U sq (k + 1) (M.1 r, W)).1 4 p = -6
    · rw [if_pos e, decide_eq_true e]
      rfl
    · rw [if_neg e, decide_eq_false e]
      rfl
  have e0 : put M r (zDays U sq 0 (M.1 r, W)).1 = M := put_self M r
  constructor
  · rintro K ⟨k1, k2, k3, k4⟩
    refine ⟨(zDays U sq K (M.1 r, W)).1, ?_⟩
    obtain ⟨J, rfl⟩ : ∃ J, K = J + 1 := ⟨K - 1, by omega⟩
    have hl := xlp_for (body := f_X5_passUntilPermit_l2 r (nI p)) (q := (nI (J + 1), put M r (zDays U sq (J + 1) (M.1 r, W)).1)) (f := fun k => (nI (k + 1), put M r (zDays U sq k (M.1 r, W)).1)) J 4000 (by omega) (fun k hk => by rw [step k (by omega), if_pos (k4 (k + 1) (by omega))]) (by rw [step J (by omega), if_neg k3])
    rw [e0] at hl
    exact hl
  · intro h
    refine ⟨(zDays U sq 300 (M.1 r, W)).1, ?_⟩
    have hl := xlp_for (body := f_X5_passUntilPermit_l2 r (nI p)) (q := (-6, put M r (zDays U sq 300 (M.1 r, W)).1)) (f := fun k => (nI (k + 1), put M r (zDays U sq k (M.1 r, W)).1)) 300 4000 (by omega) (fun k hk => by rw [step k (by omega), if_pos (h (k + 1) (by omega))]) (by
      unfold f_X5_passUntilPermit_l2
      dsimp only
      rw [if_pos (show (300 : Int32) < nI (300 + 1) from nI_lt (a := 300) (by omega) (by omega))]
      rfl)
    rw [e0] at hl
    exact hl
