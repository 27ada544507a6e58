/-! mathematics: the class's functions on a state's own memory -/
theorem xlp_for {σ ρ : Type} {body : σ → Option (σ ⊕ ρ)} {q : ρ} (f : Nat → σ) (K : Nat) : ∀ (n : Nat), K < n → (∀ k, k < K → body (f k) = some (.inl (f (k + 1)))) → body (f K) = some (.inr q) → xlp body n (f 0) = some q := by
  intro n hn hb he
  have go : ∀ d k m, k + d = K → d < m → xlp body m (f k) = some q := by
    intro d
    induction d with
    | zero =>
      intro k m hk hm
      obtain ⟨m, rfl⟩ := Nat.exists_eq_succ_of_ne_zero (Nat.ne_of_gt hm)
      have : k = K := hk
      subst this
      exact xlp_out he
    | succ d ih =>
      intro k m hk hm
      obtain ⟨m, rfl⟩ := Nat.exists_eq_succ_of_ne_zero (by omega : m ≠ 0)
      refine Eq.trans (xlp_in (hb k (by omega))) (ih (k + 1) m (by omega) (by omega))
  exact go K 0 n (by omega) hn
theorem in_nI {k n : Nat} (h : k < n) (hn : n < 2 ^ 31) : xp_in (nI k) n = true := decide_eq_true (nI_in h hn)
theorem cl_nI {k : Nat} (h : k < 2 ^ 31) : (nI k).toNatClampNeg = k := nI_clamp h
theorem lt_nI {k n : Nat} (h : k < n) (hn : n < 2 ^ 31) : (nI k < nI n) = True := eq_true (nI_lt h hn)
theorem nlt_nI {k n : Nat} (h : n ≤ k) (hn : k < 2 ^ 31) : (nI k < nI n) = False := eq_false (nI_nlt h hn)
theorem up_1 (k : Nat) : nI k + (1 : Int32) = nI (k + 1) := nI_1 k
/-! a state's memory -/
def ud (σ : Nat → Nat → Int32) (o j : Nat) (v : Int32) : Nat → Nat → Int32 := fun o' j' => if o' = o ∧ j' = j then v else σ o' j'
def put (M : xM) (r : Nat) (σ : Nat → Nat → Int32) : xM := (fun r' => if r' = r then σ else M.1 r', M.2)
theorem up_put (M : xM) (r o j : Nat) (v : Int32) : xd_up M r o j v = put M r (ud (M.1 r) o j v) := by
  refine Prod.ext ?_ rfl
  funext r' o' j'
  show (if r' = r ∧ o' = o ∧ j' = j then v else M.1 r' o' j') = (if r' = r then ud (M.1 r) o j v else M.1 r') o' j'
  by_cases h : r' = r
  · subst h
    rw [if_pos rfl]
    show _ = if o' = o ∧ j' = j then v else M.1 r' o' j'
    by_cases h2 : o' = o ∧ j' = j
    · rw [if_pos h2, if_pos ⟨rfl, h2⟩]
    · rw [if_neg h2, if_neg (fun z => h2 z.2)]
  · rw [if_neg h, if_neg (fun z => h z.1)]
theorem put_get (M : xM) (r : Nat) (σ : Nat → Nat → Int32) : (put M r σ).1 r = σ := if_pos rfl
theorem put_ne (M : xM) {r r' : Nat} (σ : Nat → Nat → Int32) (h : r' ≠ r) : (put M r σ).1 r' = M.1 r' := if_neg h
theorem put_put (M : xM) (r : Nat) (σ τ : Nat → Nat → Int32) : put (put M r σ) r τ = put M r τ := by
  refine Prod.ext ?_ rfl
  funext r'
  show (if r' = r then τ else if r' = r then σ else M.1 r') = if r' = r then τ else M.1 r'
  by_cases h : r' = r
  · rw [if_pos h, if_pos h]
  · rw [if_neg h, if_neg h, if_neg h]
theorem put_self (M : xM) (r : Nat) : put M r (M.1 r) = M := by
  refine Prod.ext ?_ rfl
  funext r'
  show (if r' = r then M.1 r else M.1 r') = M.1 r'
  by_cases h : r' = r
  · rw [if_pos h, h]
  · rw [if_neg h]
theorem put_2 (M : xM) (r : Nat) (σ : Nat → Nat → Int32) : (put M r σ).2 = M.2 := rfl
theorem ud_eq (σ : Nat → Nat → Int32) (o j : Nat) (v : Int32) : ud σ o j v o j = v := if_pos ⟨rfl, rfl⟩
theorem ud_ne (σ : Nat → Nat → Int32) {o j o' j' : Nat} (v : Int32) (h : ¬ (o' = o ∧ j' = j)) : ud σ o j v o' j' = σ o' j' := if_neg h
theorem nar_0 : vp_nar .boolean 0 = 0 := by decide
theorem nar_1 : vp_nar .boolean 1 = 1 := by decide
/-! counting -/
def cnt (P : Nat → Bool) : Nat → Nat
  | 0 => 0
  | k + 1 => if P k = true then cnt P k + 1 else cnt P k
theorem cnt_le (P : Nat → Bool) : ∀ k, cnt P k ≤ k
  | 0 => Nat.le_refl _
  | k + 1 => by
    have := cnt_le P k
    unfold cnt
    split <;> omega
theorem cnt_congr {P Q : Nat → Bool} : ∀ k, (∀ j, j < k → P j = Q j) → cnt P k = cnt Q k
  | 0, _ => rfl
  | k + 1, h => by
    unfold cnt
    rw [h k (by omega), cnt_congr k (fun j hj => h j (by omega))]
/-- a body that counts the people for whom P holds -/
theorem xlp_cnt {ρ : Type} {body : Int32 × Int32 → Option ((Int32 × Int32) ⊕ ρ)} {q : ρ} (P : Nat → Bool) (hb : ∀ p, p < 20 → ∀ n, body (n, nI p) = some (.inl (if P p = true then n + 1 else n, nI p + 1))) (he : body (nI (cnt P 20), nI 20) = some (.inr q)) : xlp body 4000 (0, 0) = some q := by
  refine xlp_for (f := fun k => (nI (cnt P k), nI k)) 20 4000 (by omega) (fun k hk => ?_) he
  rw [hb k hk, up_1 k]
  congr 2
  refine Prod.ext ?_ rfl
  show (if P k = true then nI (cnt P k) + 1 else nI (cnt P k)) = nI (cnt P (k + 1))
  unfold cnt
  split
  · rw [up_1]
  · rfl
theorem c_countOf {r : Nat} {sh : Int32} {M : xM} : f_X4_countOf r sh M = some (nI (cnt (fun p => decide (M.1 r 4 p = sh)) 20)) := by
  unfold f_X4_countOf
  refine xlp_cnt (fun p => decide (M.1 r 4 p = sh)) (fun p hp n => ?_) rfl
  unfold f_X4_countOf_l4
  simp only [show (20 : Int32) = nI 20 from rfl, lt_nI hp (by omega), in_nI hp (by omega), cl_nI (show p < 2 ^ 31 by omega), if_true, decide_eq_true_eq]
  split <;> rfl
