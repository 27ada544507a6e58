/-! mathematics: the class's functions on a state's own memory -/
theorem xlp_for {σ ρ : Type} {body : σ → Option (σ ⊕ ρ)} {q : ρ} (f : Nat → σ) (K : Nat) : ∀ (n : Nat), K < n → (∀ k, k < K → body (f k) = some (.inl (f (k + 1)))) → body (f K) = some (.inr q) → xlp body n (f 0) = some q := by
  intro n hn hb he
  have go : ∀ d k m, k + d = K → d < m → xlp body m (f k) = some q := by
    intro d
    induction d with
    | zero =>
      intro k m hk hm
      obtain ⟨m, rfl⟩ := Nat.exists_eq_succ_of_ne_zero (Nat.ne_of_gt hm)
      have : k = K := hk
      subst this
      exact xlp_out he
    | succ d ih =>
      intro k m hk hm
      obtain ⟨m, rfl⟩ := Nat.exists_eq_succ_of_ne_zero (by omega : m ≠ 0)
      refine Eq.trans (xlp_in (hb k (by omega))) (ih (k + 1) m (by omega) (by omega))
  exact go K 0 n (by omega) hn
theorem in_nI {k n : Nat} (h : k < n) (hn : n < 2 ^ 31) : xp_in (nI k) n = true := decide_eq_true (nI_in h hn)
theorem cl_nI {k : Nat} (h : k < 2 ^ 31) : (nI k).toNatClampNeg = k := nI_clamp h
theorem lt_nI {k n : Nat} (h : k < n) (hn : n < 2 ^ 31) : (nI k < nI n) = True := eq_true (nI_lt h hn)
theorem nlt_nI {k n : Nat} (h : n ≤ k) (hn : k < 2 ^ 31) : (nI k < nI n) = False := eq_false (nI_nlt h hn)
theorem up_1 (k : Nat) : nI k + (1 : Int32) = nI (k + 1) := nI_1 k
/-! a state's memory -/
def ud (σ : Nat → Nat → Int32) (o j : Nat) (v : Int32) : Nat → Nat → Int32 := fun o' j' => if o' = o ∧ j' = j then v else σ o' j'
def put (M : xM) (r : Nat) (σ : Nat → Nat → Int32) : xM := (fun r' => if r' = r then σ else M.1 r', M.2)
theorem up_put (M : xM) (r o j : Nat) (v : Int32) : xd_up M r o j v = put M r (ud (M.1 r) o j v) := by
  refine Prod.ext ?_ rfl
  funext r' o' j'
  show (if r' = r ∧ o' = o ∧ j' = j then v else M.1 r' o' j') = (if r' = r then ud (M.1 r) o j v else M.1 r') o' j'
  by_cases h : r' = r
  · subst h
    rw [if_pos rfl]
    show _ = if o' = o ∧ j' = j then v else M.1 r' o' j'
    by_cases h2 : o' = o ∧ j' = j
    · rw [if_pos h2, if_pos ⟨rfl, h2⟩]
    · rw [if_neg h2, if_neg (fun z => h2 z.2)]
  · rw [if_neg h, if_neg (fun z => h z.1)]
theorem put_get (M : xM) (r : Nat) (σ : Nat → Nat → Int32) : (put M r σ).1 r = σ := if_pos rfl
theorem put_ne (M : xM) {r r' : Nat} (σ : Nat → Nat → Int32) (h : r' ≠ r) : (put M r σ).1 r' = M.1 r' := if_neg h
theorem put_put (M : xM) (r : Nat) (σ τ : Nat → Nat → Int32) : put (put M r σ) r τ = put M r τ := by
  refine Prod.ext ?_ rfl
  funext r'
  show (if r' = r then τ else if r' = r then σ else M.1 r') = if r' = r then τ else M.1 r'
  by_cases h : r' = r
  · rw [if_pos h, if_pos h]
  · rw [if_neg h, if_neg h, if_neg h]
theorem put_self (M : xM) (r : Nat) : put M r (M.1 r) = M := by
  refine Prod.ext ?_ rfl
  funext r'
  show (if r' = r then M.1 r else M.1 r') = M.1 r'
  by_cases h : r' = r
  · rw [if_pos h, h]
  · rw [if_neg h]
theorem put_2 (M : xM) (r : Nat) (σ : Nat → Nat → Int32) : (put M r σ).2 = M.2 := rfl
theorem ud_eq (σ : Nat → Nat → Int32) (o j : Nat) (v : Int32) : ud σ o j v o j = v := if_pos ⟨rfl, rfl⟩
theorem ud_ne (σ : Nat → Nat → Int32) {o j o' j' : Nat} (v : Int32) (h : ¬ (o' = o ∧ j' = j)) : ud σ o j v o' j' = σ o' j' := if_neg h
theorem nar_0 : vp_nar .boolean 0 = 0 := by decide
theorem nar_1 : vp_nar .boolean 1 = 1 := by decide
/-! counting -/
def cnt (P : Nat → Bool) : Nat → Nat
  | 0 => 0
  | k + 1 => if P k = true then cnt P k + 1 else cnt P k
theorem cnt_succ (P : Nat → Bool) (k : Nat) : cnt P (k + 1) = if P k = true then cnt P k + 1 else cnt P k := rfl
theorem cnt_le (P : Nat → Bool) : ∀ k, cnt P k ≤ k
  | 0 => Nat.le_refl _
  | k + 1 => by
    have := cnt_le P k
    rw [cnt_succ]
    split <;> omega
theorem cnt_congr {P Q : Nat → Bool} : ∀ k, (∀ j, j < k → P j = Q j) → cnt P k = cnt Q k
  | 0, _ => rfl
  | k + 1, h => by
    rw [cnt_succ, cnt_succ, h k (by omega), cnt_congr k (fun j hj => h j (by omega))]
/-- a body that counts the people for whom P holds -/
theorem xlp_cnt {ρ : Type} {body : Int32 × Int32 → Option ((Int32 × Int32) ⊕ ρ)} {q : ρ} (P : Nat → Bool) (hb : ∀ p, p < 20 → ∀ n, body (n, nI p) = some (.inl (if P p = true then n + 1 else n, nI p + 1))) (he : body (nI (cnt P 20), nI 20) = some (.inr q)) : xlp body 4000 (0, 0) = some q := by
  refine xlp_for (f := fun k => (nI (cnt P k), nI k)) 20 4000 (by omega) (fun k hk => ?_) he
  rw [hb k hk, up_1 k]
  congr 2
  refine Prod.ext ?_ rfl
  show (if P k = true then nI (cnt P k) + 1 else nI (cnt P k)) = nI (cnt P (k + 1))
  rw [cnt_succ]
  split
  · rw [up_1]
  · rfl
theorem c_countOf {r : Nat} {sh : Int32} {M : xM} : f_X4_countOf r sh M = some (nI (cnt (fun p => decide (M.1 r 4 p = sh)) 20)) := by
  unfold f_X4_countOf
  refine xlp_cnt (fun p => decide (M.1 r 4 p = sh)) (fun p hp n => ?_) rfl
  unfold f_X4_countOf_l4
  simp only [show (20 : Int32) = nI 20 from rfl, lt_nI hp (by omega), in_nI hp (by omega), cl_nI (show p < 2 ^ 31 by omega), if_true, decide_eq_true_eq]
  split <;> rfl
/-! tests of one number -/
theorem lit_nI (k : Nat) : (OfNat.ofNat k : Int32) = nI k := rfl
def bI (b : Bool) : Int32 := if b = true then 1 else 0
theorem bI_t : bI true = 1 := rfl
theorem bI_f : bI false = 0 := rfl
theorem bI_nar (b : Bool) : vp_nar .boolean (bI b) = bI b := by
  cases b
  · exact nar_0
  · exact nar_1
theorem bI_ge (b : Bool) : ¬ bI b < 0 := by cases b <;> decide
theorem bI_0 (b : Bool) : (bI b = 0) = (b = false) := by
  cases b
  · exact eq_true rfl |>.trans (eq_true rfl).symm
  · exact (eq_false (by decide)).trans (eq_false (by decide)).symm
theorem ite_bI {α : Type} (b : Bool) (x y : α) : (if bI b = 0 then x else y) = if b = true then y else x := by
  cases b
  · exact if_pos rfl
  · exact if_neg (by decide)
theorem bI_ite {P : Prop} [Decidable P] : (if P then some (1 : Int32) else some 0) = some (bI (decide P)) := by
  by_cases h : P
  · rw [if_pos h, decide_eq_true h]
    rfl
  · rw [if_neg h, decide_eq_false h]
    rfl
theorem bI_ite' {P : Prop} [Decidable P] : (if P then some (0 : Int32) else some 1) = some (bI (!decide P)) := by
  by_cases h : P
  · rw [if_pos h, decide_eq_true h]
    rfl
  · rw [if_neg h, decide_eq_false h]
    rfl
/-- from 0 and below n -/
def rg (n : Nat) (x : Int32) : Bool := decide (¬ x < 0 ∧ x < nI n)
theorem rg_iff {x : Int32} {n : Nat} (hn : n < 2 ^ 31) : rg n x = true ↔ ∃ k, k < n ∧ x = nI k := by
  unfold rg
  rw [decide_eq_true_eq]
  constructor
  · rintro ⟨h1, h2⟩
    obtain ⟨j, hj, rfl⟩ := nI_of h1
    exact ⟨j, (nI_ltI hj hn).mp h2, rfl⟩
  · rintro ⟨k, hk, rfl⟩
    exact ⟨nI_pos (by omega), nI_lt hk hn⟩
theorem rg_nI {k n : Nat} (h : k < n) (hn : n < 2 ^ 31) : rg n (nI k) = true := (rg_iff hn).mpr ⟨k, h, rfl⟩
theorem rg_6 (n : Nat) : rg n (-6) = false := by
  unfold rg
  exact decide_eq_false (fun z => z.1 (by decide))
theorem rg_of {x : Int32} {n : Nat} : (if x < 0 then some (0 : Int32) else if x < nI n then some 1 else some 0) = some (bI (rg n x)) := by
  unfold rg
  by_cases h1 : x < 0
  · rw [if_pos h1, decide_eq_false (fun z => z.1 h1)]
    rfl
  · rw [if_neg h1, bI_ite]
    congr 2
    by_cases h2 : x < nI n
    · rw [decide_eq_true h2, decide_eq_true ⟨h1, h2⟩]
    · rw [decide_eq_false h2, decide_eq_false (fun z => h2 z.2)]
theorem c_isPerson (x : Int32) (M : xM) : f_X6_isPerson x M = some (bI (rg 20 x)) := by
  unfold f_X6_isPerson
  rw [nar_0, nar_1]
  exact rg_of
theorem c_isShed (x : Int32) (M : xM) : f_X6_isShed x M = some (bI (rg 3 x)) := by
  unfold f_X6_isShed
  rw [nar_0, nar_1]
  exact rg_of
theorem c_isRack (x : Int32) (M : xM) : f_X6_isRack x M = some (bI (rg 8 x)) := by
  unfold f_X6_isRack
  rw [nar_0, nar_1]
  exact rg_of
theorem c_isFrom (a x b : Int32) (M : xM) : f_X6_isFrom a x b M = some (bI (!decide (x < a) && !decide (b < x))) := by
  unfold f_X6_isFrom
  rw [nar_0, nar_1]
  by_cases h1 : x < a
  · rw [if_pos h1, decide_eq_true h1]
    rfl
  · rw [if_neg h1, bI_ite', decide_eq_false h1]
    rfl
/-! what the class asks of a person in a state -/
theorem c_isInRack {r p : Nat} {M : xM} (hp : p < 20) : f_X0_isInRack r (nI p) M = some (bI (!decide (M.1 r 19 p = -6))) := by
  unfold f_X0_isInRack
  rw [nar_0, nar_1, if_pos (in_nI hp (by omega)), cl_nI (by omega), bI_ite']
theorem c_isTagged {r p : Nat} {M : xM} (hp : p < 20) : f_X0_isTagged r (nI p) M = some (bI (!decide (M.1 r 22 p = -6))) := by
  unfold f_X0_isTagged
  rw [nar_0, nar_1, if_pos (in_nI hp (by omega)), cl_nI (by omega), bI_ite']
theorem c_isInPound {r p : Nat} {M : xM} (hp : p < 20) : f_X0_isInPound r (nI p) M = some (bI (!decide (M.1 r 23 p = -6))) := by
  unfold f_X0_isInPound
  rw [nar_0, nar_1, if_pos (in_nI hp (by omega)), cl_nI (by omega), bI_ite']
theorem c_hasPermit {r p : Nat} {M : xM} (hp : p < 20) : f_X4_hasPermit r (nI p) M = some (bI (rg 3 (M.1 r 4 p))) := by
  unfold f_X4_hasPermit
  rw [if_pos (in_nI hp (by omega)), cl_nI (by omega), c_isShed]
  show some (vp_nar .boolean (bI _)) = _
  rw [bI_nar]
theorem c_waitsFor {r p sh : Nat} {M : xM} (hp : p < 20) (hs : sh < 3) : f_X4_waitsFor r (nI p) (nI sh) M = some (bI (!decide (M.1 r (7 + sh) p = -6))) := by
  unfold f_X4_waitsFor
  rw [nar_0, nar_1, if_pos (in_nI hs (by omega)), if_pos (in_nI hp (by omega)), cl_nI (by omega), cl_nI (by omega), bI_ite']
theorem c_isWithoutPermit {r p : Nat} {M : xM} (hp : p < 20) : f_X5_isWithoutPermit r (nI p) M = some (bI (!decide (M.1 r 4 p = M.1 r 19 p))) := by
  unfold f_X5_isWithoutPermit
  rw [nar_0, nar_1, if_pos (in_nI hp (by omega)), if_pos (in_nI hp (by omega)), cl_nI (by omega), bI_ite']
theorem c_looksAbandoned {r p : Nat} {M : xM} (hp : p < 20) : f_X5_looksAbandoned r (nI p) M = some (bI (!decide (M.1 r 0 4 - M.1 r 21 p < M.1 r 1 1) || !decide (M.1 r 4 p = M.1 r 19 p))) := by
  unfold f_X5_looksAbandoned
  rw [nar_0, nar_1, if_pos (in_nI hp (by omega)), cl_nI (by omega), c_isWithoutPermit hp]
  show (if _ then (if bI _ = 0 then _ else _) else _) = _
  rw [ite_bI]
  by_cases h : M.1 r 0 4 - M.1 r 21 p < M.1 r 1 1
  · rw [if_pos h, bI_ite, decide_eq_true h]
    simp
  · rw [if_neg h, decide_eq_false h]
    rfl
theorem c_isDue {r p : Nat} {sh lt : Int32} {M : xM} (hp : p < 20) : f_X0_isDue r (nI p) sh lt M = some (bI (decide (M.1 r 19 p = sh) && (!decide (M.1 r 22 p = -6) && !decide (lt < M.1 r 22 p)))) := by
  unfold f_X0_isDue
  rw [nar_0, nar_1, if_pos (in_nI hp (by omega)), cl_nI (by omega), c_isTagged hp]
  show (if _ then (if bI _ = 0 then _ else _) else _) = _
  rw [ite_bI, if_pos (in_nI hp (by omega))]
  by_cases h : M.1 r 19 p = sh
  · rw [if_pos h, decide_eq_true h, bI_ite']
    by_cases h2 : M.1 r 22 p = -6
    · rw [decide_eq_true h2]
      rfl
    · rw [decide_eq_false h2]
      rfl
  · rw [if_neg h, decide_eq_false h]
    rfl
