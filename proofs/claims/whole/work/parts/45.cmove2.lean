theorem zGive_other {p : Nat} {sh d dy : Int32} {σ : Nat → Nat → Int32} {o j : Nat} (h3 : o ≠ 3) (h4 : o ≠ 4) (h5 : o ≠ 5) (h7 : ¬ (7 ≤ o ∧ o < 10)) : zGive p sh d dy σ o j = σ o j := by
  unfold zGive zLv
  rw [if_neg (by omega), ud_ne _ _ (fun z => h3 z.1), ud_ne _ _ (fun z => h5 z.1), ud_ne _ _ (fun z => h4 z.1)]
theorem zSt_other {sh : Nat} {q : (Nat → Nat → Int32) × (Nat → List Nat)} {o j : Nat} (h3 : o ≠ 3) (h4 : o ≠ 4) (h5 : o ≠ 5) (h7 : ¬ (7 ≤ o ∧ o < 10)) : (zSt sh q).1 o j = q.1 o j := by
  unfold zSt
  split
  · rfl
  · exact zGive_other h3 h4 h5 h7
theorem zMv_other {sh : Nat} {q : (Nat → Nat → Int32) × (Nat → List Nat)} {o j : Nat} (h3 : o ≠ 3) (h4 : o ≠ 4) (h5 : o ≠ 5) (h7 : ¬ (7 ≤ o ∧ o < 10)) : ∀ n, (zMv sh n q).1 o j = q.1 o j
  | 0 => rfl
  | n + 1 => (zSt_other h3 h4 h5 h7).trans (zMv_other h3 h4 h5 h7 n)
/-- how many of a shed's permits are free -/
def zFr (U : Nat → Nat) (sp sh : Nat) (σ : Nat → Nat → Int32) : Nat := (pcnt (U sh) + sp) - cnt (fun p => decide (σ 4 p = nI sh)) 20
def zUp (U : Nat → Nat) (sp : Nat) : Nat → (Nat → Nat → Int32) × (Nat → List Nat) → (Nat → Nat → Int32) × (Nat → List Nat)
  | 0, q => q
  | k + 1, q => zMv k (zFr U sp k (zUp U sp k q).1) (zUp U sp k q)
theorem zUp_other {U : Nat → Nat} {sp : Nat} {q : (Nat → Nat → Int32) × (Nat → List Nat)} {o j : Nat} (h3 : o ≠ 3) (h4 : o ≠ 4) (h5 : o ≠ 5) (h7 : ¬ (7 ≤ o ∧ o < 10)) : ∀ n, (zUp U sp n q).1 o j = q.1 o j
  | 0 => rfl
  | n + 1 => (zMv_other h3 h4 h5 h7 _).trans (zUp_other h3 h4 h5 h7 n)
theorem zUp_W {U : Nat → Nat} {sp : Nat} {q : (Nat → Nat → Int32) × (Nat → List Nat)} (h : cW q.1 q.2) : ∀ n, n ≤ 3 → cW (zUp U sp n q).1 (zUp U sp n q).2
  | 0, _ => h
  | n + 1, hn => zMv_W (by omega) (zUp_W h n (by omega)) _
set_option maxRecDepth 100000 in
theorem free_lt : ∀ a, a < 14 → ∀ c, c < 21 → ∀ k, k < 14 → k ≤ a - c → decide (nI k < nI a - nI c) = decide (k < a - c) := by decide +kernel
theorem pcnt_le (u : Nat) : pcnt u ≤ 8 := cnt_le _ 8
/-- what is fixed while people move: settings and racks -/
def cU (σ : Nat → Nat → Int32) (U : Nat → Nat) (sp : Nat) : Prop := σ 1 0 = nI sp ∧ sp ≤ 5 ∧ ∀ sh, sh < 3 → U sh < 256 ∧ σ 2 sh = nI (U sh)
theorem c_moveUp {r sp : Nat} {M : xM} {W : Nat → List Nat} {U : Nat → Nat} (hW : cW (M.1 r) W) (hU : cU (M.1 r) U sp) : f_X5_moveUp r M = some (put M r (zUp U sp 3 (M.1 r, W)).1) := by
  unfold f_X5_moveUp
  have := xlp_for (body := f_X5_moveUp_l2 r) (q := put M r (zUp U sp 3 (M.1 r, W)).1) (f := fun k => (nI k, put M r (zUp U sp k (M.1 r, W)).1)) 3 4000 (by omega) (fun k hk => ?_) rfl
  · have e : put M r (zUp U sp 0 (M.1 r, W)).1 = M := put_self M r
    rw [e] at this
    exact this
  · have hWk := zUp_W (U := U) (sp := sp) (q := (M.1 r, W)) hW k (by omega)
    have e1 : (zUp U sp k (M.1 r, W)).1 1 0 = nI sp := (zUp_other (by omega) (by omega) (by omega) (by omega) k).trans hU.1
    have e2 : (zUp U sp k (M.1 r, W)).1 2 k = nI (U k) := (zUp_other (by omega) (by omega) (by omega) (by omega) k).trans (hU.2.2 k hk).2
    have hnext : zUp U sp (k + 1) (M.1 r, W) = zMv k (zFr U sp k (zUp U sp k (M.1 r, W)).1) (zUp U sp k (M.1 r, W)) := rfl
    rw [hnext]
    generalize zUp U sp k (M.1 r, W) = q at hWk e1 e2 ⊢
    unfold f_X5_moveUp_l2
    have hp := c_permits (r := r) (M := put M r q.1) hk (hU.2.2 k hk).1 (by rw [put_get]; exact e2) (by rw [put_get]; exact e1)
    have ha : pcnt (U k) + sp < 14 := by
      have := pcnt_le (U k)
      have := hU.2.1
      omega
    have hc : cnt (fun p => decide (q.1 4 p = nI k)) 20 < 21 := by
      have := cnt_le (fun p => decide (q.1 4 p = nI k)) 20
      omega
    have hm := c_moveShed (r := r) (sh := k) (n := zFr U sp k q.1) (M := put M r q.1) (W := q.2) (free := nI (pcnt (U k) + sp) - nI (cnt (fun p => decide (q.1 4 p = nI k)) 20)) hk (by rw [put_get]; exact hWk) (by unfold zFr; omega) (fun j hj => by
      have := free_lt _ ha _ hc j (by unfold zFr at hj; omega) hj
      exact decide_eq_decide.mp this)
    simp only [show (3 : Int32) = nI 3 from rfl, lt_nI hk (by omega), if_true, hp, Option.bind_some, c_countOf, put_get]
    rw [hm, put_get, put_put]
/-- a day begins -/
def zDay (U : Nat → Nat) (sp : Nat) (q : (Nat → Nat → Int32) × (Nat → List Nat)) : (Nat → Nat → Int32) × (Nat → List Nat) :=
  let d := q.1 0 4 + 1
  let σ1 := ud q.1 0 4 d
  let σ2 := pm σ1 (zEnd d σ1) 20
  let σ3 := pm σ2 (zSell (d - q.1 1 3) σ2) 20
  zUp U sp 3 (σ3, q.2)
