theorem zGive_other {p : Nat} {sh d dy : Int32} {σ : Nat → Nat → Int32} {o j : Nat} (h3 : o ≠ 3) (h4 : o ≠ 4) (h5 : o ≠ 5) (h7 : ¬ (7 ≤ o ∧ o < 10)) : zGive p sh d dy σ o j = σ o j := by
  unfold zGive zLv
  rw [if_neg (by omega), ud_ne _ _ (fun z => h3 z.1), ud_ne _ _ (fun z => h5 z.1), ud_ne _ _ (fun z => h4 z.1)]
theorem zSt_other {sh : Nat} {q : (Nat → Nat → Int32) × (Nat → List Nat)} {o j : Nat} (h3 : o ≠ 3) (h4 : o ≠ 4) (h5 : o ≠ 5) (h7 : ¬ (7 ≤ o ∧ o < 10)) : (zSt sh q).1 o j = q.1 o j := by
  unfold zSt
  split
  · rfl
  · exact zGive_other h3 h4 h5 h7
theorem zMv_other {sh : Nat} {q : (Nat → Nat → Int32) × (Nat → List Nat)} {o j : Nat} (h3 : o ≠ 3) (h4 : o ≠ 4) (h5 : o ≠ 5) (h7 : ¬ (7 ≤ o ∧ o < 10)) : ∀ n, (zMv sh n q).1 o j = q.1 o j
  | 0 => rfl
  | n + 1 => (zSt_other h3 h4 h5 h7).trans (zMv_other h3 h4 h5 h7 n)
/-- how many of a shed's permits are free -/
def zFr (U : Nat → Nat) (sp sh : Nat) (σ : Nat → Nat → Int32) : Nat := (pcnt (U sh) + sp) - cnt (fun p => decide (σ 4 p = nI sh)) 20
def zUp (U : Nat → Nat) (sp : Nat) : Nat → (Nat → Nat → Int32) × (Nat → List Nat) → (Nat → Nat → Int32) × (Nat → List Nat)
  | 0, q => q
  | k + 1, q => zMv k (zFr U sp k (zUp U sp k q).1) (zUp U sp k q)
theorem zUp_other {U : Nat → Nat} {sp : Nat} {q : (Nat → Nat → Int32) × (Nat → List Nat)} {o j : Nat} (h3 : o ≠ 3) (h4 : o ≠ 4) (h5 : o ≠ 5) (h7 : ¬ (7 ≤ o ∧ o < 10)) : ∀ n, (zUp U sp n q).1 o j = q.1 o j
  | 0 => rfl
  | n + 1 => (zMv_other h3 h4 h5 h7 _).trans (zUp_other h3 h4 h5 h7 n)
theorem zUp_W {U : Nat → Nat} {sp : Nat} {q : (Nat → Nat → Int32) × (Nat → List Nat)} (h : cW q.1 q.2) : ∀ n, n ≤ 3 → cW (zUp U sp n q).1 (zUp U sp n q).2
  | 0, _ => h
  | n + 1, hn => zMv_W (by omega) (zUp_W h n (by omega)) _
set_option maxRecDepth 100000 in
theorem free_lt : ∀ a, a < 14 → ∀ c, c < 21 → ∀ k, k < 14 → k ≤ a - c → decide (nI k < nI a - nI c) = decide (k < a - c) := by decide +kernel
theorem pcnt_le (u : Nat) : pcnt u ≤ 8 := cnt_le _ 8
/-- what is fixed while people move: settings and racks -/
def cU (σ : Nat → Nat → Int32) (U : Nat → Nat) (sp : Nat) : Prop := σ 1 0 = nI sp ∧ sp ≤ 5 ∧ ∀ sh, sh < 3 → U sh < 256 ∧ σ 2 sh = nI (U sh)
theorem c_moveUp {r sp : Nat} {M : xM} {W : Nat → List Nat} {U : Nat → Nat} (hW : cW (M.1 r) W) (hU : cU (M.1 r) U sp) : f_X5_moveUp r M = some (put M r (zUp U sp 3 (M.1 r, W)).1) := by
  unfold f_X5_moveUp
  have := xlp_for (body := f_X5_moveUp_l2 r) (q := put M r (zUp U sp 3 (M.1 r, W)).1) (f := fun k => (nI k, put M r (zUp U sp k (M.1 r, W)).1)) 3 4000 (by omega) (fun k hk => ?_) rfl
  · have e : put M r (zUp U sp 0 (M.1 r, W)).1 = M := put_self M r
    rw [e] at this
    exact this
  · have hWk := zUp_W (U := U) (sp := sp) (q := (M.1 r, W)) hW k (by omega)
    have e1 : (zUp U sp k (M.1 r, W)).1 1 0 = nI sp := (zUp_other (by omega) (by omega) (by omega) (by omega) k).trans hU.1
    have e2 : (zUp U sp k (M.1 r, W)).1 2 k = nI (U k) := (zUp_other (by omega) (by omega) (by omega) (by omega) k).trans (hU.2.2 k hk).2
    have hnext : zUp U sp (k + 1) (M.1 r, W) = zMv k (zFr U sp k (zUp U sp k (M.1 r, W)).1) (zUp U sp k (M.1 r, W)) := rfl
    rw [hnext]
    generalize zUp U sp k (M.1 r, W) = q at hWk e1 e2 ⊢
    unfold f_X5_moveUp_l2
    have hp := c_permits (r := r) (M := put M r q.1) hk (hU.2.2 k hk).1 (by rw [put_get]; exact e2) (by rw [put_get]; exact e1)
    have ha : pcnt (U k) + sp < 14 := by
      have := pcnt_le (U k)
      have := hU.2.1
      omega
    have hc : cnt (fun p => decide (q.1 4 p = nI k)) 20 < 21 := by
      have := cnt_le (fun p => decide (q.1 4 p = nI k)) 20
      omega
    have hm := c_moveShed (r := r) (sh := k) (n := zFr U sp k q.1) (M := put M r q.1) (W := q.2) (free := nI (pcnt (U k) + sp) - nI (cnt (fun p => decide (q.1 4 p = nI k)) 20)) hk (by rw [put_get]; exact hWk) (by unfold zFr; omega) (fun j hj => by
      have := free_lt _ ha _ hc j (by unfold zFr at hj; omega) hj
      exact decide_eq_decide.mp this)
    simp only [show (3 : Int32) = nI 3 from rfl, lt_nI hk (by omega), if_true, hp, Option.bind_some, c_countOf, put_get]
    rw [hm, put_get, put_put]
/-- a day begins -/
def zDay (U : Nat → Nat) (sp : Nat) (q : (Nat → Nat → Int32) × (Nat → List Nat)) : (Nat → Nat → Int32) × (Nat → List Nat) :=
  let d := q.1 0 4 + 1
  let σ1 := ud q.1 0 4 d
  let σ2 := pm σ1 (zEnd d σ1) 20
  let σ3 := pm σ2 (zSell (d - q.1 1 3) σ2) 20
  zUp U sp 3 (σ3, q.2)
theorem zEnd_other {d : Int32} {σ : Nat → Nat → Int32} {o j : Nat} (h4 : o ≠ 4) (h5 : o ≠ 5) : zEnd d σ o j = σ o j := if_neg (fun z => by rcases z.1 with z | z; exact h4 z; exact h5 z)
theorem zSell_other {d : Int32} {σ : Nat → Nat → Int32} {o j : Nat} (h3 : o ≠ 23) (h4 : o ≠ 24) : zSell d σ o j = σ o j := by
  unfold zSell
  rw [if_neg h3, if_neg h4]
  split <;> rfl
/-- the state as a day begins, before people move -/
def zDay0 (σ : Nat → Nat → Int32) : Nat → Nat → Int32 :=
  let d := σ 0 4 + 1
  let σ1 := ud σ 0 4 d
  let σ2 := pm σ1 (zEnd d σ1) 20
  pm σ2 (zSell (d - σ 1 3) σ2) 20
theorem zDay0_other {σ : Nat → Nat → Int32} {o j : Nat} (h0 : ¬ (o = 0 ∧ j = 4)) (h4 : o ≠ 4) (h5 : o ≠ 5) (h6 : o ≠ 23) (h7 : o ≠ 24) : zDay0 σ o j = σ o j := by
  unfold zDay0
  rw [pm_same (zSell_other h6 h7), pm_same (zEnd_other h4 h5), ud_ne _ _ h0]
theorem zDay_eq (U : Nat → Nat) (sp : Nat) (q : (Nat → Nat → Int32) × (Nat → List Nat)) : zDay U sp q = zUp U sp 3 (zDay0 q.1, q.2) := rfl
theorem cW.congr {σ τ : Nat → Nat → Int32} {W : Nat → List Nat} (h : cW σ W) (e : ∀ o j, 7 ≤ o → o < 10 → τ o j = σ o j) : cW τ W := by
  intro sh hs
  have : τ (7 + sh) = σ (7 + sh) := by
    funext j
    exact e _ _ (by omega) (by omega)
  rw [this]
  exact h sh hs
theorem cU.congr {σ τ : Nat → Nat → Int32} {U : Nat → Nat} {sp : Nat} (h : cU σ U sp) (e1 : ∀ j, τ 1 j = σ 1 j) (e2 : ∀ j, τ 2 j = σ 2 j) : cU τ U sp := ⟨(e1 0).trans h.1, h.2.1, fun sh hs => ⟨(h.2.2 sh hs).1, (e2 sh).trans (h.2.2 sh hs).2⟩⟩
theorem c_beginDay {r sp : Nat} {M : xM} {W : Nat → List Nat} {U : Nat → Nat} (hW : cW (M.1 r) W) (hU : cU (M.1 r) U sp) : f_X5_beginDay r M = some (put M r (zDay U sp (M.1 r, W)).1) := by
  unfold f_X5_beginDay
  have hW0 : cW (zDay0 (M.1 r)) W := hW.congr (fun o j h1 h2 => zDay0_other (by omega) (by omega) (by omega) (by omega) (by omega))
  have hU0 : cU (zDay0 (M.1 r)) U sp := hU.congr (fun j => zDay0_other (by omega) (by omega) (by omega) (by omega) (by omega)) (fun j => zDay0_other (by omega) (by omega) (by omega) (by omega) (by omega))
  have hm := c_moveUp (r := r) (M := put M r (zDay0 (M.1 r))) (W := W) (U := U) (sp := sp) (by rw [put_get]; exact hW0) (by rw [put_get]; exact hU0)
  rw [put_get, put_put] at hm
  have ed : pm (ud (M.1 r) 0 4 (M.1 r 0 4 + 1)) (zEnd (M.1 r 0 4 + 1) (ud (M.1 r) 0 4 (M.1 r 0 4 + 1))) 20 0 4 = M.1 r 0 4 + 1 := (pm_same (zEnd_other (by omega) (by omega))).trans (ud_eq _ _ _ _)
  have ek : pm (ud (M.1 r) 0 4 (M.1 r 0 4 + 1)) (zEnd (M.1 r 0 4 + 1) (ud (M.1 r) 0 4 (M.1 r 0 4 + 1))) 20 1 3 = M.1 r 1 3 := (pm_same (zEnd_other (by omega) (by omega))).trans (ud_ne _ _ (by omega))
  simp only [up_put, put_get, ud_eq, c_endBefore, put_put, Option.bind_some, c_sell, ed, ek]
  have e0 : pm (pm (ud (M.1 r) 0 4 (M.1 r 0 4 + 1)) (zEnd (M.1 r 0 4 + 1) (ud (M.1 r) 0 4 (M.1 r 0 4 + 1))) 20) (zSell (M.1 r 0 4 + 1 - M.1 r 1 3) (pm (ud (M.1 r) 0 4 (M.1 r 0 4 + 1)) (zEnd (M.1 r 0 4 + 1) (ud (M.1 r) 0 4 (M.1 r 0 4 + 1))) 20)) 20 = zDay0 (M.1 r) := rfl
  rw [e0, hm]
  rfl
def zDays (U : Nat → Nat) (sp : Nat) : Nat → (Nat → Nat → Int32) × (Nat → List Nat) → (Nat → Nat → Int32) × (Nat → List Nat)
  | 0, q => q
  | n + 1, q => zDay U sp (zDays U sp n q)
theorem zDay_W {U : Nat → Nat} {sp : Nat} {q : (Nat → Nat → Int32) × (Nat → List Nat)} (h : cW q.1 q.2) : cW (zDay U sp q).1 (zDay U sp q).2 := by
  rw [zDay_eq]
  exact zUp_W (q := (zDay0 q.1, q.2)) (h.congr (fun o j h1 h2 => zDay0_other (by omega) (by omega) (by omega) (by omega) (by omega))) 3 (Nat.le_refl _)
theorem zDay_other {U : Nat → Nat} {sp : Nat} {q : (Nat → Nat → Int32) × (Nat → List Nat)} {o j : Nat} (h0 : ¬ (o = 0 ∧ j = 4)) (h3 : o ≠ 3) (h4 : o ≠ 4) (h5 : o ≠ 5) (h6 : o ≠ 23) (h7 : o ≠ 24) (h8 : ¬ (7 ≤ o ∧ o < 10)) : (zDay U sp q).1 o j = q.1 o j := by
  rw [zDay_eq, zUp_other h3 h4 h5 h8]
  exact zDay0_other h0 h4 h5 h6 h7
theorem zDay_U {U : Nat → Nat} {sp : Nat} {q : (Nat → Nat → Int32) × (Nat → List Nat)} (h : cU q.1 U sp) : cU (zDay U sp q).1 U sp := h.congr (fun j => zDay_other (by omega) (by omega) (by omega) (by omega) (by omega) (by omega) (by omega)) (fun j => zDay_other (by omega) (by omega) (by omega) (by omega) (by omega) (by omega) (by omega))
theorem zDays_WU {U : Nat → Nat} {sp : Nat} {q : (Nat → Nat → Int32) × (Nat → List Nat)} (h : cW q.1 q.2) (hU : cU q.1 U sp) : ∀ n, cW (zDays U sp n q).1 (zDays U sp n q).2 ∧ cU (zDays U sp n q).1 U sp
  | 0 => ⟨h, hU⟩
  | n + 1 => ⟨zDay_W (zDays_WU h hU n).1, zDay_U (zDays_WU h hU n).2⟩
