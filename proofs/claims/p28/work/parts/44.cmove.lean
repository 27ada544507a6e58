/-! permits given, people moving up, in the class -/
def rmv (p : Nat) : List Nat → List Nat
  | [] => []
  | x :: r => if x = p then r else x :: rmv p r
theorem rmv_out {p : Nat} : ∀ {l : List Nat}, p ∉ l → rmv p l = l
  | [], _ => rfl
  | x :: r, h => by
    have h1 : ¬ x = p := fun e => h (by rw [e]; exact List.mem_cons_self)
    show (if x = p then r else x :: rmv p r) = _
    rw [if_neg h1, rmv_out (fun z => h (List.mem_cons_of_mem _ z))]
theorem rmv_in {p : Nat} : ∀ {l : List Nat} {i : Nat}, l.Nodup → l[i]? = some p → rmv p l = l.eraseIdx i
  | [], i, _, h => by cases i <;> cases h
  | x :: r, 0, _, h => if_pos (Option.some.inj h)
  | x :: r, i + 1, hn, h => by
    rw [List.nodup_cons] at hn
    have h1 : ¬ x = p := fun e => by
      subst e
      exact hn.1 (List.mem_of_getElem? (show r[i]? = some x from h))
    show (if x = p then r else x :: rmv p r) = x :: r.eraseIdx i
    rw [if_neg h1, rmv_in hn.2 (show r[i]? = some p from h)]
theorem rowRel.rmv {row : Nat → Int32} {l : List Nat} (h : rowRel row l) {p : Nat} (hp : p < 20) : rowRel (lvRow p row) (rmv p l) := by
  by_cases hm : p ∈ l
  · obtain ⟨i, hi⟩ := List.getElem?_of_mem hm
    rw [rmv_in h.1 hi]
    exact h.leave_in hi
  · rw [rmv_out hm]
    exact h.leave_out hp hm
def cW (σ : Nat → Nat → Int32) (W : Nat → List Nat) : Prop := ∀ sh, sh < 3 → rowRel (σ (7 + sh)) (W sh)
theorem zLv_row (p : Nat) (σ : Nat → Nat → Int32) {sh : Nat} (hs : sh < 3) : zLv p σ 3 (7 + sh) = lvRow p (σ (7 + sh)) := by
  funext j
  exact if_pos (by omega)
theorem cW.leave {σ : Nat → Nat → Int32} {W : Nat → List Nat} (h : cW σ W) {p : Nat} (hp : p < 20) : cW (zLv p σ 3) (fun sh => rmv p (W sh)) := by
  intro sh hs
  rw [zLv_row p σ hs]
  exact (h sh hs).rmv hp
def zGive (p : Nat) (sh d dy : Int32) (σ : Nat → Nat → Int32) : Nat → Nat → Int32 := zLv p (ud (ud (ud σ 4 p sh) 5 p ((dy + d) - 1)) 3 5 (σ 3 5 + 1)) 3
theorem zPre_row (p : Nat) (sh d dy : Int32) (σ : Nat → Nat → Int32) {s : Nat} : ud (ud (ud σ 4 p sh) 5 p ((dy + d) - 1)) 3 5 (σ 3 5 + 1) (7 + s) = σ (7 + s) := by
  funext j
  rw [ud_ne _ _ (by omega), ud_ne _ _ (by omega), ud_ne _ _ (by omega)]
theorem cW.give {σ : Nat → Nat → Int32} {W : Nat → List Nat} (h : cW σ W) {p : Nat} (hp : p < 20) (sh d dy : Int32) : cW (zGive p sh d dy σ) (fun s => rmv p (W s)) := by
  refine cW.leave (fun s hs => ?_) hp
  rw [zPre_row]
  exact h s hs
theorem c_give {r p : Nat} {sh d dy : Int32} {M : xM} {W : Nat → List Nat} (hp : p < 20) (hW : cW (M.1 r) W) : f_X4_give r (nI p) sh d dy M = some (put M r (zGive p sh d dy (M.1 r))) := by
  unfold f_X4_give
  simp only [in_nI hp (by omega), if_true, cl_nI (show p < 2 ^ 31 by omega), up_put, put_get, put_put]
  rw [ud_ne _ _ (by omega), ud_ne _ _ (by omega)]
  rw [c_leaveLists hp (fun s hs => by
    rw [put_get, zPre_row]
    exact (hW s hs).ok hp)]
  rw [put_get, put_put]
  rfl
/-- one person moves up, if there is one -/
def zSt (sh : Nat) (q : (Nat → Nat → Int32) × (Nat → List Nat)) : (Nat → Nat → Int32) × (Nat → List Nat) := match q.2 sh with
  | [] => q
  | x :: _ => (zGive x (nI sh) (q.1 (11 + sh) x) (q.1 0 4) q.1, fun s => rmv x (q.2 s))
def zMv (sh : Nat) : Nat → (Nat → Nat → Int32) × (Nat → List Nat) → (Nat → Nat → Int32) × (Nat → List Nat)
  | 0, q => q
  | n + 1, q => zSt sh (zMv sh n q)
theorem zSt_W {sh : Nat} {q : (Nat → Nat → Int32) × (Nat → List Nat)} (hs : sh < 3) (h : cW q.1 q.2) : cW (zSt sh q).1 (zSt sh q).2 := by
  unfold zSt
  split
  · exact h
  · next x r e =>
    refine cW.give h ?_ _ _ _
    exact (h sh hs).2.1 x (by rw [e]; exact List.mem_cons_self)
theorem zMv_W {sh : Nat} {q : (Nat → Nat → Int32) × (Nat → List Nat)} (hs : sh < 3) (h : cW q.1 q.2) : ∀ n, cW (zMv sh n q).1 (zMv sh n q).2
  | 0 => h
  | n + 1 => zSt_W hs (zMv_W hs h n)
def pcnt (u : Nat) : Nat := cnt (fun k => u.testBit k) 8
set_option maxRecDepth 100000 in
theorem c_bits0 : ∀ u, u < 256 → f_J6_bitCount_0f7a4 (nI u) xs_M0 = some (nI (pcnt u)) := by decide +kernel
theorem c_bits {u : Nat} (M : xM) (hu : u < 256) : f_J6_bitCount_0f7a4 (nI u) M = some (nI (pcnt u)) := c_bits0 u hu
theorem c_permits {r sh u sp : Nat} {M : xM} (hs : sh < 3) (hu : u < 256) (h1 : M.1 r 2 sh = nI u) (h2 : M.1 r 1 0 = nI sp) : f_X5_permitsToGive r (nI sh) M = some (nI (pcnt u + sp)) := by
  unfold f_X5_permitsToGive
  rw [if_pos (in_nI hs (by omega)), cl_nI (by omega), h1, h2, c_bits M hu]
  simp only [Option.bind_some, nI_add]
theorem c_moveShed {r sh n : Nat} {M : xM} {W : Nat → List Nat} {free : Int32} (hs : sh < 3) (hW : cW (M.1 r) W) (hn : n ≤ 100) (hf : ∀ k, k ≤ n → (nI k < free ↔ k < n)) : xlp (f_X5_moveUp_l24_2 r (nI sh) free) 4000 (0, M) = some (.inl (nI (sh + 1), put M r (zMv sh n (M.1 r, W)).1)) := by
  have := xlp_for (body := f_X5_moveUp_l24_2 r (nI sh) free) (q := (.inl (nI (sh + 1), put M r (zMv sh n (M.1 r, W)).1))) (f := fun k => (nI k, put M r (zMv sh k (M.1 r, W)).1)) n 4000 (by omega) (fun k hk => ?_) ?_
  · have e : put M r (zMv sh 0 (M.1 r, W)).1 = M := put_self M r
    rw [e] at this
    exact this
  · have hk1 := (hf k (by omega)).mpr hk
    have hWk := zMv_W (q := (M.1 r, W)) hs hW k
    unfold f_X5_moveUp_l24_2
    rw [if_pos hk1]
    generalize hq : zMv sh k (M.1 r, W) = q at hWk ⊢
    have hnext : zMv sh (k + 1) (M.1 r, W) = zSt sh q := by rw [← hq]; rfl
    rw [hnext]
    have hrow := hWk sh hs
    unfold zSt
    cases hl : q.2 sh with
    | nil =>
      rw [hl] at hrow
      rw [c_who_none hs (fun p hp => by
        left
        rw [put_get]
        exact (hrow.out hp).mpr List.not_mem_nil)]
      simp only [Option.bind_some, c_isPerson, rg_6, ite_bI, up_1]
      rfl
    | cons x l =>
      rw [hl] at hrow
      have hx : x < 20 := hrow.2.1 x List.mem_cons_self
      have hx0 : q.1 (7 + sh) x = nI 0 := hrow.at (k := 0) rfl
      rw [c_who_some (p := x) hx hs (by decide) (by rw [put_get]; exact hx0) (fun p hp => by
        rw [put_get]
        intro e
        rcases hrow.2.2 p (by omega) with ⟨-, z⟩ | ⟨k', z1, z2⟩
        · rw [z] at e
          exact absurd e (by decide)
        · rw [z2] at e
          have hk' : k' = 0 := (nI_eq (by have := (hrow.lt z1).1; omega) (by omega)).mp e
          subst hk'
          have : x = p := Option.some.inj z1
          omega)]
      have hg := c_give (r := r) (p := x) (sh := nI sh) (d := q.1 (11 + sh) x) (dy := q.1 0 4) (M := put M r q.1) (W := q.2) hx (by rw [put_get]; exact hWk)
      simp only [Option.bind_some, c_isPerson, rg_nI hx (show 20 < 2 ^ 31 by omega), ite_bI, if_true, up_1, in_nI hs (show 3 < 2 ^ 31 by omega), in_nI hx (show 20 < 2 ^ 31 by omega), cl_nI (show sh < 2 ^ 31 by omega), cl_nI (show x < 2 ^ 31 by omega), put_get]
      rw [show 10 + 1 + sh = 11 + sh from rfl, hg]
      simp only [Option.bind_some, put_get, put_put]
  · have : ¬ nI n < free := fun z => by have := (hf n (Nat.le_refl _)).mp z; omega
    unfold f_X5_moveUp_l24_2
    rw [if_neg this, up_1]
    rfl
