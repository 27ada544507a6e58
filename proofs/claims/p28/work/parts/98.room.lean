/-! the room that the law takes -/
theorem szs_le : ∀ h : xh, (∀ (k : Nat) (c : xc), h[k]? = some c → xp_sz c ≤ 3540) → xp_szs h ≤ 3540 * h.length
  | [], _ => Nat.le_refl _
  | c :: r, h => by
    have h1 := h 0 c rfl
    have h2 := szs_le r (fun k c' hk => h (k + 1) c' hk)
    show xp_sz c + xp_szs r ≤ 3540 * (r.length + 1)
    omega
theorem arr_sz : ∀ (k t n : Nat), xd_arr k = some (t, n) → n ≤ 3540 := by
  intro k t n h
  unfold xd_arr at h
  split at h <;> cases h <;> omega
theorem xp_n_le : ∀ k, xp_n k ≤ 10 := by
  intro k
  unfold xp_n
  split <;> omega
theorem cell_sz (m : Nat → Nat → Nat → Int32) (k r o : Nat) : xp_sz (xd_cell m k r o) ≤ 3540 := by
  unfold xd_cell
  cases ha : xd_arr k with
  | some q =>
    obtain ⟨t, n⟩ := q
    show ((List.range n).map (m r o)).length ≤ 3540
    rw [List.length_map, List.length_range]
    exact arr_sz k t n ha
  | none =>
    dsimp only
    split
    · show ((List.range 3).map _).length ≤ 3540
      rw [List.length_map, List.length_range]
      omega
    · show ((List.range 6).map _).length ≤ 3540
      rw [List.length_map, List.length_range]
      omega
    · show ((List.range 2).map _).length ≤ 3540
      rw [List.length_map, List.length_range]
      omega
    · show ((List.range (xp_n _)).map _).length ≤ 3540
      rw [List.length_map, List.length_range]
      have := xp_n_le (xd_cls k)
      omega
theorem R_small {M : xM} {h : xh} (hR : xd_R M h) : ∀ (k : Nat) (c : xc), h[k]? = some c → xp_sz c ≤ 3540 := by
  obtain ⟨h7, -, hl, hk, -, -⟩ := hR
  intro k c hc
  have hlt : k < h.length := (List.getElem?_eq_some_iff.mp hc).1
  have fin : ∀ r o kd, xd_k M.2 r o kd → xd_rb r + o = k → xp_sz c ≤ 3540 := by
    intro r o kd h1 h2
    have := hk r o kd h1
    rw [h2, hc] at this
    rw [Option.some.inj this]
    exact cell_sz _ _ _ _
  by_cases k0 : k = 0
  · exact fin 5 0 7 (Or.inr (Or.inl ⟨rfl, rfl, Or.inl rfl⟩)) (by rw [k0]; rfl)
  by_cases k1 : k ≤ 25
  · exact fin 2 (k - 1) _ (Or.inl ⟨Or.inl ⟨by omega, by omega⟩, rfl, by omega⟩) (by
      show 1 + (k - 1) = k
      omega)
  by_cases k2 : k ≤ 50
  · exact fin 3 (k - 26) _ (Or.inl ⟨Or.inl ⟨by omega, by omega⟩, rfl, by omega⟩) (by
      show 26 + (k - 26) = k
      omega)
  by_cases k3 : k ≤ 75
  · exact fin 4 (k - 51) _ (Or.inl ⟨Or.inl ⟨by omega, by omega⟩, rfl, by omega⟩) (by
      show 51 + (k - 51) = k
      omega)
  by_cases k4 : k ≤ 81
  · exact fin 5 k _ (Or.inr (Or.inl ⟨rfl, rfl, Or.inr ⟨by omega, k4⟩⟩)) (by
      show 0 + k = k
      omega)
  · have hd : (k - 82) / 25 < M.2 - 7 := by omega
    refine fin (7 + (k - 82) / 25) ((k - 82) % 25) _ (Or.inl ⟨Or.inr ⟨by omega, by omega⟩, rfl, Nat.mod_lt _ (by omega)⟩) ?_
    unfold xd_rb
    rw [if_neg (by omega), if_neg (by omega), if_neg (by omega), if_neg (by omega), if_neg (by omega)]
    omega
theorem Cl.room {M : xM} {h : xh} {σ : Nat → Nat → Int32} {n : Nat} {hh : Nat → Nat → Nat → Int32} {sl : Option (Nat → Nat → Int32)} (c : Cl M σ n hh sl) (hx : xd_R M h) : h.length ≤ 286 ∧ xp_szs h ≤ 1012440 := by
  obtain ⟨R, h1, -⟩ := c
  have hs := h1.sz
  have hl := hx.2.2.1
  have h2 := szs_le h (R_small hx)
  omega
/-! the claim out of one walk of the law's body -/
def R_law : String := "BikeShedsLaw"
def lw_P (b : Addr) (xs : List Int32) (args : Array Value) (s : State) : Prop := args = #[.ref b] ∧ s.IntsAt b xs ∧ xs.length ≤ 260 ∧ (Jvm.Cond.and given_1 narrow_1).before args s = true
def lw_Q (_ : Array Value) (s : State) (o : Outcome) (t : State) : Prop := o = .returned (some (.int 1)) ∧ Framed s o t [] 600000 7302250
def lw_Z (below : List Frame) (a : Array Value) (s : State) : State → Prop := fun t => ∃ o, t.status = .running ∧ Ended t below o ∧ lw_Q a s o t
theorem lw_retx {p : Program} {l : Launch} {e : Env} {s : State} {m : MethodId} {below : List Frame} {meth : Method} {c : Code} {b : Nat} {x : Int32} (hx : p.tables.exec = Jvm.exec) (hb : c.code = code) (hr : meth.sig.returnType = ret) (hlocks : meth.locks = false) (hn : narrow .boolean (.int x) = .int 1) {pc : Nat} {H : Heap} {ls : Array Slot} (hdg : decode code pc = .ok (.ireturn, 1)) : W p l e room_1 s m #[Value.ref b] below meth c H [] 600000 7302250 (lw_Z below #[Value.ref b] s) (F0 m pc ls [.int x]) := by
  intro T hT X
  obtain ⟨fs, hret, hrun, hended, hW, hframe⟩ := X.leave (v := some (.int 1)) (hlocks := hlocks) (fun h => by rw [hr] at h; cases h)
  have hmeth' : T.vm.method? m = some meth := X.method'
  refine ⟨T.setFrames fs, ?_, .returned (some (.int 1)), hrun, hended, rfl, ⟨_, rfl⟩, hW, hframe⟩
  jvm_step X.here [X.here.top, hx, hb, hdg, hmeth', hr, ret, hn]
  (try refine ⟨rfl, ?_⟩); (try refine ⟨rfl, ?_⟩)
  first | (intro acts; rw [hret _ acts rfl rfl rfl]) | rw [hret _ _ rfl rfl rfl]
  exact Steps.refl _
def lw_At (p : Program) (s : State) (m : MethodId) (meth : Method) (c : Code) (b L : Nat) (xs : Nat → Int32) : Prop :=
  p.tables.exec = Jvm.exec ∧ c.code = code ∧ meth.sig.returnType = ret ∧ c.maxLocals = 10 ∧ s.vm.findClass R_law = some m.cls ∧ (∀ w ∈ lw_tbl, w.before #[Value.ref b] s = true) ∧ va_X b L xs s s.heap ∧ b < s.heap.size ∧ meth.locks = false ∧ (Jvm.Cond.and given_1 narrow_1).before #[Value.ref b] s = true
theorem st_first {b : Nat} {s : State} (h : (Jvm.Cond.and given_1 narrow_1).before #[Value.ref b] s = true) : ∃ (a : Nat) (cell : Cell), (Term.static "BikeSheds" "FIRST_VALUES" "[I").eval #[Value.ref b] s none [] s = some (.ref a) ∧ s.heap[a]? = some cell ∧ s.isArrayOf cell .int ∧ cell.vm ≠ .unknown ∧ s.vm.findClass "[I" = some cell.cls ∧ cell.slots.size = 4 ∧ ∀ j, j < 4 → cell.slots[j]? = some (.int (([1, 10, 5, 20] : List Int32).getD j 0)) := by
  have hs := flat_of_before _ h
  refine st_arr (hs _ (by decide +kernel)) (hs _ (by decide +kernel)) (hs _ (by decide +kernel)) (fun j hj => ?_)
  rcases (by omega : j = 0 ∨ j = 1 ∨ j = 2 ∨ j = 3) with rfl | rfl | rfl | rfl <;> exact hs _ (by decide +kernel)
theorem st_lowest {b : Nat} {s : State} (h : (Jvm.Cond.and given_1 narrow_1).before #[Value.ref b] s = true) : ∃ (a : Nat) (cell : Cell), (Term.static "BikeSheds" "LOWEST_VALUES" "[I").eval #[Value.ref b] s none [] s = some (.ref a) ∧ s.heap[a]? = some cell ∧ s.isArrayOf cell .int ∧ cell.vm ≠ .unknown ∧ s.vm.findClass "[I" = some cell.cls ∧ cell.slots.size = 4 ∧ ∀ j, j < 4 → cell.slots[j]? = some (.int (([0, 1, 1, 1] : List Int32).getD j 0)) := by
  have hs := flat_of_before _ h
  refine st_arr (hs _ (by decide +kernel)) (hs _ (by decide +kernel)) (hs _ (by decide +kernel)) (fun j hj => ?_)
  rcases (by omega : j = 0 ∨ j = 1 ∨ j = 2 ∨ j = 3) with rfl | rfl | rfl | rfl <;> exact hs _ (by decide +kernel)
theorem st_highest {b : Nat} {s : State} (h : (Jvm.Cond.and given_1 narrow_1).before #[Value.ref b] s = true) : ∃ (a : Nat) (cell : Cell), (Term.static "BikeSheds" "HIGHEST_VALUES" "[I").eval #[Value.ref b] s none [] s = some (.ref a) ∧ s.heap[a]? = some cell ∧ s.isArrayOf cell .int ∧ cell.vm ≠ .unknown ∧ s.vm.findClass "[I" = some cell.cls ∧ cell.slots.size = 4 ∧ ∀ j, j < 4 → cell.slots[j]? = some (.int (([5, 60, 30, 99] : List Int32).getD j 0)) := by
  have hs := flat_of_before _ h
  refine st_arr (hs _ (by decide +kernel)) (hs _ (by decide +kernel)) (hs _ (by decide +kernel)) (fun j hj => ?_)
  rcases (by omega : j = 0 ∨ j = 1 ∨ j = 2 ∨ j = 3) with rfl | rfl | rfl | rfl <;> exact hs _ (by decide +kernel)
