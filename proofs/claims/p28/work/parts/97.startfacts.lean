/-! the start: rows of numbers that the class keeps as statics -/
theorem st_val {args : Array Value} {s : State} {cnd : Cond} (h : cnd.before args s = true) : cnd.value args s none s [] = some true := by
  simpa [Cond.before, Cond.holds] using h
theorem st_arr {args : Array Value} {s : State} {t : Term} {vs : Nat → Int32} (h1 : (Cond.exactly t "[I").before args s = true) (h2 : (Cond.arrayOf t .int).before args s = true) (h3 : (Cond.eq (.length t) (.int 4)).before args s = true) (h4 : ∀ j, j < 4 → (Cond.eq (.elem t (.int (nI j))) (.int (vs j))).before args s = true) : ∃ (a : Nat) (cell : Cell), t.eval args s none [] s = some (.ref a) ∧ s.heap[a]? = some cell ∧ s.isArrayOf cell .int ∧ cell.vm ≠ .unknown ∧ s.vm.findClass "[I" = some cell.cls ∧ cell.slots.size = 4 ∧ ∀ j, j < 4 → cell.slots[j]? = some (.int (vs j)) := by
  obtain ⟨a, c, cell, k, q1, q2, q3, q4, q5, q6, -⟩ := Cond.exactly_spec (args := args) (first := s) (o := none) (s := s) (idx := []) (by simpa [Cond.before] using h1)
  have he : ∀ j, j < 4 → ∃ arr : Cell, s.arrayAt? a = some arr ∧ arr.slots[j]? = some (.int (vs j)) := by
    intro j hj
    have hv := va_eqI (st_val (h4 j hj)) (v := .int (vs j)) rfl
    cases harr : s.arrayAt? a with
    | none => simp [Term.eval, q1, harr] at hv
    | some arr =>
      refine ⟨arr, rfl, ?_⟩
      have hn : ¬ nI j < 0 := nI_pos (by omega)
      simp [Term.eval, q1, harr, hn] at hv
      rw [cl_nI (by omega)] at hv
      exact hv
  obtain ⟨arr, ha, -⟩ := he 0 (by omega)
  have hs := State.arrayAt?_spec ha
  have ec : arr = cell := Option.some.inj (hs.1.symm.trans q3)
  subst ec
  refine ⟨a, arr, q1, hs.1, ?_, hs.2.1, by rw [q6]; exact q2, ?_, fun j hj => ?_⟩
  · have h2 := st_val h2
    obtain ⟨-, hkn, hns, k2, comp, ty2, hk2, hkind⟩ := hs
    simp [Cond.value, q1, q3, hk2, hkind, State.knowsType] at h2
    exact ⟨fun k3 h => (by rw [h] at hns; cases hns), k2, hk2, comp, by rw [hkind, h2.2]⟩
  · have hv := va_eqI (st_val h3) (v := .int 4) rfl
    simp [Term.eval, q1, ha] at hv
    have := (nI_eq (a := arr.slots.size) (b := 4) (by omega) (by omega)).mp hv.2
    exact this
  · obtain ⟨arr2, ha2, hb2⟩ := he j hj
    have : arr2 = arr := Option.some.inj (ha2.symm.trans ha)
    rw [this] at hb2
    exact hb2
theorem st_word {i : Nat} {w : Cond} (h : lw_tbl[i]? = some w) : w ∈ lw_tbl := List.mem_of_getElem? h
theorem wd_init : Cond.initialized "BikeSheds" ∈ lw_tbl := st_word (i := 12) (by decide +kernel)
theorem wd_first : Cond.laysStatic "BikeSheds" "FIRST_VALUES" "[I" ∈ lw_tbl := st_word (i := 36) (by decide +kernel)
theorem wd_lowest : Cond.laysStatic "BikeSheds" "LOWEST_VALUES" "[I" ∈ lw_tbl := st_word (i := 236) (by decide +kernel)
theorem wd_highest : Cond.laysStatic "BikeSheds" "HIGHEST_VALUES" "[I" ∈ lw_tbl := st_word (i := 238) (by decide +kernel)
theorem wd_cast : Cond.castable "[I" "java/lang/Cloneable" ∈ lw_tbl := st_word (i := 42) (by decide +kernel)
theorem wd_over1 : Cond.arrayOver (.array .int) ∈ lw_tbl := st_word (i := 54) (by decide +kernel)
theorem wd_over2 : Cond.arrayOver (.object "BikeSheds$State") ∈ lw_tbl := st_word (i := 142) (by decide +kernel)
theorem wd_int : Cond.arrayClass .int ∈ lw_tbl := st_word (i := 79) (by decide +kernel)
theorem wd_char : Cond.arrayClass .char ∈ lw_tbl := st_word (i := 170) (by decide +kernel)
def wd_at : Nat → Nat
  | 0 => 81
  | 1 => 152
  | 2 => 136
  | 3 => 158
  | 4 => 45
  | 5 => 30
  | _ => 22
theorem wd_inst : ∀ ci, ci < 7 → Cond.instantiable (xp_C ci) (xp_n ci) ∈ lw_tbl := by
  intro ci h
  refine st_word (i := wd_at ci) ?_
  have : ∀ ci, ci < 7 → lw_tbl[wd_at ci]? = some (Cond.instantiable (xp_C ci) (xp_n ci)) := by decide +kernel
  exact this ci h
theorem st_arrClass {args : Array Value} {s : State} {ty : FieldType} (h : (Cond.arrayClass ty).before args s = true) : ∃ cA : ClassId, ArrOfT s cA ty ∧ s.vm.findClass ("[" ++ ty.toString) = some cA := by
  have h := st_val h
  simp only [Cond.value] at h
  cases hf : s.vm.findClass ("[" ++ ty.toString) with
  | none => simp [hf] at h
  | some cA =>
    cases hk : s.vm.classes[cA]? with
    | none => simp [hf, hk] at h
    | some kA =>
      cases hkind : kA.kind with
      | array comp ty2 =>
        simp [hf, hk, hkind] at h
        exact ⟨cA, fun n z => ⟨fun k h => (by cases h), kA, hk, comp, by rw [hkind, h]⟩, rfl⟩
      | _ => simp [hf, hk, hkind] at h
theorem st_types {args : Array Value} {s : State} (hts : ∀ w ∈ lw_tbl, w.before args s = true) : ∃ tA : Nat → ClassId, ∀ t, ArrOfT s (tA t) (xp_ty t) ∧ va_RA s (tA t) (xp_ty t) := by
  obtain ⟨c0, a0, f0⟩ := st_arrClass (hts _ wd_int)
  obtain ⟨c2, a2, f2⟩ := st_arrClass (hts _ wd_char)
  obtain ⟨p3, c3, k3, -, -, g3, e3, f3⟩ := arrayOverA_spec (hts _ wd_over1)
  obtain ⟨p4, c4, k4, m4, -, g4, e4, f4⟩ := Cond.arrayOver_spec (hts _ wd_over2)
  refine ⟨fun t => match t with
    | 0 => c0
    | 1 => c2
    | 2 => c2
    | 3 => c3
    | _ => c4, fun t => ?_⟩
  match t with
  | 0 => exact ⟨a0, f0⟩
  | 1 => exact ⟨a2, f2⟩
  | 2 => exact ⟨a2, f2⟩
  | 3 => exact ⟨fun n z => ⟨fun k h => (by cases h), k3, g3, p3, e3⟩, f3⟩
  | t + 4 => exact ⟨fun n z => ⟨fun k h => (by cases h), k4, g4, p4, e4⟩, k4, p4, g4, e4, m4, f4⟩
theorem st_classes {args : Array Value} {s : State} (hts : ∀ w ∈ lw_tbl, w.before args s = true) : ∃ (dC : Nat → ClassId) (dI : Nat → Nat → Nat), va_K (dC, dI) vwCl [] s := by
  have hTS : ∀ w ∈ xt_TS, w.before args s = true := fun w hw => hts w (List.mem_filter.mp hw).1
  have h0 : ∀ ci : Nat, ∃ q : ClassId × (Nat → Nat), ci < 7 → u_Kn s (xp_C ci) (xp_F ci) (xp_n ci) q.1 q.2 := by
    intro ci
    by_cases h : ci < 7
    · obtain ⟨cC, iS, hk⟩ := u_known (C := xp_C ci) (T := xp_F ci) (N := xp_n ci) (n := xp_n ci) hTS (xp_ws h) (hts _ (wd_inst ci h))
      exact ⟨(cC, iS), fun _ => hk⟩
    · exact ⟨(0, fun _ => 0), fun z => absurd z h⟩
  obtain ⟨q, hq⟩ := Classical.axiomOfChoice h0
  refine ⟨fun ci => (q ci).1, fun ci => (q ci).2, fun k r hr => ?_, fun k r hr => by simp at hr⟩
  have hk : k < 7 := (List.getElem?_eq_some_iff.mp hr).1
  have e : r = (xp_C k, xp_F k, xp_n k) := Option.some.inj (hr.symm.trans (xp_cl hk))
  subst e
  exact hq k hk
