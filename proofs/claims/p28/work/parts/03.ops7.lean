/-- X6_sweep -/
def xo_84 (pc : Nat) : Option (Instr × Nat) := if 24 ≤ pc then none else if pc < 12 then (if pc < 5 then (if pc < 1 then (if pc = 0 then some (.aload_n 0, 1) else none) else (if pc < 4 then (if pc = 1 then some (.getfield 16, 3) else none) else (if pc = 4 then some (.aload_n 0, 1) else none))) else (if pc < 8 then (if pc = 5 then some (.getfield 12, 3) else none) else (if pc < 11 then (if pc = 8 then some (.invokevirtual 40, 3) else none) else (if pc = 11 then some (.aload_n 0, 1) else none)))) else (if pc < 17 then (if pc < 13 then (if pc = 12 then some (.aload_n 0, 1) else none) else (if pc < 16 then (if pc = 13 then some (.getfield 12, 3) else none) else (if pc = 16 then some (.iload_n 1, 1) else none))) else (if pc < 20 then (if pc = 17 then some (.invokevirtual 74, 3) else none) else (if pc < 23 then (if pc = 20 then some (.invokevirtual 48, 3) else none) else (if pc = 23 then some (.ireturn, 1) else none))))
set_option maxRecDepth 100000 in
theorem xo_84_c0 : ([0, 1, 4, 5, 8, 11, 12, 13, 16, 17, 20, 23] : List Nat).all (fun pc => match xo_84 pc with | none => true | some r => decide (decode cX6_sweep pc = .ok r)) = true := by decide +kernel
set_option maxRecDepth 100000 in
theorem xo_84_no : (List.range 24).all (fun pc => (xo_84 pc).isNone || (([0, 1, 4, 5, 8, 11, 12, 13, 16, 17, 20, 23] : List Nat).contains pc)) = true := by decide +kernel
theorem xo_84_top (pc : Nat) (h : 24 ≤ pc) : xo_84 pc = none := if_pos h
theorem xo_84_ok (pc : Nat) (r : Instr × Nat) (h : xo_84 pc = some r) : decode cX6_sweep pc = .ok r := by
  rcases Nat.lt_or_ge pc 24 with hl | hl
  · have h1 := List.all_eq_true.mp xo_84_no pc (List.mem_range.mpr hl)
    rw [h] at h1
    simp only [Option.isNone_some, Bool.false_or, Bool.or_eq_true, List.contains_iff_mem, or_assoc] at h1
    rcases h1 with h1
    · have h2 := List.all_eq_true.mp xo_84_c0 pc h1
      rw [h] at h2
      exact of_decide_eq_true h2
  · rw [show xo_84 pc = none from if_pos hl] at h; cases h
/-- X6_use -/
def xo_85 (pc : Nat) : Option (Instr × Nat) := if 26 ≤ pc then none else if pc < 13 then (if pc < 5 then (if pc < 1 then (if pc = 0 then some (.aload_n 0, 1) else none) else (if pc < 4 then (if pc = 1 then some (.getfield 16, 3) else none) else (if pc = 4 then some (.aload_n 0, 1) else none))) else (if pc < 11 then (if pc < 8 then (if pc = 5 then some (.getfield 12, 3) else none) else (if pc = 8 then some (.invokevirtual 40, 3) else none)) else (if pc < 12 then (if pc = 11 then some (.aload_n 0, 1) else none) else (if pc = 12 then some (.aload_n 0, 1) else none)))) else (if pc < 18 then (if pc < 16 then (if pc = 13 then some (.getfield 12, 3) else none) else (if pc < 17 then (if pc = 16 then some (.iload_n 1, 1) else none) else (if pc = 17 then some (.iload_n 2, 1) else none))) else (if pc < 22 then (if pc < 19 then (if pc = 18 then some (.iload_n 3, 1) else none) else (if pc = 19 then some (.invokevirtual 77, 3) else none)) else (if pc < 25 then (if pc = 22 then some (.invokevirtual 48, 3) else none) else (if pc = 25 then some (.ireturn, 1) else none))))
set_option maxRecDepth 100000 in
theorem xo_85_c0 : ([0, 1, 4, 5, 8, 11, 12, 13, 16, 17, 18, 19, 22, 25] : List Nat).all (fun pc => match xo_85 pc with | none => true | some r => decide (decode cX6_use pc = .ok r)) = true := by decide +kernel
set_option maxRecDepth 100000 in
theorem xo_85_no : (List.range 26).all (fun pc => (xo_85 pc).isNone || (([0, 1, 4, 5, 8, 11, 12, 13, 16, 17, 18, 19, 22, 25] : List Nat).contains pc)) = true := by decide +kernel
theorem xo_85_top (pc : Nat) (h : 26 ≤ pc) : xo_85 pc = none := if_pos h
theorem xo_85_ok (pc : Nat) (r : Instr × Nat) (h : xo_85 pc = some r) : decode cX6_use pc = .ok r := by
  rcases Nat.lt_or_ge pc 26 with hl | hl
  · have h1 := List.all_eq_true.mp xo_85_no pc (List.mem_range.mpr hl)
    rw [h] at h1
    simp only [Option.isNone_some, Bool.false_or, Bool.or_eq_true, List.contains_iff_mem, or_assoc] at h1
    rcases h1 with h1
    · have h2 := List.all_eq_true.mp xo_85_c0 pc h1
      rw [h] at h2
      exact of_decide_eq_true h2
  · rw [show xo_85 pc = none from if_pos hl] at h; cases h
/-- X6_pass -/
def xo_86 (pc : Nat) : Option (Instr × Nat) := if 24 ≤ pc then none else if pc < 12 then (if pc < 5 then (if pc < 1 then (if pc = 0 then some (.aload_n 0, 1) else none) else (if pc < 4 then (if pc = 1 then some (.getfield 16, 3) else none) else (if pc = 4 then some (.aload_n 0, 1) else none))) else (if pc < 8 then (if pc = 5 then some (.getfield 12, 3) else none) else (if pc < 11 then (if pc = 8 then some (.invokevirtual 40, 3) else none) else (if pc = 11 then some (.aload_n 0, 1) else none)))) else (if pc < 17 then (if pc < 13 then (if pc = 12 then some (.aload_n 0, 1) else none) else (if pc < 16 then (if pc = 13 then some (.getfield 12, 3) else none) else (if pc = 16 then some (.iload_n 1, 1) else none))) else (if pc < 20 then (if pc = 17 then some (.invokevirtual 81, 3) else none) else (if pc < 23 then (if pc = 20 then some (.invokevirtual 48, 3) else none) else (if pc = 23 then some (.ireturn, 1) else none))))
set_option maxRecDepth 100000 in
theorem xo_86_c0 : ([0, 1, 4, 5, 8, 11, 12, 13, 16, 17, 20, 23] : List Nat).all (fun pc => match xo_86 pc with | none => true | some r => decide (decode cX6_pass pc = .ok r)) = true := by decide +kernel
set_option maxRecDepth 100000 in
theorem xo_86_no : (List.range 24).all (fun pc => (xo_86 pc).isNone || (([0, 1, 4, 5, 8, 11, 12, 13, 16, 17, 20, 23] : List Nat).contains pc)) = true := by decide +kernel
theorem xo_86_top (pc : Nat) (h : 24 ≤ pc) : xo_86 pc = none := if_pos h
theorem xo_86_ok (pc : Nat) (r : Instr × Nat) (h : xo_86 pc = some r) : decode cX6_pass pc = .ok r := by
  rcases Nat.lt_or_ge pc 24 with hl | hl
  · have h1 := List.all_eq_true.mp xo_86_no pc (List.mem_range.mpr hl)
    rw [h] at h1
    simp only [Option.isNone_some, Bool.false_or, Bool.or_eq_true, List.contains_iff_mem, or_assoc] at h1
    rcases h1 with h1
    · have h2 := List.all_eq_true.mp xo_86_c0 pc h1
      rw [h] at h2
      exact of_decide_eq_true h2
  · rw [show xo_86 pc = none from if_pos hl] at h; cases h
/-- X6_person -/
def xo_87 (pc : Nat) : Option (Instr × Nat) := if 19 ≤ pc then none else if pc < 9 then (if pc < 4 then (if pc < 1 then (if pc = 0 then some (.iload_n 1, 1) else none) else (if pc = 1 then some (.invokestatic 110, 3) else none)) else (if pc < 7 then (if pc = 4 then some (.ifCond .ne 5, 3) else none) else (if pc < 8 then (if pc = 7 then some (.iconst (-1), 1) else none) else (if pc = 8 then some (.ireturn, 1) else none)))) else (if pc < 14 then (if pc < 10 then (if pc = 9 then some (.aload_n 0, 1) else none) else (if pc < 13 then (if pc = 10 then some (.getfield 12, 3) else none) else (if pc = 13 then some (.iload_n 1, 1) else none))) else (if pc < 15 then (if pc = 14 then some (.iload_n 2, 1) else none) else (if pc < 18 then (if pc = 15 then some (.invokevirtual 114, 3) else none) else (if pc = 18 then some (.ireturn, 1) else none))))
set_option maxRecDepth 100000 in
theorem xo_87_c0 : ([0, 1, 4, 7, 8, 9, 10, 13, 14, 15, 18] : List Nat).all (fun pc => match xo_87 pc with | none => true | some r => decide (decode cX6_person pc = .ok r)) = true := by decide +kernel
set_option maxRecDepth 100000 in
theorem xo_87_no : (List.range 19).all (fun pc => (xo_87 pc).isNone || (([0, 1, 4, 7, 8, 9, 10, 13, 14, 15, 18] : List Nat).contains pc)) = true := by decide +kernel
theorem xo_87_top (pc : Nat) (h : 19 ≤ pc) : xo_87 pc = none := if_pos h
theorem xo_87_ok (pc : Nat) (r : Instr × Nat) (h : xo_87 pc = some r) : decode cX6_person pc = .ok r := by
  rcases Nat.lt_or_ge pc 19 with hl | hl
  · have h1 := List.all_eq_true.mp xo_87_no pc (List.mem_range.mpr hl)
    rw [h] at h1
    simp only [Option.isNone_some, Bool.false_or, Bool.or_eq_true, List.contains_iff_mem, or_assoc] at h1
    rcases h1 with h1
    · have h2 := List.all_eq_true.mp xo_87_c0 pc h1
      rw [h] at h2
      exact of_decide_eq_true h2
  · rw [show xo_87 pc = none from if_pos hl] at h; cases h
/-- X6_shed -/
def xo_88 (pc : Nat) : Option (Instr × Nat) := if 19 ≤ pc then none else if pc < 9 then (if pc < 4 then (if pc < 1 then (if pc = 0 then some (.iload_n 1, 1) else none) else (if pc = 1 then some (.invokestatic 117, 3) else none)) else (if pc < 7 then (if pc = 4 then some (.ifCond .ne 5, 3) else none) else (if pc < 8 then (if pc = 7 then some (.iconst (-1), 1) else none) else (if pc = 8 then some (.ireturn, 1) else none)))) else (if pc < 14 then (if pc < 10 then (if pc = 9 then some (.aload_n 0, 1) else none) else (if pc < 13 then (if pc = 10 then some (.getfield 12, 3) else none) else (if pc = 13 then some (.iload_n 1, 1) else none))) else (if pc < 15 then (if pc = 14 then some (.iload_n 2, 1) else none) else (if pc < 18 then (if pc = 15 then some (.invokevirtual 120, 3) else none) else (if pc = 18 then some (.ireturn, 1) else none))))
set_option maxRecDepth 100000 in
theorem xo_88_c0 : ([0, 1, 4, 7, 8, 9, 10, 13, 14, 15, 18] : List Nat).all (fun pc => match xo_88 pc with | none => true | some r => decide (decode cX6_shed pc = .ok r)) = true := by decide +kernel
set_option maxRecDepth 100000 in
theorem xo_88_no : (List.range 19).all (fun pc => (xo_88 pc).isNone || (([0, 1, 4, 7, 8, 9, 10, 13, 14, 15, 18] : List Nat).contains pc)) = true := by decide +kernel
theorem xo_88_top (pc : Nat) (h : 19 ≤ pc) : xo_88 pc = none := if_pos h
theorem xo_88_ok (pc : Nat) (r : Instr × Nat) (h : xo_88 pc = some r) : decode cX6_shed pc = .ok r := by
  rcases Nat.lt_or_ge pc 19 with hl | hl
  · have h1 := List.all_eq_true.mp xo_88_no pc (List.mem_range.mpr hl)
    rw [h] at h1
    simp only [Option.isNone_some, Bool.false_or, Bool.or_eq_true, List.contains_iff_mem, or_assoc] at h1
    rcases h1 with h1
    · have h2 := List.all_eq_true.mp xo_88_c0 pc h1
      rw [h] at h2
      exact of_decide_eq_true h2
  · rw [show xo_88 pc = none from if_pos hl] at h; cases h
/-- X6_waiting -/
def xo_89 (pc : Nat) : Option (Instr × Nat) := if 23 ≤ pc then none else if pc < 10 then (if pc < 7 then (if pc < 1 then (if pc = 0 then some (.iload_n 1, 1) else none) else (if pc < 4 then (if pc = 1 then some (.invokestatic 117, 3) else none) else (if pc = 4 then some (.ifCond .ne 5, 3) else none))) else (if pc < 8 then (if pc = 7 then some (.iconst (-1), 1) else none) else (if pc < 9 then (if pc = 8 then some (.ireturn, 1) else none) else (if pc = 9 then some (.aload_n 0, 1) else none)))) else (if pc < 17 then (if pc < 13 then (if pc = 10 then some (.getfield 12, 3) else none) else (if pc < 16 then (if pc = 13 then some (.getfield 123, 3) else none) else (if pc = 16 then some (.iload_n 1, 1) else none))) else (if pc < 19 then (if pc < 18 then (if pc = 17 then some (.iload_n 2, 1) else none) else (if pc = 18 then some (.iload_n 3, 1) else none)) else (if pc < 22 then (if pc = 19 then some (.invokevirtual 127, 3) else none) else (if pc = 22 then some (.ireturn, 1) else none))))
set_option maxRecDepth 100000 in
theorem xo_89_c0 : ([0, 1, 4, 7, 8, 9, 10, 13, 16, 17, 18, 19, 22] : List Nat).all (fun pc => match xo_89 pc with | none => true | some r => decide (decode cX6_waiting pc = .ok r)) = true := by decide +kernel
set_option maxRecDepth 100000 in
theorem xo_89_no : (List.range 23).all (fun pc => (xo_89 pc).isNone || (([0, 1, 4, 7, 8, 9, 10, 13, 16, 17, 18, 19, 22] : List Nat).contains pc)) = true := by decide +kernel
theorem xo_89_top (pc : Nat) (h : 23 ≤ pc) : xo_89 pc = none := if_pos h
theorem xo_89_ok (pc : Nat) (r : Instr × Nat) (h : xo_89 pc = some r) : decode cX6_waiting pc = .ok r := by
  rcases Nat.lt_or_ge pc 23 with hl | hl
  · have h1 := List.all_eq_true.mp xo_89_no pc (List.mem_range.mpr hl)
    rw [h] at h1
    simp only [Option.isNone_some, Bool.false_or, Bool.or_eq_true, List.contains_iff_mem, or_assoc] at h1
    rcases h1 with h1
    · have h2 := List.all_eq_true.mp xo_89_c0 pc h1
      rw [h] at h2
      exact of_decide_eq_true h2
  · rw [show xo_89 pc = none from if_pos hl] at h; cases h
/-- X6_count -/
def xo_90 (pc : Nat) : Option (Instr × Nat) := if 56 ≤ pc then none else if pc < 40 then (if pc < 32 then (if pc < 28 then (if pc < 1 then (if pc = 0 then some (.iload_n 1, 1) else none) else (if pc = 1 then some (.lookupswitch 46 #[(13, 27), (14, 38)], 27) else none)) else (if pc < 29 then (if pc = 28 then some (.aload_n 0, 1) else none) else (if pc = 29 then some (.getfield 36, 3) else none))) else (if pc < 38 then (if pc < 35 then (if pc = 32 then some (.getfield 101, 3) else none) else (if pc = 35 then some (.getfield 132, 3) else none)) else (if pc < 39 then (if pc = 38 then some (.ireturn, 1) else none) else (if pc = 39 then some (.aload_n 0, 1) else none)))) else (if pc < 48 then (if pc < 46 then (if pc < 43 then (if pc = 40 then some (.getfield 25, 3) else none) else (if pc = 43 then some (.getfield 136, 3) else none)) else (if pc < 47 then (if pc = 46 then some (.ireturn, 1) else none) else (if pc = 47 then some (.aload_n 0, 1) else none))) else (if pc < 52 then (if pc < 51 then (if pc = 48 then some (.getfield 12, 3) else none) else (if pc = 51 then some (.iload_n 1, 1) else none)) else (if pc < 55 then (if pc = 52 then some (.invokevirtual 137, 3) else none) else (if pc = 55 then some (.ireturn, 1) else none))))
set_option maxRecDepth 100000 in
theorem xo_90_c0 : ([0, 1, 28, 29, 32, 35, 38, 39, 40, 43, 46, 47, 48, 51, 52, 55] : List Nat).all (fun pc => match xo_90 pc with | none => true | some r => decide (decode cX6_count pc = .ok r)) = true := by decide +kernel
set_option maxRecDepth 100000 in
theorem xo_90_no : (List.range 56).all (fun pc => (xo_90 pc).isNone || (([0, 1, 28, 29, 32, 35, 38, 39, 40, 43, 46, 47, 48, 51, 52, 55] : List Nat).contains pc)) = true := by decide +kernel
theorem xo_90_top (pc : Nat) (h : 56 ≤ pc) : xo_90 pc = none := if_pos h
theorem xo_90_ok (pc : Nat) (r : Instr × Nat) (h : xo_90 pc = some r) : decode cX6_count pc = .ok r := by
  rcases Nat.lt_or_ge pc 56 with hl | hl
  · have h1 := List.all_eq_true.mp xo_90_no pc (List.mem_range.mpr hl)
    rw [h] at h1
    simp only [Option.isNone_some, Bool.false_or, Bool.or_eq_true, List.contains_iff_mem, or_assoc] at h1
    rcases h1 with h1
    · have h2 := List.all_eq_true.mp xo_90_c0 pc h1
      rw [h] at h2
      exact of_decide_eq_true h2
  · rw [show xo_90 pc = none from if_pos hl] at h; cases h
/-- X6_untilPermit -/
def xo_91 (pc : Nat) : Option (Instr × Nat) := if 46 ≤ pc then none else if pc < 23 then (if pc < 9 then (if pc < 4 then (if pc < 1 then (if pc = 0 then some (.iload_n 1, 1) else none) else (if pc = 1 then some (.invokestatic 110, 3) else none)) else (if pc < 7 then (if pc = 4 then some (.ifCond .ne 5, 3) else none) else (if pc < 8 then (if pc = 7 then some (.iconst (-1), 1) else none) else (if pc = 8 then some (.ireturn, 1) else none)))) else (if pc < 16 then (if pc < 10 then (if pc = 9 then some (.aload_n 0, 1) else none) else (if pc < 13 then (if pc = 10 then some (.getfield 12, 3) else none) else (if pc = 13 then some (.getfield 123, 3) else none))) else (if pc < 17 then (if pc = 16 then some (.iload_n 1, 1) else none) else (if pc < 20 then (if pc = 17 then some (.invokevirtual 140, 3) else none) else (if pc = 20 then some (.ifCond .ne 6, 3) else none))))) else (if pc < 34 then (if pc < 27 then (if pc < 25 then (if pc = 23 then some (.bipush (-5), 2) else none) else (if pc < 26 then (if pc = 25 then some (.ireturn, 1) else none) else (if pc = 26 then some (.aload_n 0, 1) else none))) else (if pc < 30 then (if pc = 27 then some (.getfield 19, 3) else none) else (if pc < 31 then (if pc = 30 then some (.aload_n 0, 1) else none) else (if pc = 31 then some (.getfield 12, 3) else none)))) else (if pc < 41 then (if pc < 37 then (if pc = 34 then some (.invokevirtual 40, 3) else none) else (if pc < 38 then (if pc = 37 then some (.aload_n 0, 1) else none) else (if pc = 38 then some (.getfield 19, 3) else none))) else (if pc < 42 then (if pc = 41 then some (.iload_n 1, 1) else none) else (if pc < 45 then (if pc = 42 then some (.invokevirtual 143, 3) else none) else (if pc = 45 then some (.ireturn, 1) else none)))))
set_option maxRecDepth 100000 in
theorem xo_91_c0 : ([0, 1, 4, 7, 8, 9, 10, 13, 16, 17, 20, 23, 25, 26, 27, 30, 31, 34, 37, 38, 41, 42, 45] : List Nat).all (fun pc => match xo_91 pc with | none => true | some r => decide (decode cX6_untilPermit pc = .ok r)) = true := by decide +kernel
set_option maxRecDepth 100000 in
theorem xo_91_no : (List.range 46).all (fun pc => (xo_91 pc).isNone || (([0, 1, 4, 7, 8, 9, 10, 13, 16, 17, 20, 23, 25, 26, 27, 30, 31, 34, 37, 38, 41, 42, 45] : List Nat).contains pc)) = true := by decide +kernel
theorem xo_91_top (pc : Nat) (h : 46 ≤ pc) : xo_91 pc = none := if_pos h
theorem xo_91_ok (pc : Nat) (r : Instr × Nat) (h : xo_91 pc = some r) : decode cX6_untilPermit pc = .ok r := by
  rcases Nat.lt_or_ge pc 46 with hl | hl
  · have h1 := List.all_eq_true.mp xo_91_no pc (List.mem_range.mpr hl)
    rw [h] at h1
    simp only [Option.isNone_some, Bool.false_or, Bool.or_eq_true, List.contains_iff_mem, or_assoc] at h1
    rcases h1 with h1
    · have h2 := List.all_eq_true.mp xo_91_c0 pc h1
      rw [h] at h2
      exact of_decide_eq_true h2
  · rw [show xo_91 pc = none from if_pos hl] at h; cases h
/-- X6_daysToWaitFor -/
def xo_92 (pc : Nat) : Option (Instr × Nat) := if 41 ≤ pc then none else if pc < 18 then (if pc < 11 then (if pc < 4 then (if pc < 1 then (if pc = 0 then some (.aload_n 0, 1) else none) else (if pc = 1 then some (.getfield 19, 3) else none)) else (if pc < 5 then (if pc = 4 then some (.aload_n 0, 1) else none) else (if pc < 8 then (if pc = 5 then some (.getfield 12, 3) else none) else (if pc = 8 then some (.invokevirtual 40, 3) else none)))) else (if pc < 15 then (if pc < 12 then (if pc = 11 then some (.aload_n 0, 1) else none) else (if pc = 12 then some (.getfield 19, 3) else none)) else (if pc < 16 then (if pc = 15 then some (.iload_n 1, 1) else none) else (if pc < 17 then (if pc = 16 then some (.iload_n 2, 1) else none) else (if pc = 17 then some (.iload_n 3, 1) else none))))) else (if pc < 29 then (if pc < 23 then (if pc < 21 then (if pc = 18 then some (.invokevirtual 52, 3) else none) else (if pc = 21 then some (.istore 4, 2) else none)) else (if pc < 25 then (if pc = 23 then some (.iload 4, 2) else none) else (if pc < 28 then (if pc = 25 then some (.ifCond .ne 7, 3) else none) else (if pc = 28 then some (.iconst 0, 1) else none)))) else (if pc < 36 then (if pc < 32 then (if pc = 29 then some (.goto 11, 3) else none) else (if pc < 33 then (if pc = 32 then some (.aload_n 0, 1) else none) else (if pc = 33 then some (.getfield 19, 3) else none))) else (if pc < 37 then (if pc = 36 then some (.iload_n 1, 1) else none) else (if pc < 40 then (if pc = 37 then some (.invokevirtual 143, 3) else none) else (if pc = 40 then some (.ireturn, 1) else none)))))
set_option maxRecDepth 100000 in
theorem xo_92_c0 : ([0, 1, 4, 5, 8, 11, 12, 15, 16, 17, 18, 21, 23, 25, 28, 29, 32, 33, 36, 37, 40] : List Nat).all (fun pc => match xo_92 pc with | none => true | some r => decide (decode cX6_daysToWaitFor pc = .ok r)) = true := by decide +kernel
set_option maxRecDepth 100000 in
theorem xo_92_no : (List.range 41).all (fun pc => (xo_92 pc).isNone || (([0, 1, 4, 5, 8, 11, 12, 15, 16, 17, 18, 21, 23, 25, 28, 29, 32, 33, 36, 37, 40] : List Nat).contains pc)) = true := by decide +kernel
theorem xo_92_top (pc : Nat) (h : 41 ≤ pc) : xo_92 pc = none := if_pos h
theorem xo_92_ok (pc : Nat) (r : Instr × Nat) (h : xo_92 pc = some r) : decode cX6_daysToWaitFor pc = .ok r := by
  rcases Nat.lt_or_ge pc 41 with hl | hl
  · have h1 := List.all_eq_true.mp xo_92_no pc (List.mem_range.mpr hl)
    rw [h] at h1
    simp only [Option.isNone_some, Bool.false_or, Bool.or_eq_true, List.contains_iff_mem, or_assoc] at h1
    rcases h1 with h1
    · have h2 := List.all_eq_true.mp xo_92_c0 pc h1
      rw [h] at h2
      exact of_decide_eq_true h2
  · rw [show xo_92 pc = none from if_pos hl] at h; cases h
/-- X6_bestShed -/
def xo_93 (pc : Nat) : Option (Instr × Nat) := if 136 ≤ pc then none else if pc < 66 then (if pc < 30 then (if pc < 13 then (if pc < 8 then (if pc < 4 then (if pc < 1 then (if pc = 0 then some (.iload_n 1, 1) else none) else (if pc = 1 then some (.invokestatic 110, 3) else none)) else (if pc < 7 then (if pc = 4 then some (.ifCond .ne 5, 3) else none) else (if pc = 7 then some (.iconst (-1), 1) else none))) else (if pc < 10 then (if pc < 9 then (if pc = 8 then some (.ireturn, 1) else none) else (if pc = 9 then some (.iconst 1, 1) else none)) else (if pc < 11 then (if pc = 10 then some (.iload_n 2, 1) else none) else (if pc = 11 then some (.bipush 99, 2) else none)))) else (if pc < 21 then (if pc < 19 then (if pc < 16 then (if pc = 13 then some (.invokestatic 146, 3) else none) else (if pc = 16 then some (.ifCond .eq 12, 3) else none)) else (if pc < 20 then (if pc = 19 then some (.iconst 0, 1) else none) else (if pc = 20 then some (.iload_n 3, 1) else none))) else (if pc < 25 then (if pc < 22 then (if pc = 21 then some (.iconst 1, 1) else none) else (if pc = 22 then some (.invokestatic 146, 3) else none)) else (if pc < 28 then (if pc = 25 then some (.ifCond .ne 6, 3) else none) else (if pc = 28 then some (.bipush (-2), 2) else none))))) else (if pc < 46 then (if pc < 38 then (if pc < 32 then (if pc < 31 then (if pc = 30 then some (.ireturn, 1) else none) else (if pc = 31 then some (.aload_n 0, 1) else none)) else (if pc < 35 then (if pc = 32 then some (.getfield 12, 3) else none) else (if pc = 35 then some (.getfield 123, 3) else none))) else (if pc < 42 then (if pc < 39 then (if pc = 38 then some (.iload_n 1, 1) else none) else (if pc = 39 then some (.invokevirtual 150, 3) else none)) else (if pc < 45 then (if pc = 42 then some (.ifCond .ne 17, 3) else none) else (if pc = 45 then some (.aload_n 0, 1) else none)))) else (if pc < 56 then (if pc < 52 then (if pc < 49 then (if pc = 46 then some (.getfield 12, 3) else none) else (if pc = 49 then some (.getfield 123, 3) else none)) else (if pc < 53 then (if pc = 52 then some (.iload_n 1, 1) else none) else (if pc = 53 then some (.invokevirtual 140, 3) else none))) else (if pc < 61 then (if pc < 59 then (if pc = 56 then some (.ifCond .eq 6, 3) else none) else (if pc = 59 then some (.bipush (-5), 2) else none)) else (if pc < 62 then (if pc = 61 then some (.ireturn, 1) else none) else (if pc < 64 then (if pc = 62 then some (.bipush (-6), 2) else none) else (if pc = 64 then some (.istore 4, 2) else none))))))) else (if pc < 98 then (if pc < 80 then (if pc < 73 then (if pc < 70 then (if pc < 68 then (if pc = 66 then some (.bipush (-6), 2) else none) else (if pc = 68 then some (.istore 5, 2) else none)) else (if pc < 71 then (if pc = 70 then some (.iconst 0, 1) else none) else (if pc = 71 then some (.istore 6, 2) else none))) else (if pc < 76 then (if pc < 75 then (if pc = 73 then some (.iload 6, 2) else none) else (if pc = 75 then some (.iconst 3, 1) else none)) else (if pc < 79 then (if pc = 76 then some (.if_icmp .ge 48, 3) else none) else (if pc = 79 then some (.aload_n 0, 1) else none)))) else (if pc < 87 then (if pc < 83 then (if pc < 81 then (if pc = 80 then some (.iload_n 1, 1) else none) else (if pc = 81 then some (.iload 6, 2) else none)) else (if pc < 84 then (if pc = 83 then some (.iload_n 2, 1) else none) else (if pc = 84 then some (.invokevirtual 153, 3) else none))) else (if pc < 91 then (if pc < 89 then (if pc = 87 then some (.istore 7, 2) else none) else (if pc = 89 then some (.iload 7, 2) else none)) else (if pc < 93 then (if pc = 91 then some (.bipush (-6), 2) else none) else (if pc < 96 then (if pc = 93 then some (.if_icmp .eq 25, 3) else none) else (if pc = 96 then some (.iload 4, 2) else none)))))) else (if pc < 116 then (if pc < 107 then (if pc < 103 then (if pc < 100 then (if pc = 98 then some (.bipush (-6), 2) else none) else (if pc = 100 then some (.if_icmp .eq 10, 3) else none)) else (if pc < 105 then (if pc = 103 then some (.iload 7, 2) else none) else (if pc = 105 then some (.iload 5, 2) else none))) else (if pc < 112 then (if pc < 110 then (if pc = 107 then some (.if_icmp .ge 11, 3) else none) else (if pc = 110 then some (.iload 6, 2) else none)) else (if pc < 114 then (if pc = 112 then some (.istore 4, 2) else none) else (if pc = 114 then some (.iload 7, 2) else none)))) else (if pc < 125 then (if pc < 121 then (if pc < 118 then (if pc = 116 then some (.istore 5, 2) else none) else (if pc = 118 then some (.iinc 6 1, 3) else none)) else (if pc < 124 then (if pc = 121 then some (.goto (-48), 3) else none) else (if pc = 124 then some (.iload_n 3, 1) else none))) else (if pc < 130 then (if pc < 128 then (if pc = 125 then some (.ifCond .ne 8, 3) else none) else (if pc = 128 then some (.iload 4, 2) else none)) else (if pc < 133 then (if pc = 130 then some (.goto 5, 3) else none) else (if pc < 135 then (if pc = 133 then some (.iload 5, 2) else none) else (if pc = 135 then some (.ireturn, 1) else none)))))))
set_option maxRecDepth 100000 in
theorem xo_93_c0 : ([0, 1, 4, 7, 8, 9, 10, 11, 13, 16, 19, 20, 21, 22, 25, 28, 30, 31, 32, 35, 38, 39, 42, 45, 46, 49, 52, 53, 56, 59, 61, 62, 64, 66, 68, 70] : List Nat).all (fun pc => match xo_93 pc with | none => true | some r => decide (decode cX6_bestShed pc = .ok r)) = true := by decide +kernel
set_option maxRecDepth 100000 in
theorem xo_93_c1 : ([71, 73, 75, 76, 79, 80, 81, 83, 84, 87, 89, 91, 93, 96, 98, 100, 103, 105, 107, 110, 112, 114, 116, 118, 121, 124, 125, 128, 130, 133, 135] : List Nat).all (fun pc => match xo_93 pc with | none => true | some r => decide (decode cX6_bestShed pc = .ok r)) = true := by decide +kernel
set_option maxRecDepth 100000 in
theorem xo_93_no : (List.range 136).all (fun pc => (xo_93 pc).isNone || (([0, 1, 4, 7, 8, 9, 10, 11, 13, 16, 19, 20, 21, 22, 25, 28, 30, 31, 32, 35, 38, 39, 42, 45, 46, 49, 52, 53, 56, 59, 61, 62, 64, 66, 68, 70] : List Nat).contains pc || ([71, 73, 75, 76, 79, 80, 81, 83, 84, 87, 89, 91, 93, 96, 98, 100, 103, 105, 107, 110, 112, 114, 116, 118, 121, 124, 125, 128, 130, 133, 135] : List Nat).contains pc)) = true := by decide +kernel
theorem xo_93_top (pc : Nat) (h : 136 ≤ pc) : xo_93 pc = none := if_pos h
theorem xo_93_ok (pc : Nat) (r : Instr × Nat) (h : xo_93 pc = some r) : decode cX6_bestShed pc = .ok r := by
  rcases Nat.lt_or_ge pc 136 with hl | hl
  · have h1 := List.all_eq_true.mp xo_93_no pc (List.mem_range.mpr hl)
    rw [h] at h1
    simp only [Option.isNone_some, Bool.false_or, Bool.or_eq_true, List.contains_iff_mem, or_assoc] at h1
    rcases h1 with h1 | h1
    · have h2 := List.all_eq_true.mp xo_93_c0 pc h1
      rw [h] at h2
      exact of_decide_eq_true h2
    · have h2 := List.all_eq_true.mp xo_93_c1 pc h1
      rw [h] at h2
      exact of_decide_eq_true h2
  · rw [show xo_93 pc = none from if_pos hl] at h; cases h
/-- X6_ifSwept -/
def xo_94 (pc : Nat) : Option (Instr × Nat) := if 42 ≤ pc then none else if pc < 21 then (if pc < 9 then (if pc < 4 then (if pc < 1 then (if pc = 0 then some (.iload_n 1, 1) else none) else (if pc = 1 then some (.invokestatic 117, 3) else none)) else (if pc < 7 then (if pc = 4 then some (.ifCond .ne 5, 3) else none) else (if pc < 8 then (if pc = 7 then some (.iconst (-1), 1) else none) else (if pc = 8 then some (.ireturn, 1) else none)))) else (if pc < 13 then (if pc < 10 then (if pc = 9 then some (.iconst 0, 1) else none) else (if pc < 11 then (if pc = 10 then some (.iload_n 2, 1) else none) else (if pc = 11 then some (.bipush 99, 2) else none))) else (if pc < 16 then (if pc = 13 then some (.invokestatic 146, 3) else none) else (if pc < 19 then (if pc = 16 then some (.ifCond .ne 6, 3) else none) else (if pc = 19 then some (.bipush (-2), 2) else none))))) else (if pc < 30 then (if pc < 23 then (if pc < 22 then (if pc = 21 then some (.ireturn, 1) else none) else (if pc = 22 then some (.aload_n 0, 1) else none)) else (if pc < 26 then (if pc = 23 then some (.getfield 12, 3) else none) else (if pc < 29 then (if pc = 26 then some (.getfield 156, 3) else none) else (if pc = 29 then some (.iload_n 1, 1) else none)))) else (if pc < 35 then (if pc < 31 then (if pc = 30 then some (.aload_n 0, 1) else none) else (if pc < 34 then (if pc = 31 then some (.getfield 12, 3) else none) else (if pc = 34 then some (.iload_n 2, 1) else none))) else (if pc < 38 then (if pc = 35 then some (.invokevirtual 160, 3) else none) else (if pc < 41 then (if pc = 38 then some (.invokevirtual 163, 3) else none) else (if pc = 41 then some (.ireturn, 1) else none)))))
set_option maxRecDepth 100000 in
theorem xo_94_c0 : ([0, 1, 4, 7, 8, 9, 10, 11, 13, 16, 19, 21, 22, 23, 26, 29, 30, 31, 34, 35, 38, 41] : List Nat).all (fun pc => match xo_94 pc with | none => true | some r => decide (decode cX6_ifSwept pc = .ok r)) = true := by decide +kernel
set_option maxRecDepth 100000 in
theorem xo_94_no : (List.range 42).all (fun pc => (xo_94 pc).isNone || (([0, 1, 4, 7, 8, 9, 10, 11, 13, 16, 19, 21, 22, 23, 26, 29, 30, 31, 34, 35, 38, 41] : List Nat).contains pc)) = true := by decide +kernel
theorem xo_94_top (pc : Nat) (h : 42 ≤ pc) : xo_94 pc = none := if_pos h
theorem xo_94_ok (pc : Nat) (r : Instr × Nat) (h : xo_94 pc = some r) : decode cX6_ifSwept pc = .ok r := by
  rcases Nat.lt_or_ge pc 42 with hl | hl
  · have h1 := List.all_eq_true.mp xo_94_no pc (List.mem_range.mpr hl)
    rw [h] at h1
    simp only [Option.isNone_some, Bool.false_or, Bool.or_eq_true, List.contains_iff_mem, or_assoc] at h1
    rcases h1 with h1
    · have h2 := List.all_eq_true.mp xo_94_c0 pc h1
      rw [h] at h2
      exact of_decide_eq_true h2
  · rw [show xo_94 pc = none from if_pos hl] at h; cases h
/-- X6_undo -/
def xo_95 (pc : Nat) : Option (Instr × Nat) := if 25 ≤ pc then none else if pc < 14 then (if pc < 5 then (if pc < 1 then (if pc = 0 then some (.aload_n 0, 1) else none) else (if pc < 4 then (if pc = 1 then some (.getfield 25, 3) else none) else (if pc = 4 then some (.aload_n 0, 1) else none))) else (if pc < 8 then (if pc = 5 then some (.getfield 12, 3) else none) else (if pc < 11 then (if pc = 8 then some (.invokevirtual 172, 3) else none) else (if pc = 11 then some (.ifCond .ne 6, 3) else none)))) else (if pc < 18 then (if pc < 16 then (if pc = 14 then some (.bipush (-5), 2) else none) else (if pc < 17 then (if pc = 16 then some (.ireturn, 1) else none) else (if pc = 17 then some (.aload_n 0, 1) else none))) else (if pc < 21 then (if pc = 18 then some (.getfield 25, 3) else none) else (if pc < 24 then (if pc = 21 then some (.getfield 136, 3) else none) else (if pc = 24 then some (.ireturn, 1) else none))))
set_option maxRecDepth 100000 in
theorem xo_95_c0 : ([0, 1, 4, 5, 8, 11, 14, 16, 17, 18, 21, 24] : List Nat).all (fun pc => match xo_95 pc with | none => true | some r => decide (decode cX6_undo pc = .ok r)) = true := by decide +kernel
set_option maxRecDepth 100000 in
theorem xo_95_no : (List.range 25).all (fun pc => (xo_95 pc).isNone || (([0, 1, 4, 5, 8, 11, 14, 16, 17, 18, 21, 24] : List Nat).contains pc)) = true := by decide +kernel
theorem xo_95_top (pc : Nat) (h : 25 ≤ pc) : xo_95 pc = none := if_pos h
theorem xo_95_ok (pc : Nat) (r : Instr × Nat) (h : xo_95 pc = some r) : decode cX6_undo pc = .ok r := by
  rcases Nat.lt_or_ge pc 25 with hl | hl
  · have h1 := List.all_eq_true.mp xo_95_no pc (List.mem_range.mpr hl)
    rw [h] at h1
    simp only [Option.isNone_some, Bool.false_or, Bool.or_eq_true, List.contains_iff_mem, or_assoc] at h1
    rcases h1 with h1
    · have h2 := List.all_eq_true.mp xo_95_c0 pc h1
      rw [h] at h2
      exact of_decide_eq_true h2
  · rw [show xo_95 pc = none from if_pos hl] at h; cases h
/-- X6_save -/
def xo_96 (pc : Nat) : Option (Instr × Nat) := if 39 ≤ pc then none else if pc < 18 then (if pc < 9 then (if pc < 2 then (if pc < 1 then (if pc = 0 then some (.iconst 0, 1) else none) else (if pc = 1 then some (.iload_n 1, 1) else none)) else (if pc < 3 then (if pc = 2 then some (.iconst 1, 1) else none) else (if pc < 6 then (if pc = 3 then some (.invokestatic 146, 3) else none) else (if pc = 6 then some (.ifCond .ne 6, 3) else none)))) else (if pc < 13 then (if pc < 11 then (if pc = 9 then some (.bipush (-2), 2) else none) else (if pc < 12 then (if pc = 11 then some (.ireturn, 1) else none) else (if pc = 12 then some (.aload_n 0, 1) else none))) else (if pc < 16 then (if pc = 13 then some (.getfield 29, 3) else none) else (if pc < 17 then (if pc = 16 then some (.iload_n 1, 1) else none) else (if pc = 17 then some (.aload_n 0, 1) else none))))) else (if pc < 27 then (if pc < 22 then (if pc < 21 then (if pc = 18 then some (.getfield 29, 3) else none) else (if pc = 21 then some (.iload_n 1, 1) else none)) else (if pc < 23 then (if pc = 22 then some (.aaload, 1) else none) else (if pc < 24 then (if pc = 23 then some (.aload_n 0, 1) else none) else (if pc = 24 then some (.getfield 12, 3) else none)))) else (if pc < 32 then (if pc < 30 then (if pc = 27 then some (.invokestatic 176, 3) else none) else (if pc < 31 then (if pc = 30 then some (.aastore, 1) else none) else (if pc = 31 then some (.aload_n 0, 1) else none))) else (if pc < 35 then (if pc = 32 then some (.getfield 12, 3) else none) else (if pc < 38 then (if pc = 35 then some (.getfield 180, 3) else none) else (if pc = 38 then some (.ireturn, 1) else none)))))
set_option maxRecDepth 100000 in
theorem xo_96_c0 : ([0, 1, 2, 3, 6, 9, 11, 12, 13, 16, 17, 18, 21, 22, 23, 24, 27, 30, 31, 32, 35, 38] : List Nat).all (fun pc => match xo_96 pc with | none => true | some r => decide (decode cX6_save pc = .ok r)) = true := by decide +kernel
set_option maxRecDepth 100000 in
theorem xo_96_no : (List.range 39).all (fun pc => (xo_96 pc).isNone || (([0, 1, 2, 3, 6, 9, 11, 12, 13, 16, 17, 18, 21, 22, 23, 24, 27, 30, 31, 32, 35, 38] : List Nat).contains pc)) = true := by decide +kernel
theorem xo_96_top (pc : Nat) (h : 39 ≤ pc) : xo_96 pc = none := if_pos h
theorem xo_96_ok (pc : Nat) (r : Instr × Nat) (h : xo_96 pc = some r) : decode cX6_save pc = .ok r := by
  rcases Nat.lt_or_ge pc 39 with hl | hl
  · have h1 := List.all_eq_true.mp xo_96_no pc (List.mem_range.mpr hl)
    rw [h] at h1
    simp only [Option.isNone_some, Bool.false_or, Bool.or_eq_true, List.contains_iff_mem, or_assoc] at h1
    rcases h1 with h1
    · have h2 := List.all_eq_true.mp xo_96_c0 pc h1
      rw [h] at h2
      exact of_decide_eq_true h2
  · rw [show xo_96 pc = none from if_pos hl] at h; cases h
/-- X6_restore -/
def xo_97 (pc : Nat) : Option (Instr × Nat) := if 57 ≤ pc then none else if pc < 25 then (if pc < 12 then (if pc < 3 then (if pc < 1 then (if pc = 0 then some (.iconst 0, 1) else none) else (if pc < 2 then (if pc = 1 then some (.iload_n 1, 1) else none) else (if pc = 2 then some (.iconst 1, 1) else none))) else (if pc < 9 then (if pc < 6 then (if pc = 3 then some (.invokestatic 146, 3) else none) else (if pc = 6 then some (.ifCond .ne 6, 3) else none)) else (if pc < 11 then (if pc = 9 then some (.bipush (-2), 2) else none) else (if pc = 11 then some (.ireturn, 1) else none)))) else (if pc < 18 then (if pc < 16 then (if pc < 13 then (if pc = 12 then some (.aload_n 0, 1) else none) else (if pc = 13 then some (.getfield 29, 3) else none)) else (if pc < 17 then (if pc = 16 then some (.iload_n 1, 1) else none) else (if pc = 17 then some (.aaload, 1) else none))) else (if pc < 20 then (if pc < 19 then (if pc = 18 then some (.astore_n 2, 1) else none) else (if pc = 19 then some (.aload_n 2, 1) else none)) else (if pc < 23 then (if pc = 20 then some (.ifnonnull 6, 3) else none) else (if pc = 23 then some (.bipush (-5), 2) else none))))) else (if pc < 41 then (if pc < 31 then (if pc < 27 then (if pc < 26 then (if pc = 25 then some (.ireturn, 1) else none) else (if pc = 26 then some (.aload_n 0, 1) else none)) else (if pc < 30 then (if pc = 27 then some (.getfield 16, 3) else none) else (if pc = 30 then some (.aload_n 0, 1) else none))) else (if pc < 37 then (if pc < 34 then (if pc = 31 then some (.getfield 12, 3) else none) else (if pc = 34 then some (.invokevirtual 40, 3) else none)) else (if pc < 38 then (if pc = 37 then some (.aload_n 0, 1) else none) else (if pc = 38 then some (.getfield 12, 3) else none)))) else (if pc < 47 then (if pc < 45 then (if pc < 42 then (if pc = 41 then some (.aload_n 2, 1) else none) else (if pc = 42 then some (.invokevirtual 40, 3) else none)) else (if pc < 46 then (if pc = 45 then some (.aload_n 0, 1) else none) else (if pc = 46 then some (.aload_n 0, 1) else none))) else (if pc < 53 then (if pc < 50 then (if pc = 47 then some (.getfield 12, 3) else none) else (if pc = 50 then some (.getfield 180, 3) else none)) else (if pc < 56 then (if pc = 53 then some (.invokevirtual 48, 3) else none) else (if pc = 56 then some (.ireturn, 1) else none)))))
set_option maxRecDepth 100000 in
theorem xo_97_c0 : ([0, 1, 2, 3, 6, 9, 11, 12, 13, 16, 17, 18, 19, 20, 23, 25, 26, 27, 30, 31, 34, 37, 38, 41, 42, 45, 46, 47, 50, 53, 56] : List Nat).all (fun pc => match xo_97 pc with | none => true | some r => decide (decode cX6_restore pc = .ok r)) = true := by decide +kernel
set_option maxRecDepth 100000 in
theorem xo_97_no : (List.range 57).all (fun pc => (xo_97 pc).isNone || (([0, 1, 2, 3, 6, 9, 11, 12, 13, 16, 17, 18, 19, 20, 23, 25, 26, 27, 30, 31, 34, 37, 38, 41, 42, 45, 46, 47, 50, 53, 56] : List Nat).contains pc)) = true := by decide +kernel
theorem xo_97_top (pc : Nat) (h : 57 ≤ pc) : xo_97 pc = none := if_pos h
theorem xo_97_ok (pc : Nat) (r : Instr × Nat) (h : xo_97 pc = some r) : decode cX6_restore pc = .ok r := by
  rcases Nat.lt_or_ge pc 57 with hl | hl
  · have h1 := List.all_eq_true.mp xo_97_no pc (List.mem_range.mpr hl)
    rw [h] at h1
    simp only [Option.isNone_some, Bool.false_or, Bool.or_eq_true, List.contains_iff_mem, or_assoc] at h1
    rcases h1 with h1
    · have h2 := List.all_eq_true.mp xo_97_c0 pc h1
      rw [h] at h2
      exact of_decide_eq_true h2
  · rw [show xo_97 pc = none from if_pos hl] at h; cases h
