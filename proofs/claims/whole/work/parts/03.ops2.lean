/-- X1_readOne -/
def xo_25 (pc : Nat) : Option (Instr × Nat) := if 7 ≤ pc then none else if pc < 2 then (if pc < 1 then (if pc = 0 then some (.aload_n 0, 1) else none) else (if pc = 1 then some (.iload_n 1, 1) else none)) else (if pc < 3 then (if pc = 2 then some (.iload_n 1, 1) else none) else (if pc < 6 then (if pc = 3 then some (.invokevirtual 39, 3) else none) else (if pc = 6 then some (.ireturn, 1) else none)))
set_option maxRecDepth 100000 in
theorem xo_25_c0 : ([0, 1, 2, 3, 6] : List Nat).all (fun pc => match xo_25 pc with | none => true | some r => decide (decode cX1_readOne pc = .ok r)) = true := by decide +kernel
set_option maxRecDepth 100000 in
theorem xo_25_no : (List.range 7).all (fun pc => (xo_25 pc).isNone || (([0, 1, 2, 3, 6] : List Nat).contains pc)) = true := by decide +kernel
theorem xo_25_top (pc : Nat) (h : 7 ≤ pc) : xo_25 pc = none := if_pos h
theorem xo_25_ok (pc : Nat) (r : Instr × Nat) (h : xo_25 pc = some r) : decode cX1_readOne pc = .ok r := by
  rcases Nat.lt_or_ge pc 7 with hl | hl
  · have h1 := List.all_eq_true.mp xo_25_no pc (List.mem_range.mpr hl)
    rw [h] at h1
    simp only [Option.isNone_some, Bool.false_or, Bool.or_eq_true, List.contains_iff_mem, or_assoc] at h1
    rcases h1 with h1
    · have h2 := List.all_eq_true.mp xo_25_c0 pc h1
      rw [h] at h2
      exact of_decide_eq_true h2
  · rw [show xo_25 pc = none from if_pos hl] at h; cases h
/-- X1_readShed -/
def xo_26 (pc : Nat) : Option (Instr × Nat) := if 26 ≤ pc then none else if pc < 13 then (if pc < 5 then (if pc < 1 then (if pc = 0 then some (.aload_n 0, 1) else none) else (if pc < 3 then (if pc = 1 then some (.bipush 48, 2) else none) else (if pc = 3 then some (.bipush 50, 2) else none))) else (if pc < 11 then (if pc < 8 then (if pc = 5 then some (.invokevirtual 39, 3) else none) else (if pc = 8 then some (.ifCond .ne 5, 3) else none)) else (if pc < 12 then (if pc = 11 then some (.iconst 0, 1) else none) else (if pc = 12 then some (.ireturn, 1) else none)))) else (if pc < 20 then (if pc < 15 then (if pc < 14 then (if pc = 13 then some (.aload_n 0, 1) else none) else (if pc = 14 then some (.aload_n 0, 1) else none)) else (if pc < 18 then (if pc = 15 then some (.getfield 43, 3) else none) else (if pc = 18 then some (.bipush 48, 2) else none))) else (if pc < 24 then (if pc < 21 then (if pc = 20 then some (.isub, 1) else none) else (if pc = 21 then some (.putfield 66, 3) else none)) else (if pc < 25 then (if pc = 24 then some (.iconst 1, 1) else none) else (if pc = 25 then some (.ireturn, 1) else none))))
set_option maxRecDepth 100000 in
theorem xo_26_c0 : ([0, 1, 3, 5, 8, 11, 12, 13, 14, 15, 18, 20, 21, 24, 25] : List Nat).all (fun pc => match xo_26 pc with | none => true | some r => decide (decode cX1_readShed pc = .ok r)) = true := by decide +kernel
set_option maxRecDepth 100000 in
theorem xo_26_no : (List.range 26).all (fun pc => (xo_26 pc).isNone || (([0, 1, 3, 5, 8, 11, 12, 13, 14, 15, 18, 20, 21, 24, 25] : List Nat).contains pc)) = true := by decide +kernel
theorem xo_26_top (pc : Nat) (h : 26 ≤ pc) : xo_26 pc = none := if_pos h
theorem xo_26_ok (pc : Nat) (r : Instr × Nat) (h : xo_26 pc = some r) : decode cX1_readShed pc = .ok r := by
  rcases Nat.lt_or_ge pc 26 with hl | hl
  · have h1 := List.all_eq_true.mp xo_26_no pc (List.mem_range.mpr hl)
    rw [h] at h1
    simp only [Option.isNone_some, Bool.false_or, Bool.or_eq_true, List.contains_iff_mem, or_assoc] at h1
    rcases h1 with h1
    · have h2 := List.all_eq_true.mp xo_26_c0 pc h1
      rw [h] at h2
      exact of_decide_eq_true h2
  · rw [show xo_26 pc = none from if_pos hl] at h; cases h
/-- X1_readNumber -/
def xo_27 (pc : Nat) : Option (Instr × Nat) := if 56 ≤ pc then none else if pc < 27 then (if pc < 13 then (if pc < 5 then (if pc < 1 then (if pc = 0 then some (.aload_n 0, 1) else none) else (if pc < 3 then (if pc = 1 then some (.bipush 49, 2) else none) else (if pc = 3 then some (.bipush 57, 2) else none))) else (if pc < 11 then (if pc < 8 then (if pc = 5 then some (.invokevirtual 39, 3) else none) else (if pc = 8 then some (.ifCond .ne 5, 3) else none)) else (if pc < 12 then (if pc = 11 then some (.iconst 0, 1) else none) else (if pc = 12 then some (.ireturn, 1) else none)))) else (if pc < 20 then (if pc < 15 then (if pc < 14 then (if pc = 13 then some (.aload_n 0, 1) else none) else (if pc = 14 then some (.aload_n 0, 1) else none)) else (if pc < 18 then (if pc = 15 then some (.getfield 43, 3) else none) else (if pc = 18 then some (.bipush 48, 2) else none))) else (if pc < 24 then (if pc < 21 then (if pc = 20 then some (.isub, 1) else none) else (if pc = 21 then some (.putfield 69, 3) else none)) else (if pc < 25 then (if pc = 24 then some (.aload_n 0, 1) else none) else (if pc = 25 then some (.bipush 48, 2) else none))))) else (if pc < 43 then (if pc < 36 then (if pc < 32 then (if pc < 29 then (if pc = 27 then some (.bipush 57, 2) else none) else (if pc = 29 then some (.invokevirtual 39, 3) else none)) else (if pc < 35 then (if pc = 32 then some (.ifCond .eq 22, 3) else none) else (if pc = 35 then some (.aload_n 0, 1) else none))) else (if pc < 40 then (if pc < 37 then (if pc = 36 then some (.aload_n 0, 1) else none) else (if pc = 37 then some (.getfield 69, 3) else none)) else (if pc < 42 then (if pc = 40 then some (.bipush 10, 2) else none) else (if pc = 42 then some (.imul, 1) else none)))) else (if pc < 50 then (if pc < 47 then (if pc < 44 then (if pc = 43 then some (.aload_n 0, 1) else none) else (if pc = 44 then some (.getfield 43, 3) else none)) else (if pc < 48 then (if pc = 47 then some (.iadd, 1) else none) else (if pc = 48 then some (.bipush 48, 2) else none))) else (if pc < 54 then (if pc < 51 then (if pc = 50 then some (.isub, 1) else none) else (if pc = 51 then some (.putfield 69, 3) else none)) else (if pc < 55 then (if pc = 54 then some (.iconst 1, 1) else none) else (if pc = 55 then some (.ireturn, 1) else none)))))
set_option maxRecDepth 100000 in
theorem xo_27_c0 : ([0, 1, 3, 5, 8, 11, 12, 13, 14, 15, 18, 20, 21, 24, 25, 27, 29, 32, 35, 36, 37, 40, 42, 43, 44, 47, 48, 50, 51, 54, 55] : List Nat).all (fun pc => match xo_27 pc with | none => true | some r => decide (decode cX1_readNumber pc = .ok r)) = true := by decide +kernel
set_option maxRecDepth 100000 in
theorem xo_27_no : (List.range 56).all (fun pc => (xo_27 pc).isNone || (([0, 1, 3, 5, 8, 11, 12, 13, 14, 15, 18, 20, 21, 24, 25, 27, 29, 32, 35, 36, 37, 40, 42, 43, 44, 47, 48, 50, 51, 54, 55] : List Nat).contains pc)) = true := by decide +kernel
theorem xo_27_top (pc : Nat) (h : 56 ≤ pc) : xo_27 pc = none := if_pos h
theorem xo_27_ok (pc : Nat) (r : Instr × Nat) (h : xo_27 pc = some r) : decode cX1_readNumber pc = .ok r := by
  rcases Nat.lt_or_ge pc 56 with hl | hl
  · have h1 := List.all_eq_true.mp xo_27_no pc (List.mem_range.mpr hl)
    rw [h] at h1
    simp only [Option.isNone_some, Bool.false_or, Bool.or_eq_true, List.contains_iff_mem, or_assoc] at h1
    rcases h1 with h1
    · have h2 := List.all_eq_true.mp xo_27_c0 pc h1
      rw [h] at h2
      exact of_decide_eq_true h2
  · rw [show xo_27 pc = none from if_pos hl] at h; cases h
/-- X1_readDeedOfPerson -/
def xo_28 (pc : Nat) : Option (Instr × Nat) := if 95 ≤ pc then none else if pc < 48 then (if pc < 24 then (if pc < 9 then (if pc < 2 then (if pc < 1 then (if pc = 0 then some (.aload_n 0, 1) else none) else (if pc = 1 then some (.aload_n 0, 1) else none)) else (if pc < 5 then (if pc = 2 then some (.getfield 12, 3) else none) else (if pc < 6 then (if pc = 5 then some (.aload_n 0, 1) else none) else (if pc = 6 then some (.getfield 25, 3) else none)))) else (if pc < 16 then (if pc < 12 then (if pc = 9 then some (.invokevirtual 53, 3) else none) else (if pc < 15 then (if pc = 12 then some (.putfield 57, 3) else none) else (if pc = 15 then some (.aload_n 0, 1) else none))) else (if pc < 18 then (if pc = 16 then some (.bipush 63, 2) else none) else (if pc < 21 then (if pc = 18 then some (.invokevirtual 35, 3) else none) else (if pc = 21 then some (.ifCond .eq 32, 3) else none))))) else (if pc < 34 then (if pc < 28 then (if pc < 25 then (if pc = 24 then some (.aload_n 0, 1) else none) else (if pc = 25 then some (.invokevirtual 60, 3) else none)) else (if pc < 31 then (if pc = 28 then some (.ifCond .eq 23, 3) else none) else (if pc < 32 then (if pc = 31 then some (.aload_n 0, 1) else none) else (if pc = 32 then some (.bipush 58, 2) else none)))) else (if pc < 41 then (if pc < 37 then (if pc = 34 then some (.invokevirtual 35, 3) else none) else (if pc < 40 then (if pc = 37 then some (.ifCond .eq 14, 3) else none) else (if pc = 40 then some (.aload_n 0, 1) else none))) else (if pc < 44 then (if pc = 41 then some (.invokevirtual 63, 3) else none) else (if pc < 47 then (if pc = 44 then some (.ifCond .eq 7, 3) else none) else (if pc = 47 then some (.iconst 1, 1) else none)))))) else (if pc < 71 then (if pc < 56 then (if pc < 52 then (if pc < 51 then (if pc = 48 then some (.goto 4, 3) else none) else (if pc = 51 then some (.iconst 0, 1) else none)) else (if pc < 53 then (if pc = 52 then some (.ireturn, 1) else none) else (if pc < 54 then (if pc = 53 then some (.aload_n 0, 1) else none) else (if pc = 54 then some (.bipush 112, 2) else none)))) else (if pc < 63 then (if pc < 59 then (if pc = 56 then some (.invokevirtual 35, 3) else none) else (if pc < 62 then (if pc = 59 then some (.ifCond .ne 30, 3) else none) else (if pc = 62 then some (.aload_n 0, 1) else none))) else (if pc < 65 then (if pc = 63 then some (.bipush 114, 2) else none) else (if pc < 68 then (if pc = 65 then some (.invokevirtual 35, 3) else none) else (if pc = 68 then some (.ifCond .ne 21, 3) else none))))) else (if pc < 83 then (if pc < 77 then (if pc < 72 then (if pc = 71 then some (.aload_n 0, 1) else none) else (if pc < 74 then (if pc = 72 then some (.bipush 97, 2) else none) else (if pc = 74 then some (.invokevirtual 35, 3) else none))) else (if pc < 80 then (if pc = 77 then some (.ifCond .ne 12, 3) else none) else (if pc < 81 then (if pc = 80 then some (.aload_n 0, 1) else none) else (if pc = 81 then some (.bipush 102, 2) else none)))) else (if pc < 90 then (if pc < 86 then (if pc = 83 then some (.invokevirtual 35, 3) else none) else (if pc < 89 then (if pc = 86 then some (.ifCond .eq 7, 3) else none) else (if pc = 89 then some (.iconst 1, 1) else none))) else (if pc < 93 then (if pc = 90 then some (.goto 4, 3) else none) else (if pc < 94 then (if pc = 93 then some (.iconst 0, 1) else none) else (if pc = 94 then some (.ireturn, 1) else none))))))
set_option maxRecDepth 100000 in
theorem xo_28_c0 : ([0, 1, 2, 5, 6, 9, 12, 15, 16, 18, 21, 24, 25, 28, 31, 32, 34, 37, 40, 41, 44, 47, 48, 51, 52, 53, 54, 56, 59, 62, 63, 65, 68, 71, 72, 74, 77, 80, 81, 83, 86, 89, 90, 93, 94] : List Nat).all (fun pc => match xo_28 pc with | none => true | some r => decide (decode cX1_readDeedOfPerson pc = .ok r)) = true := by decide +kernel
set_option maxRecDepth 100000 in
theorem xo_28_no : (List.range 95).all (fun pc => (xo_28 pc).isNone || (([0, 1, 2, 5, 6, 9, 12, 15, 16, 18, 21, 24, 25, 28, 31, 32, 34, 37, 40, 41, 44, 47, 48, 51, 52, 53, 54, 56, 59, 62, 63, 65, 68, 71, 72, 74, 77, 80, 81, 83, 86, 89, 90, 93, 94] : List Nat).contains pc)) = true := by decide +kernel
theorem xo_28_top (pc : Nat) (h : 95 ≤ pc) : xo_28 pc = none := if_pos h
theorem xo_28_ok (pc : Nat) (r : Instr × Nat) (h : xo_28 pc = some r) : decode cX1_readDeedOfPerson pc = .ok r := by
  rcases Nat.lt_or_ge pc 95 with hl | hl
  · have h1 := List.all_eq_true.mp xo_28_no pc (List.mem_range.mpr hl)
    rw [h] at h1
    simp only [Option.isNone_some, Bool.false_or, Bool.or_eq_true, List.contains_iff_mem, or_assoc] at h1
    rcases h1 with h1
    · have h2 := List.all_eq_true.mp xo_28_c0 pc h1
      rw [h] at h2
      exact of_decide_eq_true h2
  · rw [show xo_28 pc = none from if_pos hl] at h; cases h
/-- X1_readDeed -/
def xo_29 (pc : Nat) : Option (Instr × Nat) := if 78 ≤ pc then none else if pc < 36 then (if pc < 18 then (if pc < 8 then (if pc < 3 then (if pc < 1 then (if pc = 0 then some (.aload_n 0, 1) else none) else (if pc = 1 then some (.bipush 65, 2) else none)) else (if pc < 5 then (if pc = 3 then some (.bipush 84, 2) else none) else (if pc = 5 then some (.invokevirtual 39, 3) else none))) else (if pc < 12 then (if pc < 11 then (if pc = 8 then some (.ifCond .eq 19, 3) else none) else (if pc = 11 then some (.aload_n 0, 1) else none)) else (if pc < 13 then (if pc = 12 then some (.aload_n 0, 1) else none) else (if pc < 16 then (if pc = 13 then some (.getfield 43, 3) else none) else (if pc = 16 then some (.bipush 65, 2) else none))))) else (if pc < 27 then (if pc < 22 then (if pc < 19 then (if pc = 18 then some (.isub, 1) else none) else (if pc = 19 then some (.putfield 47, 3) else none)) else (if pc < 23 then (if pc = 22 then some (.aload_n 0, 1) else none) else (if pc < 26 then (if pc = 23 then some (.invokevirtual 50, 3) else none) else (if pc = 26 then some (.ireturn, 1) else none)))) else (if pc < 29 then (if pc < 28 then (if pc = 27 then some (.aload_n 0, 1) else none) else (if pc = 28 then some (.aload_n 0, 1) else none)) else (if pc < 32 then (if pc = 29 then some (.getfield 12, 3) else none) else (if pc < 33 then (if pc = 32 then some (.aload_n 0, 1) else none) else (if pc = 33 then some (.getfield 25, 3) else none)))))) else (if pc < 57 then (if pc < 48 then (if pc < 42 then (if pc < 39 then (if pc = 36 then some (.invokevirtual 53, 3) else none) else (if pc = 39 then some (.putfield 57, 3) else none)) else (if pc < 43 then (if pc = 42 then some (.aload_n 0, 1) else none) else (if pc < 45 then (if pc = 43 then some (.bipush 115, 2) else none) else (if pc = 45 then some (.invokevirtual 35, 3) else none)))) else (if pc < 52 then (if pc < 51 then (if pc = 48 then some (.ifCond .eq 8, 3) else none) else (if pc = 51 then some (.aload_n 0, 1) else none)) else (if pc < 55 then (if pc = 52 then some (.invokevirtual 60, 3) else none) else (if pc < 56 then (if pc = 55 then some (.ireturn, 1) else none) else (if pc = 56 then some (.aload_n 0, 1) else none))))) else (if pc < 69 then (if pc < 62 then (if pc < 59 then (if pc = 57 then some (.bipush 46, 2) else none) else (if pc = 59 then some (.invokevirtual 35, 3) else none)) else (if pc < 65 then (if pc = 62 then some (.ifCond .eq 14, 3) else none) else (if pc < 66 then (if pc = 65 then some (.aload_n 0, 1) else none) else (if pc = 66 then some (.invokevirtual 63, 3) else none)))) else (if pc < 73 then (if pc < 72 then (if pc = 69 then some (.ifCond .eq 7, 3) else none) else (if pc = 72 then some (.iconst 1, 1) else none)) else (if pc < 76 then (if pc = 73 then some (.goto 4, 3) else none) else (if pc < 77 then (if pc = 76 then some (.iconst 0, 1) else none) else (if pc = 77 then some (.ireturn, 1) else none))))))
set_option maxRecDepth 100000 in
theorem xo_29_c0 : ([0, 1, 3, 5, 8, 11, 12, 13, 16, 18, 19, 22, 23, 26, 27, 28, 29, 32, 33, 36, 39, 42, 43, 45, 48, 51, 52, 55, 56, 57, 59, 62, 65, 66, 69, 72, 73, 76, 77] : List Nat).all (fun pc => match xo_29 pc with | none => true | some r => decide (decode cX1_readDeed pc = .ok r)) = true := by decide +kernel
set_option maxRecDepth 100000 in
theorem xo_29_no : (List.range 78).all (fun pc => (xo_29 pc).isNone || (([0, 1, 3, 5, 8, 11, 12, 13, 16, 18, 19, 22, 23, 26, 27, 28, 29, 32, 33, 36, 39, 42, 43, 45, 48, 51, 52, 55, 56, 57, 59, 62, 65, 66, 69, 72, 73, 76, 77] : List Nat).contains pc)) = true := by decide +kernel
theorem xo_29_top (pc : Nat) (h : 78 ≤ pc) : xo_29 pc = none := if_pos h
theorem xo_29_ok (pc : Nat) (r : Instr × Nat) (h : xo_29 pc = some r) : decode cX1_readDeed pc = .ok r := by
  rcases Nat.lt_or_ge pc 78 with hl | hl
  · have h1 := List.all_eq_true.mp xo_29_no pc (List.mem_range.mpr hl)
    rw [h] at h1
    simp only [Option.isNone_some, Bool.false_or, Bool.or_eq_true, List.contains_iff_mem, or_assoc] at h1
    rcases h1 with h1
    · have h2 := List.all_eq_true.mp xo_29_c0 pc h1
      rw [h] at h2
      exact of_decide_eq_true h2
  · rw [show xo_29 pc = none from if_pos hl] at h; cases h
/-- X1_readSemicolon -/
def xo_30 (pc : Nat) : Option (Instr × Nat) := if 7 ≤ pc then none else if pc < 3 then (if pc < 1 then (if pc = 0 then some (.aload_n 0, 1) else none) else (if pc = 1 then some (.bipush 59, 2) else none)) else (if pc < 6 then (if pc = 3 then some (.invokevirtual 35, 3) else none) else (if pc = 6 then some (.ireturn, 1) else none))
set_option maxRecDepth 100000 in
theorem xo_30_c0 : ([0, 1, 3, 6] : List Nat).all (fun pc => match xo_30 pc with | none => true | some r => decide (decode cX1_readSemicolon pc = .ok r)) = true := by decide +kernel
set_option maxRecDepth 100000 in
theorem xo_30_no : (List.range 7).all (fun pc => (xo_30 pc).isNone || (([0, 1, 3, 6] : List Nat).contains pc)) = true := by decide +kernel
theorem xo_30_top (pc : Nat) (h : 7 ≤ pc) : xo_30 pc = none := if_pos h
theorem xo_30_ok (pc : Nat) (r : Instr × Nat) (h : xo_30 pc = some r) : decode cX1_readSemicolon pc = .ok r := by
  rcases Nat.lt_or_ge pc 7 with hl | hl
  · have h1 := List.all_eq_true.mp xo_30_no pc (List.mem_range.mpr hl)
    rw [h] at h1
    simp only [Option.isNone_some, Bool.false_or, Bool.or_eq_true, List.contains_iff_mem, or_assoc] at h1
    rcases h1 with h1
    · have h2 := List.all_eq_true.mp xo_30_c0 pc h1
      rw [h] at h2
      exact of_decide_eq_true h2
  · rw [show xo_30 pc = none from if_pos hl] at h; cases h
/-- X1_findFault -/
def xo_31 (pc : Nat) : Option (Instr × Nat) := if 66 ≤ pc then none else if pc < 31 then (if pc < 13 then (if pc < 6 then (if pc < 4 then (if pc < 1 then (if pc = 0 then some (.aload_n 0, 1) else none) else (if pc = 1 then some (.invokevirtual 18, 3) else none)) else (if pc < 5 then (if pc = 4 then some (.iconst 0, 1) else none) else (if pc = 5 then some (.istore_n 1, 1) else none))) else (if pc < 9 then (if pc < 7 then (if pc = 6 then some (.iload_n 1, 1) else none) else (if pc = 7 then some (.bipush 60, 2) else none)) else (if pc < 12 then (if pc = 9 then some (.if_icmp .ge 52, 3) else none) else (if pc = 12 then some (.aload_n 0, 1) else none)))) else (if pc < 23 then (if pc < 19 then (if pc < 16 then (if pc = 13 then some (.invokevirtual 21, 3) else none) else (if pc = 16 then some (.ifCond .ne 8, 3) else none)) else (if pc < 20 then (if pc = 19 then some (.aload_n 0, 1) else none) else (if pc = 20 then some (.getfield 25, 3) else none))) else (if pc < 25 then (if pc < 24 then (if pc = 23 then some (.ireturn, 1) else none) else (if pc = 24 then some (.aload_n 0, 1) else none)) else (if pc < 28 then (if pc = 25 then some (.invokevirtual 29, 3) else none) else (if pc = 28 then some (.ifCond .ne 27, 3) else none))))) else (if pc < 50 then (if pc < 39 then (if pc < 35 then (if pc < 32 then (if pc = 31 then some (.aload_n 0, 1) else none) else (if pc = 32 then some (.getfield 25, 3) else none)) else (if pc < 36 then (if pc = 35 then some (.aload_n 0, 1) else none) else (if pc = 36 then some (.getfield 12, 3) else none))) else (if pc < 45 then (if pc < 42 then (if pc = 39 then some (.getfield 32, 3) else none) else (if pc = 42 then some (.if_icmp .ne 8, 3) else none)) else (if pc < 47 then (if pc = 45 then some (.bipush (-6), 2) else none) else (if pc = 47 then some (.goto 7, 3) else none)))) else (if pc < 58 then (if pc < 54 then (if pc < 51 then (if pc = 50 then some (.aload_n 0, 1) else none) else (if pc = 51 then some (.getfield 25, 3) else none)) else (if pc < 55 then (if pc = 54 then some (.ireturn, 1) else none) else (if pc = 55 then some (.iinc 1 1, 3) else none))) else (if pc < 62 then (if pc < 61 then (if pc = 58 then some (.goto (-52), 3) else none) else (if pc = 61 then some (.aload_n 0, 1) else none)) else (if pc < 65 then (if pc = 62 then some (.getfield 25, 3) else none) else (if pc = 65 then some (.ireturn, 1) else none)))))
set_option maxRecDepth 100000 in
theorem xo_31_c0 : ([0, 1, 4, 5, 6, 7, 9, 12, 13, 16, 19, 20, 23, 24, 25, 28, 31, 32, 35, 36, 39, 42, 45, 47, 50, 51, 54, 55, 58, 61, 62, 65] : List Nat).all (fun pc => match xo_31 pc with | none => true | some r => decide (decode cX1_findFault pc = .ok r)) = true := by decide +kernel
set_option maxRecDepth 100000 in
theorem xo_31_no : (List.range 66).all (fun pc => (xo_31 pc).isNone || (([0, 1, 4, 5, 6, 7, 9, 12, 13, 16, 19, 20, 23, 24, 25, 28, 31, 32, 35, 36, 39, 42, 45, 47, 50, 51, 54, 55, 58, 61, 62, 65] : List Nat).contains pc)) = true := by decide +kernel
theorem xo_31_top (pc : Nat) (h : 66 ≤ pc) : xo_31 pc = none := if_pos h
theorem xo_31_ok (pc : Nat) (r : Instr × Nat) (h : xo_31 pc = some r) : decode cX1_findFault pc = .ok r := by
  rcases Nat.lt_or_ge pc 66 with hl | hl
  · have h1 := List.all_eq_true.mp xo_31_no pc (List.mem_range.mpr hl)
    rw [h] at h1
    simp only [Option.isNone_some, Bool.false_or, Bool.or_eq_true, List.contains_iff_mem, or_assoc] at h1
    rcases h1 with h1
    · have h2 := List.all_eq_true.mp xo_31_c0 pc h1
      rw [h] at h2
      exact of_decide_eq_true h2
  · rw [show xo_31 pc = none from if_pos hl] at h; cases h
/-- X2_init -/
def xo_32 (pc : Nat) : Option (Instr × Nat) := if 14 ≤ pc then none else if pc < 5 then (if pc < 1 then (if pc = 0 then some (.aload_n 0, 1) else none) else (if pc < 4 then (if pc = 1 then some (.invokespecial 3, 3) else none) else (if pc = 4 then some (.aload_n 0, 1) else none))) else (if pc < 10 then (if pc < 7 then (if pc = 5 then some (.bipush 6, 2) else none) else (if pc = 7 then some (.anewarray 9, 3) else none)) else (if pc < 13 then (if pc = 10 then some (.putfield 11, 3) else none) else (if pc = 13 then some (.return_, 1) else none)))
set_option maxRecDepth 100000 in
theorem xo_32_c0 : ([0, 1, 4, 5, 7, 10, 13] : List Nat).all (fun pc => match xo_32 pc with | none => true | some r => decide (decode cX2_init pc = .ok r)) = true := by decide +kernel
set_option maxRecDepth 100000 in
theorem xo_32_no : (List.range 14).all (fun pc => (xo_32 pc).isNone || (([0, 1, 4, 5, 7, 10, 13] : List Nat).contains pc)) = true := by decide +kernel
theorem xo_32_top (pc : Nat) (h : 14 ≤ pc) : xo_32 pc = none := if_pos h
theorem xo_32_ok (pc : Nat) (r : Instr × Nat) (h : xo_32 pc = some r) : decode cX2_init pc = .ok r := by
  rcases Nat.lt_or_ge pc 14 with hl | hl
  · have h1 := List.all_eq_true.mp xo_32_no pc (List.mem_range.mpr hl)
    rw [h] at h1
    simp only [Option.isNone_some, Bool.false_or, Bool.or_eq_true, List.contains_iff_mem, or_assoc] at h1
    rcases h1 with h1
    · have h2 := List.all_eq_true.mp xo_32_c0 pc h1
      rw [h] at h2
      exact of_decide_eq_true h2
  · rw [show xo_32 pc = none from if_pos hl] at h; cases h
/-- X2_dropOldest -/
def xo_33 (pc : Nat) : Option (Instr × Nat) := if 53 ≤ pc then none else if pc < 26 then (if pc < 10 then (if pc < 6 then (if pc < 4 then (if pc < 1 then (if pc = 0 then some (.aload_n 0, 1) else none) else (if pc = 1 then some (.getfield 11, 3) else none)) else (if pc < 5 then (if pc = 4 then some (.iconst 0, 1) else none) else (if pc = 5 then some (.aaload, 1) else none))) else (if pc < 8 then (if pc < 7 then (if pc = 6 then some (.astore_n 1, 1) else none) else (if pc = 7 then some (.iconst 1, 1) else none)) else (if pc < 9 then (if pc = 8 then some (.istore_n 2, 1) else none) else (if pc = 9 then some (.iload_n 2, 1) else none)))) else (if pc < 19 then (if pc < 15 then (if pc < 12 then (if pc = 10 then some (.bipush 6, 2) else none) else (if pc = 12 then some (.if_icmp .ge 23, 3) else none)) else (if pc < 16 then (if pc = 15 then some (.aload_n 0, 1) else none) else (if pc = 16 then some (.getfield 11, 3) else none))) else (if pc < 21 then (if pc < 20 then (if pc = 19 then some (.iload_n 2, 1) else none) else (if pc = 20 then some (.iconst 1, 1) else none)) else (if pc < 22 then (if pc = 21 then some (.isub, 1) else none) else (if pc < 23 then (if pc = 22 then some (.aload_n 0, 1) else none) else (if pc = 23 then some (.getfield 11, 3) else none)))))) else (if pc < 40 then (if pc < 32 then (if pc < 28 then (if pc < 27 then (if pc = 26 then some (.iload_n 2, 1) else none) else (if pc = 27 then some (.aaload, 1) else none)) else (if pc < 29 then (if pc = 28 then some (.aastore, 1) else none) else (if pc = 29 then some (.iinc 2 1, 3) else none))) else (if pc < 36 then (if pc < 35 then (if pc = 32 then some (.goto (-23), 3) else none) else (if pc = 35 then some (.aload_n 0, 1) else none)) else (if pc < 39 then (if pc = 36 then some (.getfield 11, 3) else none) else (if pc = 39 then some (.iconst 5, 1) else none)))) else (if pc < 44 then (if pc < 42 then (if pc < 41 then (if pc = 40 then some (.aload_n 1, 1) else none) else (if pc = 41 then some (.aastore, 1) else none)) else (if pc < 43 then (if pc = 42 then some (.aload_n 0, 1) else none) else (if pc = 43 then some (.dup, 1) else none))) else (if pc < 48 then (if pc < 47 then (if pc = 44 then some (.getfield 17, 3) else none) else (if pc = 47 then some (.iconst 1, 1) else none)) else (if pc < 49 then (if pc = 48 then some (.isub, 1) else none) else (if pc < 52 then (if pc = 49 then some (.putfield 17, 3) else none) else (if pc = 52 then some (.return_, 1) else none))))))
set_option maxRecDepth 100000 in
theorem xo_33_c0 : ([0, 1, 4, 5, 6, 7, 8, 9, 10, 12, 15, 16, 19, 20, 21, 22, 23, 26, 27, 28, 29, 32, 35, 36, 39, 40, 41, 42, 43, 44, 47, 48, 49, 52] : List Nat).all (fun pc => match xo_33 pc with | none => true | some r => decide (decode cX2_dropOldest pc = .ok r)) = true := by decide +kernel
set_option maxRecDepth 100000 in
theorem xo_33_no : (List.range 53).all (fun pc => (xo_33 pc).isNone || (([0, 1, 4, 5, 6, 7, 8, 9, 10, 12, 15, 16, 19, 20, 21, 22, 23, 26, 27, 28, 29, 32, 35, 36, 39, 40, 41, 42, 43, 44, 47, 48, 49, 52] : List Nat).contains pc)) = true := by decide +kernel
theorem xo_33_top (pc : Nat) (h : 53 ≤ pc) : xo_33 pc = none := if_pos h
theorem xo_33_ok (pc : Nat) (r : Instr × Nat) (h : xo_33 pc = some r) : decode cX2_dropOldest pc = .ok r := by
  rcases Nat.lt_or_ge pc 53 with hl | hl
  · have h1 := List.all_eq_true.mp xo_33_no pc (List.mem_range.mpr hl)
    rw [h] at h1
    simp only [Option.isNone_some, Bool.false_or, Bool.or_eq_true, List.contains_iff_mem, or_assoc] at h1
    rcases h1 with h1
    · have h2 := List.all_eq_true.mp xo_33_c0 pc h1
      rw [h] at h2
      exact of_decide_eq_true h2
  · rw [show xo_33 pc = none from if_pos hl] at h; cases h
/-- X4_init -/
def xo_34 (pc : Nat) : Option (Instr × Nat) := if 67 ≤ pc then none else if pc < 31 then (if pc < 18 then (if pc < 8 then (if pc < 4 then (if pc < 1 then (if pc = 0 then some (.aload_n 0, 1) else none) else (if pc = 1 then some (.invokespecial 3, 3) else none)) else (if pc < 5 then (if pc = 4 then some (.aload_n 0, 1) else none) else (if pc = 5 then some (.invokestatic 9, 3) else none))) else (if pc < 12 then (if pc < 11 then (if pc = 8 then some (.putfield 13, 3) else none) else (if pc = 11 then some (.aload_n 0, 1) else none)) else (if pc < 15 then (if pc = 12 then some (.invokestatic 9, 3) else none) else (if pc = 15 then some (.putfield 19, 3) else none)))) else (if pc < 24 then (if pc < 20 then (if pc < 19 then (if pc = 18 then some (.aload_n 0, 1) else none) else (if pc = 19 then some (.iconst 3, 1) else none)) else (if pc < 23 then (if pc = 20 then some (.anewarray 22, 3) else none) else (if pc = 23 then some (.dup, 1) else none))) else (if pc < 28 then (if pc < 25 then (if pc = 24 then some (.iconst 0, 1) else none) else (if pc = 25 then some (.invokestatic 9, 3) else none)) else (if pc < 29 then (if pc = 28 then some (.aastore, 1) else none) else (if pc < 30 then (if pc = 29 then some (.dup, 1) else none) else (if pc = 30 then some (.iconst 1, 1) else none)))))) else (if pc < 46 then (if pc < 37 then (if pc < 35 then (if pc < 34 then (if pc = 31 then some (.invokestatic 9, 3) else none) else (if pc = 34 then some (.aastore, 1) else none)) else (if pc < 36 then (if pc = 35 then some (.dup, 1) else none) else (if pc = 36 then some (.iconst 2, 1) else none))) else (if pc < 41 then (if pc < 40 then (if pc = 37 then some (.invokestatic 9, 3) else none) else (if pc = 40 then some (.aastore, 1) else none)) else (if pc < 44 then (if pc = 41 then some (.putfield 23, 3) else none) else (if pc < 45 then (if pc = 44 then some (.aload_n 0, 1) else none) else (if pc = 45 then some (.iconst 3, 1) else none))))) else (if pc < 56 then (if pc < 52 then (if pc < 48 then (if pc = 46 then some (.bipush 20, 2) else none) else (if pc = 48 then some (.multianewarray 27 2, 4) else none)) else (if pc < 55 then (if pc = 52 then some (.putfield 28, 3) else none) else (if pc = 55 then some (.aload_n 0, 1) else none))) else (if pc < 59 then (if pc < 57 then (if pc = 56 then some (.iconst 3, 1) else none) else (if pc = 57 then some (.bipush 20, 2) else none)) else (if pc < 63 then (if pc = 59 then some (.multianewarray 27 2, 4) else none) else (if pc < 66 then (if pc = 63 then some (.putfield 31, 3) else none) else (if pc = 66 then some (.return_, 1) else none))))))
set_option maxRecDepth 100000 in
theorem xo_34_c0 : ([0, 1, 4, 5, 8, 11, 12, 15, 18, 19, 20, 23, 24, 25, 28, 29, 30, 31, 34, 35, 36, 37, 40, 41, 44, 45, 46, 48, 52, 55, 56, 57, 59, 63, 66] : List Nat).all (fun pc => match xo_34 pc with | none => true | some r => decide (decode cX4_init pc = .ok r)) = true := by decide +kernel
set_option maxRecDepth 100000 in
theorem xo_34_no : (List.range 67).all (fun pc => (xo_34 pc).isNone || (([0, 1, 4, 5, 8, 11, 12, 15, 18, 19, 20, 23, 24, 25, 28, 29, 30, 31, 34, 35, 36, 37, 40, 41, 44, 45, 46, 48, 52, 55, 56, 57, 59, 63, 66] : List Nat).contains pc)) = true := by decide +kernel
theorem xo_34_top (pc : Nat) (h : 67 ≤ pc) : xo_34 pc = none := if_pos h
theorem xo_34_ok (pc : Nat) (r : Instr × Nat) (h : xo_34 pc = some r) : decode cX4_init pc = .ok r := by
  rcases Nat.lt_or_ge pc 67 with hl | hl
  · have h1 := List.all_eq_true.mp xo_34_no pc (List.mem_range.mpr hl)
    rw [h] at h1
    simp only [Option.isNone_some, Bool.false_or, Bool.or_eq_true, List.contains_iff_mem, or_assoc] at h1
    rcases h1 with h1
    · have h2 := List.all_eq_true.mp xo_34_c0 pc h1
      rw [h] at h2
      exact of_decide_eq_true h2
  · rw [show xo_34 pc = none from if_pos hl] at h; cases h
/-- X5_init -/
def xo_35 (pc : Nat) : Option (Instr × Nat) := if 65 ≤ pc then none else if pc < 32 then (if pc < 18 then (if pc < 8 then (if pc < 4 then (if pc < 1 then (if pc = 0 then some (.aload_n 0, 1) else none) else (if pc = 1 then some (.invokespecial 3, 3) else none)) else (if pc < 5 then (if pc = 4 then some (.aload_n 0, 1) else none) else (if pc = 5 then some (.getstatic 9, 3) else none))) else (if pc < 14 then (if pc < 11 then (if pc = 8 then some (.invokevirtual 13, 3) else none) else (if pc = 11 then some (.checkcast 14, 3) else none)) else (if pc < 17 then (if pc = 14 then some (.putfield 18, 3) else none) else (if pc = 17 then some (.aload_n 0, 1) else none)))) else (if pc < 23 then (if pc < 21 then (if pc < 19 then (if pc = 18 then some (.iconst 3, 1) else none) else (if pc = 19 then some (.newarray .int, 2) else none)) else (if pc < 22 then (if pc = 21 then some (.dup, 1) else none) else (if pc = 22 then some (.iconst 0, 1) else none))) else (if pc < 27 then (if pc < 26 then (if pc = 23 then some (.sipush 255, 3) else none) else (if pc = 26 then some (.iastore, 1) else none)) else (if pc < 28 then (if pc = 27 then some (.dup, 1) else none) else (if pc < 29 then (if pc = 28 then some (.iconst 1, 1) else none) else (if pc = 29 then some (.sipush 255, 3) else none)))))) else (if pc < 46 then (if pc < 38 then (if pc < 34 then (if pc < 33 then (if pc = 32 then some (.iastore, 1) else none) else (if pc = 33 then some (.dup, 1) else none)) else (if pc < 35 then (if pc = 34 then some (.iconst 2, 1) else none) else (if pc = 35 then some (.sipush 255, 3) else none))) else (if pc < 42 then (if pc < 39 then (if pc = 38 then some (.iastore, 1) else none) else (if pc = 39 then some (.putfield 23, 3) else none)) else (if pc < 43 then (if pc = 42 then some (.aload_n 0, 1) else none) else (if pc = 43 then some (.new 26, 3) else none)))) else (if pc < 54 then (if pc < 50 then (if pc < 47 then (if pc = 46 then some (.dup, 1) else none) else (if pc = 47 then some (.invokespecial 28, 3) else none)) else (if pc < 53 then (if pc = 50 then some (.putfield 29, 3) else none) else (if pc = 53 then some (.aload_n 0, 1) else none))) else (if pc < 58 then (if pc < 57 then (if pc = 54 then some (.new 33, 3) else none) else (if pc = 57 then some (.dup, 1) else none)) else (if pc < 61 then (if pc = 58 then some (.invokespecial 35, 3) else none) else (if pc < 64 then (if pc = 61 then some (.putfield 36, 3) else none) else (if pc = 64 then some (.return_, 1) else none))))))
set_option maxRecDepth 100000 in
theorem xo_35_c0 : ([0, 1, 4, 5, 8, 11, 14, 17, 18, 19, 21, 22, 23, 26, 27, 28, 29, 32, 33, 34, 35, 38, 39, 42, 43, 46, 47, 50, 53, 54, 57, 58, 61, 64] : List Nat).all (fun pc => match xo_35 pc with | none => true | some r => decide (decode cX5_init pc = .ok r)) = true := by decide +kernel
set_option maxRecDepth 100000 in
theorem xo_35_no : (List.range 65).all (fun pc => (xo_35 pc).isNone || (([0, 1, 4, 5, 8, 11, 14, 17, 18, 19, 21, 22, 23, 26, 27, 28, 29, 32, 33, 34, 35, 38, 39, 42, 43, 46, 47, 50, 53, 54, 57, 58, 61, 64] : List Nat).contains pc)) = true := by decide +kernel
theorem xo_35_top (pc : Nat) (h : 65 ≤ pc) : xo_35 pc = none := if_pos h
theorem xo_35_ok (pc : Nat) (r : Instr × Nat) (h : xo_35 pc = some r) : decode cX5_init pc = .ok r := by
  rcases Nat.lt_or_ge pc 65 with hl | hl
  · have h1 := List.all_eq_true.mp xo_35_no pc (List.mem_range.mpr hl)
    rw [h] at h1
    simp only [Option.isNone_some, Bool.false_or, Bool.or_eq_true, List.contains_iff_mem, or_assoc] at h1
    rcases h1 with h1
    · have h2 := List.all_eq_true.mp xo_35_c0 pc h1
      rw [h] at h2
      exact of_decide_eq_true h2
  · rw [show xo_35 pc = none from if_pos hl] at h; cases h
/-- X4_copyFrom -/
def xo_36 (pc : Nat) : Option (Instr × Nat) := if 109 ≤ pc then none else if pc < 53 then (if pc < 30 then (if pc < 15 then (if pc < 6 then (if pc < 4 then (if pc < 1 then (if pc = 0 then some (.aload_n 1, 1) else none) else (if pc = 1 then some (.getfield 13, 3) else none)) else (if pc < 5 then (if pc = 4 then some (.iconst 0, 1) else none) else (if pc = 5 then some (.aload_n 0, 1) else none))) else (if pc < 10 then (if pc < 9 then (if pc = 6 then some (.getfield 13, 3) else none) else (if pc = 9 then some (.iconst 0, 1) else none)) else (if pc < 12 then (if pc = 10 then some (.bipush 20, 2) else none) else (if pc = 12 then some (.invokestatic 34, 3) else none)))) else (if pc < 21 then (if pc < 19 then (if pc < 16 then (if pc = 15 then some (.aload_n 1, 1) else none) else (if pc = 16 then some (.getfield 19, 3) else none)) else (if pc < 20 then (if pc = 19 then some (.iconst 0, 1) else none) else (if pc = 20 then some (.aload_n 0, 1) else none))) else (if pc < 25 then (if pc < 24 then (if pc = 21 then some (.getfield 19, 3) else none) else (if pc = 24 then some (.iconst 0, 1) else none)) else (if pc < 27 then (if pc = 25 then some (.bipush 20, 2) else none) else (if pc = 27 then some (.invokestatic 34, 3) else none))))) else (if pc < 42 then (if pc < 34 then (if pc < 32 then (if pc < 31 then (if pc = 30 then some (.iconst 0, 1) else none) else (if pc = 31 then some (.istore_n 2, 1) else none)) else (if pc < 33 then (if pc = 32 then some (.iload_n 2, 1) else none) else (if pc = 33 then some (.iconst 3, 1) else none))) else (if pc < 38 then (if pc < 37 then (if pc = 34 then some (.if_icmp .ge 66, 3) else none) else (if pc = 37 then some (.aload_n 1, 1) else none)) else (if pc < 41 then (if pc = 38 then some (.getfield 23, 3) else none) else (if pc = 41 then some (.iload_n 2, 1) else none)))) else (if pc < 48 then (if pc < 44 then (if pc < 43 then (if pc = 42 then some (.aaload, 1) else none) else (if pc = 43 then some (.iconst 0, 1) else none)) else (if pc < 45 then (if pc = 44 then some (.aload_n 0, 1) else none) else (if pc = 45 then some (.getfield 23, 3) else none))) else (if pc < 50 then (if pc < 49 then (if pc = 48 then some (.iload_n 2, 1) else none) else (if pc = 49 then some (.aaload, 1) else none)) else (if pc < 51 then (if pc = 50 then some (.iconst 0, 1) else none) else (if pc = 51 then some (.bipush 20, 2) else none)))))) else (if pc < 80 then (if pc < 67 then (if pc < 61 then (if pc < 57 then (if pc < 56 then (if pc = 53 then some (.invokestatic 34, 3) else none) else (if pc = 56 then some (.aload_n 1, 1) else none)) else (if pc < 60 then (if pc = 57 then some (.getfield 28, 3) else none) else (if pc = 60 then some (.iload_n 2, 1) else none))) else (if pc < 63 then (if pc < 62 then (if pc = 61 then some (.aaload, 1) else none) else (if pc = 62 then some (.iconst 0, 1) else none)) else (if pc < 64 then (if pc = 63 then some (.aload_n 0, 1) else none) else (if pc = 64 then some (.getfield 28, 3) else none)))) else (if pc < 72 then (if pc < 69 then (if pc < 68 then (if pc = 67 then some (.iload_n 2, 1) else none) else (if pc = 68 then some (.aaload, 1) else none)) else (if pc < 70 then (if pc = 69 then some (.iconst 0, 1) else none) else (if pc = 70 then some (.bipush 20, 2) else none))) else (if pc < 76 then (if pc < 75 then (if pc = 72 then some (.invokestatic 34, 3) else none) else (if pc = 75 then some (.aload_n 1, 1) else none)) else (if pc < 79 then (if pc = 76 then some (.getfield 31, 3) else none) else (if pc = 79 then some (.iload_n 2, 1) else none))))) else (if pc < 91 then (if pc < 86 then (if pc < 82 then (if pc < 81 then (if pc = 80 then some (.aaload, 1) else none) else (if pc = 81 then some (.iconst 0, 1) else none)) else (if pc < 83 then (if pc = 82 then some (.aload_n 0, 1) else none) else (if pc = 83 then some (.getfield 31, 3) else none))) else (if pc < 88 then (if pc < 87 then (if pc = 86 then some (.iload_n 2, 1) else none) else (if pc = 87 then some (.aaload, 1) else none)) else (if pc < 89 then (if pc = 88 then some (.iconst 0, 1) else none) else (if pc = 89 then some (.bipush 20, 2) else none)))) else (if pc < 101 then (if pc < 97 then (if pc < 94 then (if pc = 91 then some (.invokestatic 34, 3) else none) else (if pc = 94 then some (.iinc 2 1, 3) else none)) else (if pc < 100 then (if pc = 97 then some (.goto (-65), 3) else none) else (if pc = 100 then some (.aload_n 0, 1) else none))) else (if pc < 105 then (if pc < 102 then (if pc = 101 then some (.aload_n 1, 1) else none) else (if pc = 102 then some (.getfield 40, 3) else none)) else (if pc < 108 then (if pc = 105 then some (.putfield 40, 3) else none) else (if pc = 108 then some (.return_, 1) else none))))))
set_option maxRecDepth 100000 in
theorem xo_36_c0 : ([0, 1, 4, 5, 6, 9, 10, 12, 15, 16, 19, 20, 21, 24, 25, 27, 30, 31, 32, 33, 34, 37, 38, 41, 42, 43, 44, 45, 48, 49, 50, 51, 53, 56, 57, 60, 61, 62, 63, 64, 67, 68, 69, 70, 72] : List Nat).all (fun pc => match xo_36 pc with | none => true | some r => decide (decode cX4_copyFrom pc = .ok r)) = true := by decide +kernel
set_option maxRecDepth 100000 in
theorem xo_36_c1 : ([75, 76, 79, 80, 81, 82, 83, 86, 87, 88, 89, 91, 94, 97, 100, 101, 102, 105, 108] : List Nat).all (fun pc => match xo_36 pc with | none => true | some r => decide (decode cX4_copyFrom pc = .ok r)) = true := by decide +kernel
set_option maxRecDepth 100000 in
theorem xo_36_no : (List.range 109).all (fun pc => (xo_36 pc).isNone || (([0, 1, 4, 5, 6, 9, 10, 12, 15, 16, 19, 20, 21, 24, 25, 27, 30, 31, 32, 33, 34, 37, 38, 41, 42, 43, 44, 45, 48, 49, 50, 51, 53, 56, 57, 60, 61, 62, 63, 64, 67, 68, 69, 70, 72] : List Nat).contains pc || ([75, 76, 79, 80, 81, 82, 83, 86, 87, 88, 89, 91, 94, 97, 100, 101, 102, 105, 108] : List Nat).contains pc)) = true := by decide +kernel
theorem xo_36_top (pc : Nat) (h : 109 ≤ pc) : xo_36 pc = none := if_pos h
theorem xo_36_ok (pc : Nat) (r : Instr × Nat) (h : xo_36 pc = some r) : decode cX4_copyFrom pc = .ok r := by
  rcases Nat.lt_or_ge pc 109 with hl | hl
  · have h1 := List.all_eq_true.mp xo_36_no pc (List.mem_range.mpr hl)
    rw [h] at h1
    simp only [Option.isNone_some, Bool.false_or, Bool.or_eq_true, List.contains_iff_mem, or_assoc] at h1
    rcases h1 with h1 | h1
    · have h2 := List.all_eq_true.mp xo_36_c0 pc h1
      rw [h] at h2
      exact of_decide_eq_true h2
    · have h2 := List.all_eq_true.mp xo_36_c1 pc h1
      rw [h] at h2
      exact of_decide_eq_true h2
  · rw [show xo_36 pc = none from if_pos hl] at h; cases h
/-- X5_copyFrom -/
def xo_37 (pc : Nat) : Option (Instr × Nat) := if 59 ≤ pc then none else if pc < 25 then (if pc < 11 then (if pc < 5 then (if pc < 1 then (if pc = 0 then some (.aload_n 1, 1) else none) else (if pc < 4 then (if pc = 1 then some (.getfield 18, 3) else none) else (if pc = 4 then some (.iconst 0, 1) else none))) else (if pc < 9 then (if pc < 6 then (if pc = 5 then some (.aload_n 0, 1) else none) else (if pc = 6 then some (.getfield 18, 3) else none)) else (if pc < 10 then (if pc = 9 then some (.iconst 0, 1) else none) else (if pc = 10 then some (.iconst 4, 1) else none)))) else (if pc < 19 then (if pc < 15 then (if pc < 14 then (if pc = 11 then some (.invokestatic 40, 3) else none) else (if pc = 14 then some (.aload_n 1, 1) else none)) else (if pc < 18 then (if pc = 15 then some (.getfield 23, 3) else none) else (if pc = 18 then some (.iconst 0, 1) else none))) else (if pc < 23 then (if pc < 20 then (if pc = 19 then some (.aload_n 0, 1) else none) else (if pc = 20 then some (.getfield 23, 3) else none)) else (if pc < 24 then (if pc = 23 then some (.iconst 0, 1) else none) else (if pc = 24 then some (.iconst 3, 1) else none))))) else (if pc < 43 then (if pc < 33 then (if pc < 29 then (if pc < 28 then (if pc = 25 then some (.invokestatic 40, 3) else none) else (if pc = 28 then some (.aload_n 0, 1) else none)) else (if pc < 32 then (if pc = 29 then some (.getfield 29, 3) else none) else (if pc = 32 then some (.aload_n 1, 1) else none))) else (if pc < 39 then (if pc < 36 then (if pc = 33 then some (.getfield 29, 3) else none) else (if pc = 36 then some (.invokevirtual 46, 3) else none)) else (if pc < 40 then (if pc = 39 then some (.aload_n 0, 1) else none) else (if pc = 40 then some (.getfield 36, 3) else none)))) else (if pc < 51 then (if pc < 47 then (if pc < 44 then (if pc = 43 then some (.aload_n 1, 1) else none) else (if pc = 44 then some (.getfield 36, 3) else none)) else (if pc < 50 then (if pc = 47 then some (.invokevirtual 50, 3) else none) else (if pc = 50 then some (.aload_n 0, 1) else none))) else (if pc < 55 then (if pc < 52 then (if pc = 51 then some (.aload_n 1, 1) else none) else (if pc = 52 then some (.getfield 53, 3) else none)) else (if pc < 58 then (if pc = 55 then some (.putfield 53, 3) else none) else (if pc = 58 then some (.return_, 1) else none)))))
set_option maxRecDepth 100000 in
theorem xo_37_c0 : ([0, 1, 4, 5, 6, 9, 10, 11, 14, 15, 18, 19, 20, 23, 24, 25, 28, 29, 32, 33, 36, 39, 40, 43, 44, 47, 50, 51, 52, 55, 58] : List Nat).all (fun pc => match xo_37 pc with | none => true | some r => decide (decode cX5_copyFrom pc = .ok r)) = true := by decide +kernel
set_option maxRecDepth 100000 in
theorem xo_37_no : (List.range 59).all (fun pc => (xo_37 pc).isNone || (([0, 1, 4, 5, 6, 9, 10, 11, 14, 15, 18, 19, 20, 23, 24, 25, 28, 29, 32, 33, 36, 39, 40, 43, 44, 47, 50, 51, 52, 55, 58] : List Nat).contains pc)) = true := by decide +kernel
theorem xo_37_top (pc : Nat) (h : 59 ≤ pc) : xo_37 pc = none := if_pos h
theorem xo_37_ok (pc : Nat) (r : Instr × Nat) (h : xo_37 pc = some r) : decode cX5_copyFrom pc = .ok r := by
  rcases Nat.lt_or_ge pc 59 with hl | hl
  · have h1 := List.all_eq_true.mp xo_37_no pc (List.mem_range.mpr hl)
    rw [h] at h1
    simp only [Option.isNone_some, Bool.false_or, Bool.or_eq_true, List.contains_iff_mem, or_assoc] at h1
    rcases h1 with h1
    · have h2 := List.all_eq_true.mp xo_37_c0 pc h1
      rw [h] at h2
      exact of_decide_eq_true h2
  · rw [show xo_37 pc = none from if_pos hl] at h; cases h
/-- X6_copyInto -/
def xo_38 (pc : Nat) : Option (Instr × Nat) := if 23 ≤ pc then none else if pc < 14 then (if pc < 7 then (if pc < 1 then (if pc = 0 then some (.aload_n 0, 1) else none) else (if pc < 4 then (if pc = 1 then some (.ifnonnull 13, 3) else none) else (if pc = 4 then some (.new 9, 3) else none))) else (if pc < 8 then (if pc = 7 then some (.dup, 1) else none) else (if pc < 11 then (if pc = 8 then some (.invokespecial 11, 3) else none) else (if pc = 11 then some (.goto 4, 3) else none)))) else (if pc < 17 then (if pc < 15 then (if pc = 14 then some (.aload_n 0, 1) else none) else (if pc < 16 then (if pc = 15 then some (.astore_n 2, 1) else none) else (if pc = 16 then some (.aload_n 2, 1) else none))) else (if pc < 21 then (if pc < 18 then (if pc = 17 then some (.aload_n 1, 1) else none) else (if pc = 18 then some (.invokevirtual 40, 3) else none)) else (if pc < 22 then (if pc = 21 then some (.aload_n 2, 1) else none) else (if pc = 22 then some (.areturn, 1) else none))))
set_option maxRecDepth 100000 in
theorem xo_38_c0 : ([0, 1, 4, 7, 8, 11, 14, 15, 16, 17, 18, 21, 22] : List Nat).all (fun pc => match xo_38 pc with | none => true | some r => decide (decode cX6_copyInto pc = .ok r)) = true := by decide +kernel
set_option maxRecDepth 100000 in
theorem xo_38_no : (List.range 23).all (fun pc => (xo_38 pc).isNone || (([0, 1, 4, 7, 8, 11, 14, 15, 16, 17, 18, 21, 22] : List Nat).contains pc)) = true := by decide +kernel
theorem xo_38_top (pc : Nat) (h : 23 ≤ pc) : xo_38 pc = none := if_pos h
theorem xo_38_ok (pc : Nat) (r : Instr × Nat) (h : xo_38 pc = some r) : decode cX6_copyInto pc = .ok r := by
  rcases Nat.lt_or_ge pc 23 with hl | hl
  · have h1 := List.all_eq_true.mp xo_38_no pc (List.mem_range.mpr hl)
    rw [h] at h1
    simp only [Option.isNone_some, Bool.false_or, Bool.or_eq_true, List.contains_iff_mem, or_assoc] at h1
    rcases h1 with h1
    · have h2 := List.all_eq_true.mp xo_38_c0 pc h1
      rw [h] at h2
      exact of_decide_eq_true h2
  · rw [show xo_38 pc = none from if_pos hl] at h; cases h
/-- X2_record -/
def xo_39 (pc : Nat) : Option (Instr × Nat) := if 46 ≤ pc then none else if pc < 25 then (if pc < 13 then (if pc < 6 then (if pc < 1 then (if pc = 0 then some (.aload_n 0, 1) else none) else (if pc < 4 then (if pc = 1 then some (.getfield 17, 3) else none) else (if pc = 4 then some (.bipush 6, 2) else none))) else (if pc < 9 then (if pc = 6 then some (.if_icmp .ne 7, 3) else none) else (if pc < 10 then (if pc = 9 then some (.aload_n 0, 1) else none) else (if pc = 10 then some (.invokevirtual 21, 3) else none)))) else (if pc < 18 then (if pc < 14 then (if pc = 13 then some (.aload_n 0, 1) else none) else (if pc < 17 then (if pc = 14 then some (.getfield 11, 3) else none) else (if pc = 17 then some (.aload_n 0, 1) else none))) else (if pc < 21 then (if pc = 18 then some (.getfield 17, 3) else none) else (if pc < 22 then (if pc = 21 then some (.aload_n 0, 1) else none) else (if pc = 22 then some (.getfield 11, 3) else none))))) else (if pc < 35 then (if pc < 30 then (if pc < 26 then (if pc = 25 then some (.aload_n 0, 1) else none) else (if pc < 29 then (if pc = 26 then some (.getfield 17, 3) else none) else (if pc = 29 then some (.aaload, 1) else none))) else (if pc < 31 then (if pc = 30 then some (.aload_n 1, 1) else none) else (if pc < 34 then (if pc = 31 then some (.invokestatic 24, 3) else none) else (if pc = 34 then some (.aastore, 1) else none)))) else (if pc < 40 then (if pc < 36 then (if pc = 35 then some (.aload_n 0, 1) else none) else (if pc < 37 then (if pc = 36 then some (.dup, 1) else none) else (if pc = 37 then some (.getfield 17, 3) else none))) else (if pc < 42 then (if pc < 41 then (if pc = 40 then some (.iconst 1, 1) else none) else (if pc = 41 then some (.iadd, 1) else none)) else (if pc < 45 then (if pc = 42 then some (.putfield 17, 3) else none) else (if pc = 45 then some (.return_, 1) else none)))))
set_option maxRecDepth 100000 in
theorem xo_39_c0 : ([0, 1, 4, 6, 9, 10, 13, 14, 17, 18, 21, 22, 25, 26, 29, 30, 31, 34, 35, 36, 37, 40, 41, 42, 45] : List Nat).all (fun pc => match xo_39 pc with | none => true | some r => decide (decode cX2_record pc = .ok r)) = true := by decide +kernel
set_option maxRecDepth 100000 in
theorem xo_39_no : (List.range 46).all (fun pc => (xo_39 pc).isNone || (([0, 1, 4, 6, 9, 10, 13, 14, 17, 18, 21, 22, 25, 26, 29, 30, 31, 34, 35, 36, 37, 40, 41, 42, 45] : List Nat).contains pc)) = true := by decide +kernel
theorem xo_39_top (pc : Nat) (h : 46 ≤ pc) : xo_39 pc = none := if_pos h
theorem xo_39_ok (pc : Nat) (r : Instr × Nat) (h : xo_39 pc = some r) : decode cX2_record pc = .ok r := by
  rcases Nat.lt_or_ge pc 46 with hl | hl
  · have h1 := List.all_eq_true.mp xo_39_no pc (List.mem_range.mpr hl)
    rw [h] at h1
    simp only [Option.isNone_some, Bool.false_or, Bool.or_eq_true, List.contains_iff_mem, or_assoc] at h1
    rcases h1 with h1
    · have h2 := List.all_eq_true.mp xo_39_c0 pc h1
      rw [h] at h2
      exact of_decide_eq_true h2
  · rw [show xo_39 pc = none from if_pos hl] at h; cases h
/-- X2_takeBack -/
def xo_40 (pc : Nat) : Option (Instr × Nat) := if 44 ≤ pc then none else if pc < 22 then (if pc < 13 then (if pc < 7 then (if pc < 1 then (if pc = 0 then some (.aload_n 0, 1) else none) else (if pc < 4 then (if pc = 1 then some (.getfield 17, 3) else none) else (if pc = 4 then some (.ifCond .ne 5, 3) else none))) else (if pc < 9 then (if pc < 8 then (if pc = 7 then some (.iconst 0, 1) else none) else (if pc = 8 then some (.ireturn, 1) else none)) else (if pc < 10 then (if pc = 9 then some (.aload_n 0, 1) else none) else (if pc = 10 then some (.getfield 11, 3) else none)))) else (if pc < 18 then (if pc < 14 then (if pc = 13 then some (.aload_n 0, 1) else none) else (if pc < 17 then (if pc = 14 then some (.getfield 17, 3) else none) else (if pc = 17 then some (.iconst 1, 1) else none))) else (if pc < 20 then (if pc < 19 then (if pc = 18 then some (.isub, 1) else none) else (if pc = 19 then some (.aaload, 1) else none)) else (if pc < 21 then (if pc = 20 then some (.astore_n 2, 1) else none) else (if pc = 21 then some (.aload_n 2, 1) else none))))) else (if pc < 33 then (if pc < 27 then (if pc < 25 then (if pc = 22 then some (.ifnonnull 5, 3) else none) else (if pc < 26 then (if pc = 25 then some (.iconst 0, 1) else none) else (if pc = 26 then some (.ireturn, 1) else none))) else (if pc < 29 then (if pc < 28 then (if pc = 27 then some (.aload_n 1, 1) else none) else (if pc = 28 then some (.aload_n 2, 1) else none)) else (if pc < 32 then (if pc = 29 then some (.invokevirtual 28, 3) else none) else (if pc = 32 then some (.aload_n 0, 1) else none)))) else (if pc < 38 then (if pc < 34 then (if pc = 33 then some (.dup, 1) else none) else (if pc < 37 then (if pc = 34 then some (.getfield 17, 3) else none) else (if pc = 37 then some (.iconst 1, 1) else none))) else (if pc < 42 then (if pc < 39 then (if pc = 38 then some (.isub, 1) else none) else (if pc = 39 then some (.putfield 17, 3) else none)) else (if pc < 43 then (if pc = 42 then some (.iconst 1, 1) else none) else (if pc = 43 then some (.ireturn, 1) else none)))))
set_option maxRecDepth 100000 in
theorem xo_40_c0 : ([0, 1, 4, 7, 8, 9, 10, 13, 14, 17, 18, 19, 20, 21, 22, 25, 26, 27, 28, 29, 32, 33, 34, 37, 38, 39, 42, 43] : List Nat).all (fun pc => match xo_40 pc with | none => true | some r => decide (decode cX2_takeBack pc = .ok r)) = true := by decide +kernel
set_option maxRecDepth 100000 in
theorem xo_40_no : (List.range 44).all (fun pc => (xo_40 pc).isNone || (([0, 1, 4, 7, 8, 9, 10, 13, 14, 17, 18, 19, 20, 21, 22, 25, 26, 27, 28, 29, 32, 33, 34, 37, 38, 39, 42, 43] : List Nat).contains pc)) = true := by decide +kernel
theorem xo_40_top (pc : Nat) (h : 44 ≤ pc) : xo_40 pc = none := if_pos h
theorem xo_40_ok (pc : Nat) (r : Instr × Nat) (h : xo_40 pc = some r) : decode cX2_takeBack pc = .ok r := by
  rcases Nat.lt_or_ge pc 44 with hl | hl
  · have h1 := List.all_eq_true.mp xo_40_no pc (List.mem_range.mpr hl)
    rw [h] at h1
    simp only [Option.isNone_some, Bool.false_or, Bool.or_eq_true, List.contains_iff_mem, or_assoc] at h1
    rcases h1 with h1
    · have h2 := List.all_eq_true.mp xo_40_c0 pc h1
      rw [h] at h2
      exact of_decide_eq_true h2
  · rw [show xo_40 pc = none from if_pos hl] at h; cases h
/-- X3_codeAt -/
def xo_41 (pc : Nat) : Option (Instr × Nat) := if 12 ≤ pc then none else if pc < 5 then (if pc < 3 then (if pc < 1 then (if pc = 0 then some (.lload_n 0, 1) else none) else (if pc = 1 then some (.bipush 8, 2) else none)) else (if pc < 4 then (if pc = 3 then some (.iload_n 2, 1) else none) else (if pc = 4 then some (.imul, 1) else none))) else (if pc < 9 then (if pc < 6 then (if pc = 5 then some (.lushr, 1) else none) else (if pc = 6 then some (.ldc2_w 31, 3) else none)) else (if pc < 10 then (if pc = 9 then some (.land, 1) else none) else (if pc < 11 then (if pc = 10 then some (.l2i, 1) else none) else (if pc = 11 then some (.ireturn, 1) else none))))
set_option maxRecDepth 100000 in
theorem xo_41_c0 : ([0, 1, 3, 4, 5, 6, 9, 10, 11] : List Nat).all (fun pc => match xo_41 pc with | none => true | some r => decide (decode cX3_codeAt pc = .ok r)) = true := by decide +kernel
set_option maxRecDepth 100000 in
theorem xo_41_no : (List.range 12).all (fun pc => (xo_41 pc).isNone || (([0, 1, 3, 4, 5, 6, 9, 10, 11] : List Nat).contains pc)) = true := by decide +kernel
theorem xo_41_top (pc : Nat) (h : 12 ≤ pc) : xo_41 pc = none := if_pos h
theorem xo_41_ok (pc : Nat) (r : Instr × Nat) (h : xo_41 pc = some r) : decode cX3_codeAt pc = .ok r := by
  rcases Nat.lt_or_ge pc 12 with hl | hl
  · have h1 := List.all_eq_true.mp xo_41_no pc (List.mem_range.mpr hl)
    rw [h] at h1
    simp only [Option.isNone_some, Bool.false_or, Bool.or_eq_true, List.contains_iff_mem, or_assoc] at h1
    rcases h1 with h1
    · have h2 := List.all_eq_true.mp xo_41_c0 pc h1
      rw [h] at h2
      exact of_decide_eq_true h2
  · rw [show xo_41 pc = none from if_pos hl] at h; cases h
/-- X6_isFrom -/
def xo_42 (pc : Nat) : Option (Instr × Nat) := if 16 ≤ pc then none else if pc < 7 then (if pc < 2 then (if pc < 1 then (if pc = 0 then some (.iload_n 0, 1) else none) else (if pc = 1 then some (.iload_n 1, 1) else none)) else (if pc < 5 then (if pc = 2 then some (.if_icmp .gt 12, 3) else none) else (if pc < 6 then (if pc = 5 then some (.iload_n 1, 1) else none) else (if pc = 6 then some (.iload_n 2, 1) else none)))) else (if pc < 11 then (if pc < 10 then (if pc = 7 then some (.if_icmp .gt 7, 3) else none) else (if pc = 10 then some (.iconst 1, 1) else none)) else (if pc < 14 then (if pc = 11 then some (.goto 4, 3) else none) else (if pc < 15 then (if pc = 14 then some (.iconst 0, 1) else none) else (if pc = 15 then some (.ireturn, 1) else none))))
set_option maxRecDepth 100000 in
theorem xo_42_c0 : ([0, 1, 2, 5, 6, 7, 10, 11, 14, 15] : List Nat).all (fun pc => match xo_42 pc with | none => true | some r => decide (decode cX6_isFrom pc = .ok r)) = true := by decide +kernel
set_option maxRecDepth 100000 in
theorem xo_42_no : (List.range 16).all (fun pc => (xo_42 pc).isNone || (([0, 1, 2, 5, 6, 7, 10, 11, 14, 15] : List Nat).contains pc)) = true := by decide +kernel
theorem xo_42_top (pc : Nat) (h : 16 ≤ pc) : xo_42 pc = none := if_pos h
theorem xo_42_ok (pc : Nat) (r : Instr × Nat) (h : xo_42 pc = some r) : decode cX6_isFrom pc = .ok r := by
  rcases Nat.lt_or_ge pc 16 with hl | hl
  · have h1 := List.all_eq_true.mp xo_42_no pc (List.mem_range.mpr hl)
    rw [h] at h1
    simp only [Option.isNone_some, Bool.false_or, Bool.or_eq_true, List.contains_iff_mem, or_assoc] at h1
    rcases h1 with h1
    · have h2 := List.all_eq_true.mp xo_42_c0 pc h1
      rw [h] at h2
      exact of_decide_eq_true h2
  · rw [show xo_42 pc = none from if_pos hl] at h; cases h
/-- X3_countCharacters -/
def xo_43 (pc : Nat) : Option (Instr × Nat) := if 62 ≤ pc then none else if pc < 35 then (if pc < 12 then (if pc < 5 then (if pc < 2 then (if pc < 1 then (if pc = 0 then some (.iconst 0, 1) else none) else (if pc = 1 then some (.istore_n 2, 1) else none)) else (if pc < 3 then (if pc = 2 then some (.iload_n 2, 1) else none) else (if pc = 3 then some (.bipush 8, 2) else none))) else (if pc < 10 then (if pc < 8 then (if pc = 5 then some (.if_icmp .ge 24, 3) else none) else (if pc = 8 then some (.bipush 33, 2) else none)) else (if pc < 11 then (if pc = 10 then some (.lload_n 0, 1) else none) else (if pc = 11 then some (.iload_n 2, 1) else none)))) else (if pc < 23 then (if pc < 17 then (if pc < 15 then (if pc = 12 then some (.invokestatic 23, 3) else none) else (if pc = 15 then some (.bipush 126, 2) else none)) else (if pc < 20 then (if pc = 17 then some (.invokestatic 27, 3) else none) else (if pc = 20 then some (.ifCond .eq 9, 3) else none))) else (if pc < 29 then (if pc < 26 then (if pc = 23 then some (.iinc 2 1, 3) else none) else (if pc = 26 then some (.goto (-24), 3) else none)) else (if pc < 30 then (if pc = 29 then some (.iload_n 2, 1) else none) else (if pc < 32 then (if pc = 30 then some (.bipush 8, 2) else none) else (if pc = 32 then some (.if_icmp .eq 14, 3) else none)))))) else (if pc < 47 then (if pc < 40 then (if pc < 38 then (if pc < 36 then (if pc = 35 then some (.lload_n 0, 1) else none) else (if pc = 36 then some (.bipush 8, 2) else none)) else (if pc < 39 then (if pc = 38 then some (.iload_n 2, 1) else none) else (if pc = 39 then some (.imul, 1) else none))) else (if pc < 42 then (if pc < 41 then (if pc = 40 then some (.lushr, 1) else none) else (if pc = 41 then some (.lconst 0, 1) else none)) else (if pc < 43 then (if pc = 42 then some (.lcmp, 1) else none) else (if pc < 46 then (if pc = 43 then some (.ifCond .ne 7, 3) else none) else (if pc = 46 then some (.iconst 1, 1) else none))))) else (if pc < 53 then (if pc < 51 then (if pc < 50 then (if pc = 47 then some (.goto 4, 3) else none) else (if pc = 50 then some (.iconst 0, 1) else none)) else (if pc < 52 then (if pc = 51 then some (.istore_n 3, 1) else none) else (if pc = 52 then some (.iload_n 3, 1) else none))) else (if pc < 57 then (if pc < 56 then (if pc = 53 then some (.ifCond .eq 7, 3) else none) else (if pc = 56 then some (.iload_n 2, 1) else none)) else (if pc < 60 then (if pc = 57 then some (.goto 4, 3) else none) else (if pc < 61 then (if pc = 60 then some (.iconst 0, 1) else none) else (if pc = 61 then some (.ireturn, 1) else none))))))
set_option maxRecDepth 100000 in
theorem xo_43_c0 : ([0, 1, 2, 3, 5, 8, 10, 11, 12, 15, 17, 20, 23, 26, 29, 30, 32, 35, 36, 38, 39, 40, 41, 42, 43, 46, 47, 50, 51, 52, 53, 56, 57, 60, 61] : List Nat).all (fun pc => match xo_43 pc with | none => true | some r => decide (decode cX3_countCharacters pc = .ok r)) = true := by decide +kernel
set_option maxRecDepth 100000 in
theorem xo_43_no : (List.range 62).all (fun pc => (xo_43 pc).isNone || (([0, 1, 2, 3, 5, 8, 10, 11, 12, 15, 17, 20, 23, 26, 29, 30, 32, 35, 36, 38, 39, 40, 41, 42, 43, 46, 47, 50, 51, 52, 53, 56, 57, 60, 61] : List Nat).contains pc)) = true := by decide +kernel
theorem xo_43_top (pc : Nat) (h : 62 ≤ pc) : xo_43 pc = none := if_pos h
theorem xo_43_ok (pc : Nat) (r : Instr × Nat) (h : xo_43 pc = some r) : decode cX3_countCharacters pc = .ok r := by
  rcases Nat.lt_or_ge pc 62 with hl | hl
  · have h1 := List.all_eq_true.mp xo_43_no pc (List.mem_range.mpr hl)
    rw [h] at h1
    simp only [Option.isNone_some, Bool.false_or, Bool.or_eq_true, List.contains_iff_mem, or_assoc] at h1
    rcases h1 with h1
    · have h2 := List.all_eq_true.mp xo_43_c0 pc h1
      rw [h] at h2
      exact of_decide_eq_true h2
  · rw [show xo_43 pc = none from if_pos hl] at h; cases h
/-- X3_append -/
def xo_44 (pc : Nat) : Option (Instr × Nat) := if 73 ≤ pc then none else if pc < 33 then (if pc < 17 then (if pc < 9 then (if pc < 4 then (if pc < 1 then (if pc = 0 then some (.lload_n 1, 1) else none) else (if pc = 1 then some (.invokestatic 15, 3) else none)) else (if pc < 5 then (if pc = 4 then some (.istore_n 3, 1) else none) else (if pc < 6 then (if pc = 5 then some (.iload_n 3, 1) else none) else (if pc = 6 then some (.ifCond .ne 6, 3) else none)))) else (if pc < 12 then (if pc < 11 then (if pc = 9 then some (.bipush (-2), 2) else none) else (if pc = 11 then some (.ireturn, 1) else none)) else (if pc < 13 then (if pc = 12 then some (.aload_n 0, 1) else none) else (if pc < 16 then (if pc = 13 then some (.getfield 19, 3) else none) else (if pc = 16 then some (.iload_n 3, 1) else none))))) else (if pc < 26 then (if pc < 20 then (if pc < 18 then (if pc = 17 then some (.iadd, 1) else none) else (if pc = 18 then some (.bipush 60, 2) else none)) else (if pc < 23 then (if pc = 20 then some (.if_icmp .le 6, 3) else none) else (if pc < 25 then (if pc = 23 then some (.bipush (-4), 2) else none) else (if pc = 25 then some (.ireturn, 1) else none)))) else (if pc < 28 then (if pc < 27 then (if pc = 26 then some (.iload_n 3, 1) else none) else (if pc = 27 then some (.iconst 1, 1) else none)) else (if pc < 29 then (if pc = 28 then some (.isub, 1) else none) else (if pc < 31 then (if pc = 29 then some (.istore 4, 2) else none) else (if pc = 31 then some (.iload 4, 2) else none)))))) else (if pc < 52 then (if pc < 44 then (if pc < 37 then (if pc < 36 then (if pc = 33 then some (.ifCond .lt 35, 3) else none) else (if pc = 36 then some (.aload_n 0, 1) else none)) else (if pc < 40 then (if pc = 37 then some (.getfield 9, 3) else none) else (if pc < 41 then (if pc = 40 then some (.aload_n 0, 1) else none) else (if pc = 41 then some (.getfield 19, 3) else none)))) else (if pc < 47 then (if pc < 45 then (if pc = 44 then some (.lload_n 1, 1) else none) else (if pc = 45 then some (.iload 4, 2) else none)) else (if pc < 50 then (if pc = 47 then some (.invokestatic 23, 3) else none) else (if pc < 51 then (if pc = 50 then some (.i2c, 1) else none) else (if pc = 51 then some (.castore, 1) else none))))) else (if pc < 59 then (if pc < 54 then (if pc < 53 then (if pc = 52 then some (.aload_n 0, 1) else none) else (if pc = 53 then some (.dup, 1) else none)) else (if pc < 57 then (if pc = 54 then some (.getfield 19, 3) else none) else (if pc < 58 then (if pc = 57 then some (.iconst 1, 1) else none) else (if pc = 58 then some (.iadd, 1) else none)))) else (if pc < 68 then (if pc < 62 then (if pc = 59 then some (.putfield 19, 3) else none) else (if pc < 65 then (if pc = 62 then some (.iinc 4 (-1), 3) else none) else (if pc = 65 then some (.goto (-34), 3) else none))) else (if pc < 69 then (if pc = 68 then some (.aload_n 0, 1) else none) else (if pc < 72 then (if pc = 69 then some (.getfield 19, 3) else none) else (if pc = 72 then some (.ireturn, 1) else none))))))
set_option maxRecDepth 100000 in
theorem xo_44_c0 : ([0, 1, 4, 5, 6, 9, 11, 12, 13, 16, 17, 18, 20, 23, 25, 26, 27, 28, 29, 31, 33, 36, 37, 40, 41, 44, 45, 47, 50, 51, 52, 53, 54, 57, 58, 59, 62, 65, 68, 69, 72] : List Nat).all (fun pc => match xo_44 pc with | none => true | some r => decide (decode cX3_append pc = .ok r)) = true := by decide +kernel
set_option maxRecDepth 100000 in
theorem xo_44_no : (List.range 73).all (fun pc => (xo_44 pc).isNone || (([0, 1, 4, 5, 6, 9, 11, 12, 13, 16, 17, 18, 20, 23, 25, 26, 27, 28, 29, 31, 33, 36, 37, 40, 41, 44, 45, 47, 50, 51, 52, 53, 54, 57, 58, 59, 62, 65, 68, 69, 72] : List Nat).contains pc)) = true := by decide +kernel
theorem xo_44_top (pc : Nat) (h : 73 ≤ pc) : xo_44 pc = none := if_pos h
theorem xo_44_ok (pc : Nat) (r : Instr × Nat) (h : xo_44 pc = some r) : decode cX3_append pc = .ok r := by
  rcases Nat.lt_or_ge pc 73 with hl | hl
  · have h1 := List.all_eq_true.mp xo_44_no pc (List.mem_range.mpr hl)
    rw [h] at h1
    simp only [Option.isNone_some, Bool.false_or, Bool.or_eq_true, List.contains_iff_mem, or_assoc] at h1
    rcases h1 with h1
    · have h2 := List.all_eq_true.mp xo_44_c0 pc h1
      rw [h] at h2
      exact of_decide_eq_true h2
  · rw [show xo_44 pc = none from if_pos hl] at h; cases h
/-- X3_clear -/
def xo_45 (pc : Nat) : Option (Instr × Nat) := if 12 ≤ pc then none else if pc < 6 then (if pc < 4 then (if pc < 1 then (if pc = 0 then some (.aload_n 0, 1) else none) else (if pc = 1 then some (.getfield 19, 3) else none)) else (if pc < 5 then (if pc = 4 then some (.istore_n 1, 1) else none) else (if pc = 5 then some (.aload_n 0, 1) else none))) else (if pc < 10 then (if pc < 7 then (if pc = 6 then some (.iconst 0, 1) else none) else (if pc = 7 then some (.putfield 19, 3) else none)) else (if pc < 11 then (if pc = 10 then some (.iload_n 1, 1) else none) else (if pc = 11 then some (.ireturn, 1) else none)))
set_option maxRecDepth 100000 in
theorem xo_45_c0 : ([0, 1, 4, 5, 6, 7, 10, 11] : List Nat).all (fun pc => match xo_45 pc with | none => true | some r => decide (decode cX3_clear pc = .ok r)) = true := by decide +kernel
set_option maxRecDepth 100000 in
theorem xo_45_no : (List.range 12).all (fun pc => (xo_45 pc).isNone || (([0, 1, 4, 5, 6, 7, 10, 11] : List Nat).contains pc)) = true := by decide +kernel
theorem xo_45_top (pc : Nat) (h : 12 ≤ pc) : xo_45 pc = none := if_pos h
theorem xo_45_ok (pc : Nat) (r : Instr × Nat) (h : xo_45 pc = some r) : decode cX3_clear pc = .ok r := by
  rcases Nat.lt_or_ge pc 12 with hl | hl
  · have h1 := List.all_eq_true.mp xo_45_no pc (List.mem_range.mpr hl)
    rw [h] at h1
    simp only [Option.isNone_some, Bool.false_or, Bool.or_eq_true, List.contains_iff_mem, or_assoc] at h1
    rcases h1 with h1
    · have h2 := List.all_eq_true.mp xo_45_c0 pc h1
      rw [h] at h2
      exact of_decide_eq_true h2
  · rw [show xo_45 pc = none from if_pos hl] at h; cases h
/-- X6_isShed -/
def xo_46 (pc : Nat) : Option (Instr × Nat) := if 16 ≤ pc then none else if pc < 7 then (if pc < 2 then (if pc < 1 then (if pc = 0 then some (.iconst 0, 1) else none) else (if pc = 1 then some (.iload_n 0, 1) else none)) else (if pc < 5 then (if pc = 2 then some (.if_icmp .gt 12, 3) else none) else (if pc < 6 then (if pc = 5 then some (.iload_n 0, 1) else none) else (if pc = 6 then some (.iconst 3, 1) else none)))) else (if pc < 11 then (if pc < 10 then (if pc = 7 then some (.if_icmp .ge 7, 3) else none) else (if pc = 10 then some (.iconst 1, 1) else none)) else (if pc < 14 then (if pc = 11 then some (.goto 4, 3) else none) else (if pc < 15 then (if pc = 14 then some (.iconst 0, 1) else none) else (if pc = 15 then some (.ireturn, 1) else none))))
set_option maxRecDepth 100000 in
theorem xo_46_c0 : ([0, 1, 2, 5, 6, 7, 10, 11, 14, 15] : List Nat).all (fun pc => match xo_46 pc with | none => true | some r => decide (decode cX6_isShed pc = .ok r)) = true := by decide +kernel
set_option maxRecDepth 100000 in
theorem xo_46_no : (List.range 16).all (fun pc => (xo_46 pc).isNone || (([0, 1, 2, 5, 6, 7, 10, 11, 14, 15] : List Nat).contains pc)) = true := by decide +kernel
theorem xo_46_top (pc : Nat) (h : 16 ≤ pc) : xo_46 pc = none := if_pos h
theorem xo_46_ok (pc : Nat) (r : Instr × Nat) (h : xo_46 pc = some r) : decode cX6_isShed pc = .ok r := by
  rcases Nat.lt_or_ge pc 16 with hl | hl
  · have h1 := List.all_eq_true.mp xo_46_no pc (List.mem_range.mpr hl)
    rw [h] at h1
    simp only [Option.isNone_some, Bool.false_or, Bool.or_eq_true, List.contains_iff_mem, or_assoc] at h1
    rcases h1 with h1
    · have h2 := List.all_eq_true.mp xo_46_c0 pc h1
      rw [h] at h2
      exact of_decide_eq_true h2
  · rw [show xo_46 pc = none from if_pos hl] at h; cases h
/-- X4_hasPermit -/
def xo_47 (pc : Nat) : Option (Instr × Nat) := if 10 ≤ pc then none else if pc < 5 then (if pc < 1 then (if pc = 0 then some (.aload_n 0, 1) else none) else (if pc < 4 then (if pc = 1 then some (.getfield 13, 3) else none) else (if pc = 4 then some (.iload_n 1, 1) else none))) else (if pc < 6 then (if pc = 5 then some (.iaload, 1) else none) else (if pc < 9 then (if pc = 6 then some (.invokestatic 44, 3) else none) else (if pc = 9 then some (.ireturn, 1) else none)))
set_option maxRecDepth 100000 in
theorem xo_47_c0 : ([0, 1, 4, 5, 6, 9] : List Nat).all (fun pc => match xo_47 pc with | none => true | some r => decide (decode cX4_hasPermit pc = .ok r)) = true := by decide +kernel
set_option maxRecDepth 100000 in
theorem xo_47_no : (List.range 10).all (fun pc => (xo_47 pc).isNone || (([0, 1, 4, 5, 6, 9] : List Nat).contains pc)) = true := by decide +kernel
theorem xo_47_top (pc : Nat) (h : 10 ≤ pc) : xo_47 pc = none := if_pos h
theorem xo_47_ok (pc : Nat) (r : Instr × Nat) (h : xo_47 pc = some r) : decode cX4_hasPermit pc = .ok r := by
  rcases Nat.lt_or_ge pc 10 with hl | hl
  · have h1 := List.all_eq_true.mp xo_47_no pc (List.mem_range.mpr hl)
    rw [h] at h1
    simp only [Option.isNone_some, Bool.false_or, Bool.or_eq_true, List.contains_iff_mem, or_assoc] at h1
    rcases h1 with h1
    · have h2 := List.all_eq_true.mp xo_47_c0 pc h1
      rw [h] at h2
      exact of_decide_eq_true h2
  · rw [show xo_47 pc = none from if_pos hl] at h; cases h
/-- X4_waitsFor -/
def xo_48 (pc : Nat) : Option (Instr × Nat) := if 19 ≤ pc then none else if pc < 8 then (if pc < 5 then (if pc < 1 then (if pc = 0 then some (.aload_n 0, 1) else none) else (if pc < 4 then (if pc = 1 then some (.getfield 23, 3) else none) else (if pc = 4 then some (.iload_n 2, 1) else none))) else (if pc < 6 then (if pc = 5 then some (.aaload, 1) else none) else (if pc < 7 then (if pc = 6 then some (.iload_n 1, 1) else none) else (if pc = 7 then some (.iaload, 1) else none)))) else (if pc < 14 then (if pc < 10 then (if pc = 8 then some (.bipush (-6), 2) else none) else (if pc < 13 then (if pc = 10 then some (.if_icmp .eq 7, 3) else none) else (if pc = 13 then some (.iconst 1, 1) else none))) else (if pc < 17 then (if pc = 14 then some (.goto 4, 3) else none) else (if pc < 18 then (if pc = 17 then some (.iconst 0, 1) else none) else (if pc = 18 then some (.ireturn, 1) else none))))
set_option maxRecDepth 100000 in
theorem xo_48_c0 : ([0, 1, 4, 5, 6, 7, 8, 10, 13, 14, 17, 18] : List Nat).all (fun pc => match xo_48 pc with | none => true | some r => decide (decode cX4_waitsFor pc = .ok r)) = true := by decide +kernel
set_option maxRecDepth 100000 in
theorem xo_48_no : (List.range 19).all (fun pc => (xo_48 pc).isNone || (([0, 1, 4, 5, 6, 7, 8, 10, 13, 14, 17, 18] : List Nat).contains pc)) = true := by decide +kernel
theorem xo_48_top (pc : Nat) (h : 19 ≤ pc) : xo_48 pc = none := if_pos h
theorem xo_48_ok (pc : Nat) (r : Instr × Nat) (h : xo_48 pc = some r) : decode cX4_waitsFor pc = .ok r := by
  rcases Nat.lt_or_ge pc 19 with hl | hl
  · have h1 := List.all_eq_true.mp xo_48_no pc (List.mem_range.mpr hl)
    rw [h] at h1
    simp only [Option.isNone_some, Bool.false_or, Bool.or_eq_true, List.contains_iff_mem, or_assoc] at h1
    rcases h1 with h1
    · have h2 := List.all_eq_true.mp xo_48_c0 pc h1
      rw [h] at h2
      exact of_decide_eq_true h2
  · rw [show xo_48 pc = none from if_pos hl] at h; cases h
/-- X4_shedsWaitedFor -/
def xo_49 (pc : Nat) : Option (Instr × Nat) := if 32 ≤ pc then none else if pc < 15 then (if pc < 5 then (if pc < 2 then (if pc < 1 then (if pc = 0 then some (.iconst 0, 1) else none) else (if pc = 1 then some (.istore_n 2, 1) else none)) else (if pc < 3 then (if pc = 2 then some (.iconst 0, 1) else none) else (if pc < 4 then (if pc = 3 then some (.istore_n 3, 1) else none) else (if pc = 4 then some (.iload_n 3, 1) else none)))) else (if pc < 10 then (if pc < 6 then (if pc = 5 then some (.iconst 3, 1) else none) else (if pc < 9 then (if pc = 6 then some (.if_icmp .ge 24, 3) else none) else (if pc = 9 then some (.aload_n 0, 1) else none))) else (if pc < 11 then (if pc = 10 then some (.iload_n 1, 1) else none) else (if pc < 12 then (if pc = 11 then some (.iload_n 3, 1) else none) else (if pc = 12 then some (.invokevirtual 52, 3) else none))))) else (if pc < 22 then (if pc < 19 then (if pc < 18 then (if pc = 15 then some (.ifCond .eq 9, 3) else none) else (if pc = 18 then some (.iload_n 2, 1) else none)) else (if pc < 20 then (if pc = 19 then some (.iconst 1, 1) else none) else (if pc < 21 then (if pc = 20 then some (.iload_n 3, 1) else none) else (if pc = 21 then some (.ishl, 1) else none)))) else (if pc < 27 then (if pc < 23 then (if pc = 22 then some (.ior, 1) else none) else (if pc < 24 then (if pc = 23 then some (.istore_n 2, 1) else none) else (if pc = 24 then some (.iinc 3 1, 3) else none))) else (if pc < 30 then (if pc = 27 then some (.goto (-23), 3) else none) else (if pc < 31 then (if pc = 30 then some (.iload_n 2, 1) else none) else (if pc = 31 then some (.ireturn, 1) else none)))))
set_option maxRecDepth 100000 in
theorem xo_49_c0 : ([0, 1, 2, 3, 4, 5, 6, 9, 10, 11, 12, 15, 18, 19, 20, 21, 22, 23, 24, 27, 30, 31] : List Nat).all (fun pc => match xo_49 pc with | none => true | some r => decide (decode cX4_shedsWaitedFor pc = .ok r)) = true := by decide +kernel
set_option maxRecDepth 100000 in
theorem xo_49_no : (List.range 32).all (fun pc => (xo_49 pc).isNone || (([0, 1, 2, 3, 4, 5, 6, 9, 10, 11, 12, 15, 18, 19, 20, 21, 22, 23, 24, 27, 30, 31] : List Nat).contains pc)) = true := by decide +kernel
theorem xo_49_top (pc : Nat) (h : 32 ≤ pc) : xo_49 pc = none := if_pos h
theorem xo_49_ok (pc : Nat) (r : Instr × Nat) (h : xo_49 pc = some r) : decode cX4_shedsWaitedFor pc = .ok r := by
  rcases Nat.lt_or_ge pc 32 with hl | hl
  · have h1 := List.all_eq_true.mp xo_49_no pc (List.mem_range.mpr hl)
    rw [h] at h1
    simp only [Option.isNone_some, Bool.false_or, Bool.or_eq_true, List.contains_iff_mem, or_assoc] at h1
    rcases h1 with h1
    · have h2 := List.all_eq_true.mp xo_49_c0 pc h1
      rw [h] at h2
      exact of_decide_eq_true h2
  · rw [show xo_49 pc = none from if_pos hl] at h; cases h
