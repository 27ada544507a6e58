/-- X5_isWithoutPermit -/
def xo_75 (pc : Nat) : Option (Instr × Nat) := if 27 ≤ pc then none else if pc < 13 then (if pc < 7 then (if pc < 1 then (if pc = 0 then some (.aload_n 0, 1) else none) else (if pc < 4 then (if pc = 1 then some (.getfield 29, 3) else none) else (if pc = 4 then some (.getfield 115, 3) else none))) else (if pc < 9 then (if pc < 8 then (if pc = 7 then some (.iload_n 1, 1) else none) else (if pc = 8 then some (.iaload, 1) else none)) else (if pc < 10 then (if pc = 9 then some (.aload_n 0, 1) else none) else (if pc = 10 then some (.getfield 36, 3) else none)))) else (if pc < 21 then (if pc < 17 then (if pc < 16 then (if pc = 13 then some (.getfield 145, 3) else none) else (if pc = 16 then some (.iload_n 1, 1) else none)) else (if pc < 18 then (if pc = 17 then some (.iaload, 1) else none) else (if pc = 18 then some (.if_icmp .eq 7, 3) else none))) else (if pc < 25 then (if pc < 22 then (if pc = 21 then some (.iconst 1, 1) else none) else (if pc = 22 then some (.goto 4, 3) else none)) else (if pc < 26 then (if pc = 25 then some (.iconst 0, 1) else none) else (if pc = 26 then some (.ireturn, 1) else none))))
set_option maxRecDepth 100000 in
theorem xo_75_c0 : ([0, 1, 4, 7, 8, 9, 10, 13, 16, 17, 18, 21, 22, 25, 26] : List Nat).all (fun pc => match xo_75 pc with | none => true | some r => decide (decode cX5_isWithoutPermit pc = .ok r)) = true := by decide +kernel
set_option maxRecDepth 100000 in
theorem xo_75_no : (List.range 27).all (fun pc => (xo_75 pc).isNone || (([0, 1, 4, 7, 8, 9, 10, 13, 16, 17, 18, 21, 22, 25, 26] : List Nat).contains pc)) = true := by decide +kernel
theorem xo_75_top (pc : Nat) (h : 27 ≤ pc) : xo_75 pc = none := if_pos h
theorem xo_75_ok (pc : Nat) (r : Instr × Nat) (h : xo_75 pc = some r) : decode cX5_isWithoutPermit pc = .ok r := by
  rcases Nat.lt_or_ge pc 27 with hl | hl
  · have h1 := List.all_eq_true.mp xo_75_no pc (List.mem_range.mpr hl)
    rw [h] at h1
    simp only [Option.isNone_some, Bool.false_or, Bool.or_eq_true, List.contains_iff_mem, or_assoc] at h1
    rcases h1 with h1
    · have h2 := List.all_eq_true.mp xo_75_c0 pc h1
      rw [h] at h2
      exact of_decide_eq_true h2
  · rw [show xo_75 pc = none from if_pos hl] at h; cases h
/-- X5_looksAbandoned -/
def xo_76 (pc : Nat) : Option (Instr × Nat) := if 37 ≤ pc then none else if pc < 18 then (if pc < 11 then (if pc < 4 then (if pc < 1 then (if pc = 0 then some (.aload_n 0, 1) else none) else (if pc = 1 then some (.getfield 53, 3) else none)) else (if pc < 5 then (if pc = 4 then some (.aload_n 0, 1) else none) else (if pc < 8 then (if pc = 5 then some (.getfield 36, 3) else none) else (if pc = 8 then some (.getfield 130, 3) else none)))) else (if pc < 13 then (if pc < 12 then (if pc = 11 then some (.iload_n 1, 1) else none) else (if pc = 12 then some (.iaload, 1) else none)) else (if pc < 14 then (if pc = 13 then some (.isub, 1) else none) else (if pc < 15 then (if pc = 14 then some (.aload_n 0, 1) else none) else (if pc = 15 then some (.getfield 18, 3) else none))))) else (if pc < 25 then (if pc < 20 then (if pc < 19 then (if pc = 18 then some (.iconst 1, 1) else none) else (if pc = 19 then some (.iaload, 1) else none)) else (if pc < 23 then (if pc = 20 then some (.if_icmp .ge 11, 3) else none) else (if pc < 24 then (if pc = 23 then some (.aload_n 0, 1) else none) else (if pc = 24 then some (.iload_n 1, 1) else none)))) else (if pc < 32 then (if pc < 28 then (if pc = 25 then some (.invokevirtual 187, 3) else none) else (if pc < 31 then (if pc = 28 then some (.ifCond .eq 7, 3) else none) else (if pc = 31 then some (.iconst 1, 1) else none))) else (if pc < 35 then (if pc = 32 then some (.goto 4, 3) else none) else (if pc < 36 then (if pc = 35 then some (.iconst 0, 1) else none) else (if pc = 36 then some (.ireturn, 1) else none)))))
set_option maxRecDepth 100000 in
theorem xo_76_c0 : ([0, 1, 4, 5, 8, 11, 12, 13, 14, 15, 18, 19, 20, 23, 24, 25, 28, 31, 32, 35, 36] : List Nat).all (fun pc => match xo_76 pc with | none => true | some r => decide (decode cX5_looksAbandoned pc = .ok r)) = true := by decide +kernel
set_option maxRecDepth 100000 in
theorem xo_76_no : (List.range 37).all (fun pc => (xo_76 pc).isNone || (([0, 1, 4, 5, 8, 11, 12, 13, 14, 15, 18, 19, 20, 23, 24, 25, 28, 31, 32, 35, 36] : List Nat).contains pc)) = true := by decide +kernel
theorem xo_76_top (pc : Nat) (h : 37 ≤ pc) : xo_76 pc = none := if_pos h
theorem xo_76_ok (pc : Nat) (r : Instr × Nat) (h : xo_76 pc = some r) : decode cX5_looksAbandoned pc = .ok r := by
  rcases Nat.lt_or_ge pc 37 with hl | hl
  · have h1 := List.all_eq_true.mp xo_76_no pc (List.mem_range.mpr hl)
    rw [h] at h1
    simp only [Option.isNone_some, Bool.false_or, Bool.or_eq_true, List.contains_iff_mem, or_assoc] at h1
    rcases h1 with h1
    · have h2 := List.all_eq_true.mp xo_76_c0 pc h1
      rw [h] at h2
      exact of_decide_eq_true h2
  · rw [show xo_76 pc = none from if_pos hl] at h; cases h
/-- X5_latestDueTag -/
def xo_77 (pc : Nat) : Option (Instr × Nat) := if 14 ≤ pc then none else if pc < 7 then (if pc < 4 then (if pc < 1 then (if pc = 0 then some (.aload_n 0, 1) else none) else (if pc = 1 then some (.getfield 53, 3) else none)) else (if pc < 5 then (if pc = 4 then some (.iload_n 1, 1) else none) else (if pc < 6 then (if pc = 5 then some (.iadd, 1) else none) else (if pc = 6 then some (.aload_n 0, 1) else none)))) else (if pc < 11 then (if pc < 10 then (if pc = 7 then some (.getfield 18, 3) else none) else (if pc = 10 then some (.iconst 2, 1) else none)) else (if pc < 12 then (if pc = 11 then some (.iaload, 1) else none) else (if pc < 13 then (if pc = 12 then some (.isub, 1) else none) else (if pc = 13 then some (.ireturn, 1) else none))))
set_option maxRecDepth 100000 in
theorem xo_77_c0 : ([0, 1, 4, 5, 6, 7, 10, 11, 12, 13] : List Nat).all (fun pc => match xo_77 pc with | none => true | some r => decide (decode cX5_latestDueTag pc = .ok r)) = true := by decide +kernel
set_option maxRecDepth 100000 in
theorem xo_77_no : (List.range 14).all (fun pc => (xo_77 pc).isNone || (([0, 1, 4, 5, 6, 7, 10, 11, 12, 13] : List Nat).contains pc)) = true := by decide +kernel
theorem xo_77_top (pc : Nat) (h : 14 ≤ pc) : xo_77 pc = none := if_pos h
theorem xo_77_ok (pc : Nat) (r : Instr × Nat) (h : xo_77 pc = some r) : decode cX5_latestDueTag pc = .ok r := by
  rcases Nat.lt_or_ge pc 14 with hl | hl
  · have h1 := List.all_eq_true.mp xo_77_no pc (List.mem_range.mpr hl)
    rw [h] at h1
    simp only [Option.isNone_some, Bool.false_or, Bool.or_eq_true, List.contains_iff_mem, or_assoc] at h1
    rcases h1 with h1
    · have h2 := List.all_eq_true.mp xo_77_c0 pc h1
      rw [h] at h2
      exact of_decide_eq_true h2
  · rw [show xo_77 pc = none from if_pos hl] at h; cases h
/-- X5_sweepShed -/
def xo_78 (pc : Nat) : Option (Instr × Nat) := if 86 ≤ pc then none else if pc < 41 then (if pc < 18 then (if pc < 9 then (if pc < 4 then (if pc < 1 then (if pc = 0 then some (.iload_n 1, 1) else none) else (if pc = 1 then some (.invokestatic 74, 3) else none)) else (if pc < 7 then (if pc = 4 then some (.ifCond .ne 5, 3) else none) else (if pc < 8 then (if pc = 7 then some (.iconst (-1), 1) else none) else (if pc = 8 then some (.ireturn, 1) else none)))) else (if pc < 12 then (if pc < 10 then (if pc = 9 then some (.iconst 0, 1) else none) else (if pc < 11 then (if pc = 10 then some (.istore_n 2, 1) else none) else (if pc = 11 then some (.iload_n 2, 1) else none))) else (if pc < 14 then (if pc = 12 then some (.bipush 20, 2) else none) else (if pc < 17 then (if pc = 14 then some (.if_icmp .ge 54, 3) else none) else (if pc = 17 then some (.aload_n 0, 1) else none))))) else (if pc < 27 then (if pc < 24 then (if pc < 21 then (if pc = 18 then some (.getfield 36, 3) else none) else (if pc = 21 then some (.getfield 145, 3) else none)) else (if pc < 25 then (if pc = 24 then some (.iload_n 2, 1) else none) else (if pc < 26 then (if pc = 25 then some (.iaload, 1) else none) else (if pc = 26 then some (.iload_n 1, 1) else none)))) else (if pc < 34 then (if pc < 30 then (if pc = 27 then some (.if_icmp .ne 35, 3) else none) else (if pc < 31 then (if pc = 30 then some (.aload_n 0, 1) else none) else (if pc = 31 then some (.getfield 36, 3) else none))) else (if pc < 35 then (if pc = 34 then some (.iload_n 2, 1) else none) else (if pc < 38 then (if pc = 35 then some (.invokevirtual 136, 3) else none) else (if pc = 38 then some (.ifCond .ne 24, 3) else none)))))) else (if pc < 62 then (if pc < 50 then (if pc < 43 then (if pc < 42 then (if pc = 41 then some (.aload_n 0, 1) else none) else (if pc = 42 then some (.iload_n 2, 1) else none)) else (if pc < 46 then (if pc = 43 then some (.invokevirtual 146, 3) else none) else (if pc < 49 then (if pc = 46 then some (.ifCond .eq 16, 3) else none) else (if pc = 49 then some (.aload_n 0, 1) else none)))) else (if pc < 57 then (if pc < 53 then (if pc = 50 then some (.getfield 36, 3) else none) else (if pc < 56 then (if pc = 53 then some (.getfield 139, 3) else none) else (if pc = 56 then some (.iload_n 2, 1) else none))) else (if pc < 58 then (if pc = 57 then some (.aload_n 0, 1) else none) else (if pc < 61 then (if pc = 58 then some (.getfield 53, 3) else none) else (if pc = 61 then some (.iastore, 1) else none))))) else (if pc < 74 then (if pc < 69 then (if pc < 65 then (if pc = 62 then some (.iinc 2 1, 3) else none) else (if pc < 68 then (if pc = 65 then some (.goto (-54), 3) else none) else (if pc = 68 then some (.aload_n 0, 1) else none))) else (if pc < 72 then (if pc = 69 then some (.getfield 36, 3) else none) else (if pc < 73 then (if pc = 72 then some (.iload_n 1, 1) else none) else (if pc = 73 then some (.aload_n 0, 1) else none)))) else (if pc < 79 then (if pc < 75 then (if pc = 74 then some (.iconst 0, 1) else none) else (if pc < 78 then (if pc = 75 then some (.invokevirtual 149, 3) else none) else (if pc = 78 then some (.aload_n 0, 1) else none))) else (if pc < 82 then (if pc = 79 then some (.getfield 53, 3) else none) else (if pc < 85 then (if pc = 82 then some (.invokevirtual 152, 3) else none) else (if pc = 85 then some (.ireturn, 1) else none))))))
set_option maxRecDepth 100000 in
theorem xo_78_c0 : ([0, 1, 4, 7, 8, 9, 10, 11, 12, 14, 17, 18, 21, 24, 25, 26, 27, 30, 31, 34, 35, 38, 41, 42, 43, 46, 49, 50, 53, 56, 57, 58, 61, 62, 65, 68, 69, 72, 73, 74, 75, 78, 79, 82, 85] : List Nat).all (fun pc => match xo_78 pc with | none => true | some r => decide (decode cX5_sweepShed pc = .ok r)) = true := by decide +kernel
set_option maxRecDepth 100000 in
theorem xo_78_no : (List.range 86).all (fun pc => (xo_78 pc).isNone || (([0, 1, 4, 7, 8, 9, 10, 11, 12, 14, 17, 18, 21, 24, 25, 26, 27, 30, 31, 34, 35, 38, 41, 42, 43, 46, 49, 50, 53, 56, 57, 58, 61, 62, 65, 68, 69, 72, 73, 74, 75, 78, 79, 82, 85] : List Nat).contains pc)) = true := by decide +kernel
theorem xo_78_top (pc : Nat) (h : 86 ≤ pc) : xo_78 pc = none := if_pos h
theorem xo_78_ok (pc : Nat) (r : Instr × Nat) (h : xo_78 pc = some r) : decode cX5_sweepShed pc = .ok r := by
  rcases Nat.lt_or_ge pc 86 with hl | hl
  · have h1 := List.all_eq_true.mp xo_78_no pc (List.mem_range.mpr hl)
    rw [h] at h1
    simp only [Option.isNone_some, Bool.false_or, Bool.or_eq_true, List.contains_iff_mem, or_assoc] at h1
    rcases h1 with h1
    · have h2 := List.all_eq_true.mp xo_78_c0 pc h1
      rw [h] at h2
      exact of_decide_eq_true h2
  · rw [show xo_78 pc = none from if_pos hl] at h; cases h
/-- X6_isRack -/
def xo_79 (pc : Nat) : Option (Instr × Nat) := if 17 ≤ pc then none else if pc < 8 then (if pc < 2 then (if pc < 1 then (if pc = 0 then some (.iconst 0, 1) else none) else (if pc = 1 then some (.iload_n 0, 1) else none)) else (if pc < 5 then (if pc = 2 then some (.if_icmp .gt 13, 3) else none) else (if pc < 6 then (if pc = 5 then some (.iload_n 0, 1) else none) else (if pc = 6 then some (.bipush 8, 2) else none)))) else (if pc < 12 then (if pc < 11 then (if pc = 8 then some (.if_icmp .ge 7, 3) else none) else (if pc = 11 then some (.iconst 1, 1) else none)) else (if pc < 15 then (if pc = 12 then some (.goto 4, 3) else none) else (if pc < 16 then (if pc = 15 then some (.iconst 0, 1) else none) else (if pc = 16 then some (.ireturn, 1) else none))))
set_option maxRecDepth 100000 in
theorem xo_79_c0 : ([0, 1, 2, 5, 6, 8, 11, 12, 15, 16] : List Nat).all (fun pc => match xo_79 pc with | none => true | some r => decide (decode cX6_isRack pc = .ok r)) = true := by decide +kernel
set_option maxRecDepth 100000 in
theorem xo_79_no : (List.range 17).all (fun pc => (xo_79 pc).isNone || (([0, 1, 2, 5, 6, 8, 11, 12, 15, 16] : List Nat).contains pc)) = true := by decide +kernel
theorem xo_79_top (pc : Nat) (h : 17 ≤ pc) : xo_79 pc = none := if_pos h
theorem xo_79_ok (pc : Nat) (r : Instr × Nat) (h : xo_79 pc = some r) : decode cX6_isRack pc = .ok r := by
  rcases Nat.lt_or_ge pc 17 with hl | hl
  · have h1 := List.all_eq_true.mp xo_79_no pc (List.mem_range.mpr hl)
    rw [h] at h1
    simp only [Option.isNone_some, Bool.false_or, Bool.or_eq_true, List.contains_iff_mem, or_assoc] at h1
    rcases h1 with h1
    · have h2 := List.all_eq_true.mp xo_79_c0 pc h1
      rw [h] at h2
      exact of_decide_eq_true h2
  · rw [show xo_79 pc = none from if_pos hl] at h; cases h
/-- X5_changeUse -/
def xo_80 (pc : Nat) : Option (Instr × Nat) := if 72 ≤ pc then none else if pc < 37 then (if pc < 21 then (if pc < 11 then (if pc < 4 then (if pc < 1 then (if pc = 0 then some (.iload_n 1, 1) else none) else (if pc = 1 then some (.invokestatic 74, 3) else none)) else (if pc < 7 then (if pc = 4 then some (.ifCond .eq 10, 3) else none) else (if pc < 8 then (if pc = 7 then some (.iload_n 2, 1) else none) else (if pc = 8 then some (.invokestatic 156, 3) else none)))) else (if pc < 16 then (if pc < 14 then (if pc = 11 then some (.ifCond .ne 5, 3) else none) else (if pc < 15 then (if pc = 14 then some (.iconst (-1), 1) else none) else (if pc = 15 then some (.ireturn, 1) else none))) else (if pc < 17 then (if pc = 16 then some (.aload_n 0, 1) else none) else (if pc < 20 then (if pc = 17 then some (.getfield 23, 3) else none) else (if pc = 20 then some (.iload_n 1, 1) else none))))) else (if pc < 26 then (if pc < 23 then (if pc < 22 then (if pc = 21 then some (.iaload, 1) else none) else (if pc = 22 then some (.iload_n 2, 1) else none)) else (if pc < 24 then (if pc = 23 then some (.ishr, 1) else none) else (if pc < 25 then (if pc = 24 then some (.iconst 1, 1) else none) else (if pc = 25 then some (.iand, 1) else none)))) else (if pc < 31 then (if pc < 27 then (if pc = 26 then some (.iconst 1, 1) else none) else (if pc < 30 then (if pc = 27 then some (.if_icmp .ne 7, 3) else none) else (if pc = 30 then some (.iconst 1, 1) else none))) else (if pc < 34 then (if pc = 31 then some (.goto 4, 3) else none) else (if pc < 35 then (if pc = 34 then some (.iconst 0, 1) else none) else (if pc = 35 then some (.istore 4, 2) else none)))))) else (if pc < 54 then (if pc < 46 then (if pc < 40 then (if pc < 39 then (if pc = 37 then some (.iload 4, 2) else none) else (if pc = 39 then some (.iload_n 3, 1) else none)) else (if pc < 43 then (if pc = 40 then some (.if_icmp .ne 6, 3) else none) else (if pc < 45 then (if pc = 43 then some (.bipush (-5), 2) else none) else (if pc = 45 then some (.ireturn, 1) else none)))) else (if pc < 51 then (if pc < 47 then (if pc = 46 then some (.aload_n 0, 1) else none) else (if pc < 50 then (if pc = 47 then some (.getfield 23, 3) else none) else (if pc = 50 then some (.iload_n 1, 1) else none))) else (if pc < 52 then (if pc = 51 then some (.dup2, 1) else none) else (if pc < 53 then (if pc = 52 then some (.iaload, 1) else none) else (if pc = 53 then some (.iconst 1, 1) else none))))) else (if pc < 62 then (if pc < 57 then (if pc < 55 then (if pc = 54 then some (.iload_n 2, 1) else none) else (if pc < 56 then (if pc = 55 then some (.ishl, 1) else none) else (if pc = 56 then some (.ixor, 1) else none))) else (if pc < 58 then (if pc = 57 then some (.iastore, 1) else none) else (if pc < 59 then (if pc = 58 then some (.aload_n 0, 1) else none) else (if pc = 59 then some (.invokevirtual 67, 3) else none)))) else (if pc < 67 then (if pc < 63 then (if pc = 62 then some (.aload_n 0, 1) else none) else (if pc < 66 then (if pc = 63 then some (.getfield 23, 3) else none) else (if pc = 66 then some (.iload_n 1, 1) else none))) else (if pc < 68 then (if pc = 67 then some (.iaload, 1) else none) else (if pc < 71 then (if pc = 68 then some (.invokestatic 159, 3) else none) else (if pc = 71 then some (.ireturn, 1) else none))))))
set_option maxRecDepth 100000 in
theorem xo_80_c0 : ([0, 1, 4, 7, 8, 11, 14, 15, 16, 17, 20, 21, 22, 23, 24, 25, 26, 27, 30, 31, 34, 35, 37, 39, 40, 43, 45, 46, 47, 50, 51, 52, 53, 54, 55, 56, 57, 58, 59, 62, 63, 66, 67, 68, 71] : List Nat).all (fun pc => match xo_80 pc with | none => true | some r => decide (decode cX5_changeUse pc = .ok r)) = true := by decide +kernel
set_option maxRecDepth 100000 in
theorem xo_80_no : (List.range 72).all (fun pc => (xo_80 pc).isNone || (([0, 1, 4, 7, 8, 11, 14, 15, 16, 17, 20, 21, 22, 23, 24, 25, 26, 27, 30, 31, 34, 35, 37, 39, 40, 43, 45, 46, 47, 50, 51, 52, 53, 54, 55, 56, 57, 58, 59, 62, 63, 66, 67, 68, 71] : List Nat).contains pc)) = true := by decide +kernel
theorem xo_80_top (pc : Nat) (h : 72 ≤ pc) : xo_80 pc = none := if_pos h
theorem xo_80_ok (pc : Nat) (r : Instr × Nat) (h : xo_80 pc = some r) : decode cX5_changeUse pc = .ok r := by
  rcases Nat.lt_or_ge pc 72 with hl | hl
  · have h1 := List.all_eq_true.mp xo_80_no pc (List.mem_range.mpr hl)
    rw [h] at h1
    simp only [Option.isNone_some, Bool.false_or, Bool.or_eq_true, List.contains_iff_mem, or_assoc] at h1
    rcases h1 with h1
    · have h2 := List.all_eq_true.mp xo_80_c0 pc h1
      rw [h] at h2
      exact of_decide_eq_true h2
  · rw [show xo_80 pc = none from if_pos hl] at h; cases h
/-- X5_beginDay -/
def xo_81 (pc : Nat) : Option (Instr × Nat) := if 44 ≤ pc then none else if pc < 22 then (if pc < 10 then (if pc < 5 then (if pc < 1 then (if pc = 0 then some (.aload_n 0, 1) else none) else (if pc < 2 then (if pc = 1 then some (.dup, 1) else none) else (if pc = 2 then some (.getfield 53, 3) else none))) else (if pc < 6 then (if pc = 5 then some (.iconst 1, 1) else none) else (if pc < 7 then (if pc = 6 then some (.iadd, 1) else none) else (if pc = 7 then some (.putfield 53, 3) else none)))) else (if pc < 15 then (if pc < 11 then (if pc = 10 then some (.aload_n 0, 1) else none) else (if pc < 14 then (if pc = 11 then some (.getfield 29, 3) else none) else (if pc = 14 then some (.aload_n 0, 1) else none))) else (if pc < 18 then (if pc = 15 then some (.getfield 53, 3) else none) else (if pc < 21 then (if pc = 18 then some (.invokevirtual 170, 3) else none) else (if pc = 21 then some (.aload_n 0, 1) else none))))) else (if pc < 34 then (if pc < 29 then (if pc < 25 then (if pc = 22 then some (.getfield 36, 3) else none) else (if pc < 26 then (if pc = 25 then some (.aload_n 0, 1) else none) else (if pc = 26 then some (.getfield 53, 3) else none))) else (if pc < 30 then (if pc = 29 then some (.aload_n 0, 1) else none) else (if pc < 33 then (if pc = 30 then some (.getfield 18, 3) else none) else (if pc = 33 then some (.iconst 3, 1) else none)))) else (if pc < 39 then (if pc < 35 then (if pc = 34 then some (.iaload, 1) else none) else (if pc < 36 then (if pc = 35 then some (.isub, 1) else none) else (if pc = 36 then some (.invokevirtual 173, 3) else none))) else (if pc < 40 then (if pc = 39 then some (.aload_n 0, 1) else none) else (if pc < 43 then (if pc = 40 then some (.invokevirtual 67, 3) else none) else (if pc = 43 then some (.return_, 1) else none)))))
set_option maxRecDepth 100000 in
theorem xo_81_c0 : ([0, 1, 2, 5, 6, 7, 10, 11, 14, 15, 18, 21, 22, 25, 26, 29, 30, 33, 34, 35, 36, 39, 40, 43] : List Nat).all (fun pc => match xo_81 pc with | none => true | some r => decide (decode cX5_beginDay pc = .ok r)) = true := by decide +kernel
set_option maxRecDepth 100000 in
theorem xo_81_no : (List.range 44).all (fun pc => (xo_81 pc).isNone || (([0, 1, 2, 5, 6, 7, 10, 11, 14, 15, 18, 21, 22, 25, 26, 29, 30, 33, 34, 35, 36, 39, 40, 43] : List Nat).contains pc)) = true := by decide +kernel
theorem xo_81_top (pc : Nat) (h : 44 ≤ pc) : xo_81 pc = none := if_pos h
theorem xo_81_ok (pc : Nat) (r : Instr × Nat) (h : xo_81 pc = some r) : decode cX5_beginDay pc = .ok r := by
  rcases Nat.lt_or_ge pc 44 with hl | hl
  · have h1 := List.all_eq_true.mp xo_81_no pc (List.mem_range.mpr hl)
    rw [h] at h1
    simp only [Option.isNone_some, Bool.false_or, Bool.or_eq_true, List.contains_iff_mem, or_assoc] at h1
    rcases h1 with h1
    · have h2 := List.all_eq_true.mp xo_81_c0 pc h1
      rw [h] at h2
      exact of_decide_eq_true h2
  · rw [show xo_81 pc = none from if_pos hl] at h; cases h
/-- X5_letPass -/
def xo_82 (pc : Nat) : Option (Instr × Nat) := if 63 ≤ pc then none else if pc < 32 then (if pc < 14 then (if pc < 7 then (if pc < 2 then (if pc < 1 then (if pc = 0 then some (.iconst 1, 1) else none) else (if pc = 1 then some (.iload_n 1, 1) else none)) else (if pc < 4 then (if pc = 2 then some (.bipush 99, 2) else none) else (if pc = 4 then some (.invokestatic 57, 3) else none))) else (if pc < 12 then (if pc < 10 then (if pc = 7 then some (.ifCond .ne 6, 3) else none) else (if pc = 10 then some (.bipush (-2), 2) else none)) else (if pc < 13 then (if pc = 12 then some (.ireturn, 1) else none) else (if pc = 13 then some (.aload_n 0, 1) else none)))) else (if pc < 22 then (if pc < 18 then (if pc < 17 then (if pc = 14 then some (.getfield 53, 3) else none) else (if pc = 17 then some (.iload_n 1, 1) else none)) else (if pc < 19 then (if pc = 18 then some (.iadd, 1) else none) else (if pc = 19 then some (.sipush 9999, 3) else none))) else (if pc < 27 then (if pc < 25 then (if pc = 22 then some (.if_icmp .le 6, 3) else none) else (if pc = 25 then some (.bipush (-4), 2) else none)) else (if pc < 28 then (if pc = 27 then some (.ireturn, 1) else none) else (if pc < 29 then (if pc = 28 then some (.aload_n 0, 1) else none) else (if pc = 29 then some (.getfield 29, 3) else none)))))) else (if pc < 44 then (if pc < 38 then (if pc < 36 then (if pc < 35 then (if pc = 32 then some (.getfield 164, 3) else none) else (if pc = 35 then some (.istore_n 2, 1) else none)) else (if pc < 37 then (if pc = 36 then some (.iconst 0, 1) else none) else (if pc = 37 then some (.istore_n 3, 1) else none))) else (if pc < 40 then (if pc < 39 then (if pc = 38 then some (.iload_n 3, 1) else none) else (if pc = 39 then some (.iload_n 1, 1) else none)) else (if pc < 43 then (if pc = 40 then some (.if_icmp .ge 13, 3) else none) else (if pc = 43 then some (.aload_n 0, 1) else none)))) else (if pc < 54 then (if pc < 50 then (if pc < 47 then (if pc = 44 then some (.invokevirtual 167, 3) else none) else (if pc = 47 then some (.iinc 3 1, 3) else none)) else (if pc < 53 then (if pc = 50 then some (.goto (-12), 3) else none) else (if pc = 53 then some (.aload_n 0, 1) else none))) else (if pc < 60 then (if pc < 57 then (if pc = 54 then some (.getfield 29, 3) else none) else (if pc = 57 then some (.getfield 164, 3) else none)) else (if pc < 61 then (if pc = 60 then some (.iload_n 2, 1) else none) else (if pc < 62 then (if pc = 61 then some (.isub, 1) else none) else (if pc = 62 then some (.ireturn, 1) else none))))))
set_option maxRecDepth 100000 in
theorem xo_82_c0 : ([0, 1, 2, 4, 7, 10, 12, 13, 14, 17, 18, 19, 22, 25, 27, 28, 29, 32, 35, 36, 37, 38, 39, 40, 43, 44, 47, 50, 53, 54, 57, 60, 61, 62] : List Nat).all (fun pc => match xo_82 pc with | none => true | some r => decide (decode cX5_letPass pc = .ok r)) = true := by decide +kernel
set_option maxRecDepth 100000 in
theorem xo_82_no : (List.range 63).all (fun pc => (xo_82 pc).isNone || (([0, 1, 2, 4, 7, 10, 12, 13, 14, 17, 18, 19, 22, 25, 27, 28, 29, 32, 35, 36, 37, 38, 39, 40, 43, 44, 47, 50, 53, 54, 57, 60, 61, 62] : List Nat).contains pc)) = true := by decide +kernel
theorem xo_82_top (pc : Nat) (h : 63 ≤ pc) : xo_82 pc = none := if_pos h
theorem xo_82_ok (pc : Nat) (r : Instr × Nat) (h : xo_82 pc = some r) : decode cX5_letPass pc = .ok r := by
  rcases Nat.lt_or_ge pc 63 with hl | hl
  · have h1 := List.all_eq_true.mp xo_82_no pc (List.mem_range.mpr hl)
    rw [h] at h1
    simp only [Option.isNone_some, Bool.false_or, Bool.or_eq_true, List.contains_iff_mem, or_assoc] at h1
    rcases h1 with h1
    · have h2 := List.all_eq_true.mp xo_82_c0 pc h1
      rw [h] at h2
      exact of_decide_eq_true h2
  · rw [show xo_82 pc = none from if_pos hl] at h; cases h
/-- X5_passUntilPermit -/
def xo_83 (pc : Nat) : Option (Instr × Nat) := if 35 ≤ pc then none else if pc < 17 then (if pc < 6 then (if pc < 2 then (if pc < 1 then (if pc = 0 then some (.iconst 1, 1) else none) else (if pc = 1 then some (.istore_n 2, 1) else none)) else (if pc < 3 then (if pc = 2 then some (.iload_n 2, 1) else none) else (if pc = 3 then some (.sipush 300, 3) else none))) else (if pc < 10 then (if pc < 9 then (if pc = 6 then some (.if_icmp .gt 26, 3) else none) else (if pc = 9 then some (.aload_n 0, 1) else none)) else (if pc < 13 then (if pc = 10 then some (.invokevirtual 167, 3) else none) else (if pc < 14 then (if pc = 13 then some (.aload_n 0, 1) else none) else (if pc = 14 then some (.getfield 29, 3) else none))))) else (if pc < 25 then (if pc < 21 then (if pc < 18 then (if pc = 17 then some (.iload_n 1, 1) else none) else (if pc = 18 then some (.invokevirtual 77, 3) else none)) else (if pc < 24 then (if pc = 21 then some (.ifCond .eq 5, 3) else none) else (if pc = 24 then some (.iload_n 2, 1) else none))) else (if pc < 29 then (if pc < 26 then (if pc = 25 then some (.ireturn, 1) else none) else (if pc = 26 then some (.iinc 2 1, 3) else none)) else (if pc < 32 then (if pc = 29 then some (.goto (-27), 3) else none) else (if pc < 34 then (if pc = 32 then some (.bipush (-6), 2) else none) else (if pc = 34 then some (.ireturn, 1) else none)))))
set_option maxRecDepth 100000 in
theorem xo_83_c0 : ([0, 1, 2, 3, 6, 9, 10, 13, 14, 17, 18, 21, 24, 25, 26, 29, 32, 34] : List Nat).all (fun pc => match xo_83 pc with | none => true | some r => decide (decode cX5_passUntilPermit pc = .ok r)) = true := by decide +kernel
set_option maxRecDepth 100000 in
theorem xo_83_no : (List.range 35).all (fun pc => (xo_83 pc).isNone || (([0, 1, 2, 3, 6, 9, 10, 13, 14, 17, 18, 21, 24, 25, 26, 29, 32, 34] : List Nat).contains pc)) = true := by decide +kernel
theorem xo_83_top (pc : Nat) (h : 35 ≤ pc) : xo_83 pc = none := if_pos h
theorem xo_83_ok (pc : Nat) (r : Instr × Nat) (h : xo_83 pc = some r) : decode cX5_passUntilPermit pc = .ok r := by
  rcases Nat.lt_or_ge pc 35 with hl | hl
  · have h1 := List.all_eq_true.mp xo_83_no pc (List.mem_range.mpr hl)
    rw [h] at h1
    simp only [Option.isNone_some, Bool.false_or, Bool.or_eq_true, List.contains_iff_mem, or_assoc] at h1
    rcases h1 with h1
    · have h2 := List.all_eq_true.mp xo_83_c0 pc h1
      rw [h] at h2
      exact of_decide_eq_true h2
  · rw [show xo_83 pc = none from if_pos hl] at h; cases h
/-- X5_aboutPerson -/
def xo_84 (pc : Nat) : Option (Instr × Nat) := if 186 ≤ pc then none else if pc < 116 then (if pc < 81 then (if pc < 63 then (if pc < 56 then (if pc < 52 then (if pc < 1 then (if pc = 0 then some (.iload_n 2, 1) else none) else (if pc = 1 then some (.tableswitch 182 0 8 #[51, 61, 71, 80, 90, 100, 131, 141, 172], 51) else none)) else (if pc < 53 then (if pc = 52 then some (.aload_n 0, 1) else none) else (if pc = 53 then some (.getfield 29, 3) else none))) else (if pc < 60 then (if pc < 59 then (if pc = 56 then some (.getfield 115, 3) else none) else (if pc = 59 then some (.iload_n 1, 1) else none)) else (if pc < 61 then (if pc = 60 then some (.iaload, 1) else none) else (if pc < 62 then (if pc = 61 then some (.ireturn, 1) else none) else (if pc = 62 then some (.aload_n 0, 1) else none))))) else (if pc < 72 then (if pc < 69 then (if pc < 66 then (if pc = 63 then some (.getfield 29, 3) else none) else (if pc = 66 then some (.getfield 105, 3) else none)) else (if pc < 70 then (if pc = 69 then some (.iload_n 1, 1) else none) else (if pc < 71 then (if pc = 70 then some (.iaload, 1) else none) else (if pc = 71 then some (.ireturn, 1) else none)))) else (if pc < 76 then (if pc < 73 then (if pc = 72 then some (.aload_n 0, 1) else none) else (if pc = 73 then some (.getfield 29, 3) else none)) else (if pc < 77 then (if pc = 76 then some (.iload_n 1, 1) else none) else (if pc < 80 then (if pc = 77 then some (.invokevirtual 190, 3) else none) else (if pc = 80 then some (.ireturn, 1) else none)))))) else (if pc < 98 then (if pc < 89 then (if pc < 85 then (if pc < 82 then (if pc = 81 then some (.aload_n 0, 1) else none) else (if pc = 82 then some (.getfield 36, 3) else none)) else (if pc < 88 then (if pc = 85 then some (.getfield 145, 3) else none) else (if pc = 88 then some (.iload_n 1, 1) else none))) else (if pc < 91 then (if pc < 90 then (if pc = 89 then some (.iaload, 1) else none) else (if pc = 90 then some (.ireturn, 1) else none)) else (if pc < 92 then (if pc = 91 then some (.aload_n 0, 1) else none) else (if pc < 95 then (if pc = 92 then some (.getfield 36, 3) else none) else (if pc = 95 then some (.getfield 193, 3) else none))))) else (if pc < 105 then (if pc < 100 then (if pc < 99 then (if pc = 98 then some (.iload_n 1, 1) else none) else (if pc = 99 then some (.iaload, 1) else none)) else (if pc < 101 then (if pc = 100 then some (.ireturn, 1) else none) else (if pc < 102 then (if pc = 101 then some (.aload_n 0, 1) else none) else (if pc = 102 then some (.getfield 36, 3) else none)))) else (if pc < 109 then (if pc < 106 then (if pc = 105 then some (.iload_n 1, 1) else none) else (if pc = 106 then some (.invokevirtual 118, 3) else none)) else (if pc < 112 then (if pc = 109 then some (.ifCond .eq 20, 3) else none) else (if pc < 113 then (if pc = 112 then some (.aload_n 0, 1) else none) else (if pc = 113 then some (.getfield 53, 3) else none))))))) else (if pc < 150 then (if pc < 132 then (if pc < 124 then (if pc < 120 then (if pc < 117 then (if pc = 116 then some (.aload_n 0, 1) else none) else (if pc = 117 then some (.getfield 36, 3) else none)) else (if pc < 123 then (if pc = 120 then some (.getfield 130, 3) else none) else (if pc = 123 then some (.iload_n 1, 1) else none))) else (if pc < 126 then (if pc < 125 then (if pc = 124 then some (.iaload, 1) else none) else (if pc = 125 then some (.isub, 1) else none)) else (if pc < 129 then (if pc = 126 then some (.goto 5, 3) else none) else (if pc < 131 then (if pc = 129 then some (.bipush (-6), 2) else none) else (if pc = 131 then some (.ireturn, 1) else none))))) else (if pc < 141 then (if pc < 136 then (if pc < 133 then (if pc = 132 then some (.aload_n 0, 1) else none) else (if pc = 133 then some (.getfield 36, 3) else none)) else (if pc < 139 then (if pc = 136 then some (.getfield 139, 3) else none) else (if pc < 140 then (if pc = 139 then some (.iload_n 1, 1) else none) else (if pc = 140 then some (.iaload, 1) else none)))) else (if pc < 143 then (if pc < 142 then (if pc = 141 then some (.ireturn, 1) else none) else (if pc = 142 then some (.aload_n 0, 1) else none)) else (if pc < 146 then (if pc = 143 then some (.getfield 36, 3) else none) else (if pc < 147 then (if pc = 146 then some (.iload_n 1, 1) else none) else (if pc = 147 then some (.invokevirtual 121, 3) else none)))))) else (if pc < 170 then (if pc < 161 then (if pc < 154 then (if pc < 153 then (if pc = 150 then some (.ifCond .eq 20, 3) else none) else (if pc = 153 then some (.aload_n 0, 1) else none)) else (if pc < 157 then (if pc = 154 then some (.getfield 53, 3) else none) else (if pc < 158 then (if pc = 157 then some (.aload_n 0, 1) else none) else (if pc = 158 then some (.getfield 36, 3) else none)))) else (if pc < 165 then (if pc < 164 then (if pc = 161 then some (.getfield 142, 3) else none) else (if pc = 164 then some (.iload_n 1, 1) else none)) else (if pc < 166 then (if pc = 165 then some (.iaload, 1) else none) else (if pc < 167 then (if pc = 166 then some (.isub, 1) else none) else (if pc = 167 then some (.goto 5, 3) else none))))) else (if pc < 180 then (if pc < 173 then (if pc < 172 then (if pc = 170 then some (.bipush (-6), 2) else none) else (if pc = 172 then some (.ireturn, 1) else none)) else (if pc < 174 then (if pc = 173 then some (.aload_n 0, 1) else none) else (if pc < 177 then (if pc = 174 then some (.getfield 36, 3) else none) else (if pc = 177 then some (.getfield 196, 3) else none)))) else (if pc < 182 then (if pc < 181 then (if pc = 180 then some (.iload_n 1, 1) else none) else (if pc = 181 then some (.iaload, 1) else none)) else (if pc < 183 then (if pc = 182 then some (.ireturn, 1) else none) else (if pc < 185 then (if pc = 183 then some (.bipush (-2), 2) else none) else (if pc = 185 then some (.ireturn, 1) else none)))))))
set_option maxRecDepth 100000 in
theorem xo_84_c0 : ([0, 1, 52, 53, 56, 59, 60, 61, 62, 63, 66, 69, 70, 71, 72, 73, 76, 77, 80, 81, 82, 85, 88, 89, 90, 91] : List Nat).all (fun pc => match xo_84 pc with | none => true | some r => decide (decode cX5_aboutPerson pc = .ok r)) = true := by decide +kernel
set_option maxRecDepth 100000 in
theorem xo_84_c1 : ([92, 95, 98, 99, 100, 101, 102, 105, 106, 109, 112, 113, 116, 117, 120, 123, 124, 125, 126, 129, 131, 132, 133, 136, 139, 140] : List Nat).all (fun pc => match xo_84 pc with | none => true | some r => decide (decode cX5_aboutPerson pc = .ok r)) = true := by decide +kernel
set_option maxRecDepth 100000 in
theorem xo_84_c2 : ([141, 142, 143, 146, 147, 150, 153, 154, 157, 158, 161, 164, 165, 166, 167, 170, 172, 173, 174, 177, 180, 181, 182, 183, 185] : List Nat).all (fun pc => match xo_84 pc with | none => true | some r => decide (decode cX5_aboutPerson pc = .ok r)) = true := by decide +kernel
set_option maxRecDepth 100000 in
theorem xo_84_no : (List.range 186).all (fun pc => (xo_84 pc).isNone || (([0, 1, 52, 53, 56, 59, 60, 61, 62, 63, 66, 69, 70, 71, 72, 73, 76, 77, 80, 81, 82, 85, 88, 89, 90, 91] : List Nat).contains pc || ([92, 95, 98, 99, 100, 101, 102, 105, 106, 109, 112, 113, 116, 117, 120, 123, 124, 125, 126, 129, 131, 132, 133, 136, 139, 140] : List Nat).contains pc || ([141, 142, 143, 146, 147, 150, 153, 154, 157, 158, 161, 164, 165, 166, 167, 170, 172, 173, 174, 177, 180, 181, 182, 183, 185] : List Nat).contains pc)) = true := by decide +kernel
theorem xo_84_top (pc : Nat) (h : 186 ≤ pc) : xo_84 pc = none := if_pos h
theorem xo_84_ok (pc : Nat) (r : Instr × Nat) (h : xo_84 pc = some r) : decode cX5_aboutPerson pc = .ok r := by
  rcases Nat.lt_or_ge pc 186 with hl | hl
  · have h1 := List.all_eq_true.mp xo_84_no pc (List.mem_range.mpr hl)
    rw [h] at h1
    simp only [Option.isNone_some, Bool.false_or, Bool.or_eq_true, List.contains_iff_mem, or_assoc] at h1
    rcases h1 with h1 | h1 | h1
    · have h2 := List.all_eq_true.mp xo_84_c0 pc h1
      rw [h] at h2
      exact of_decide_eq_true h2
    · have h2 := List.all_eq_true.mp xo_84_c1 pc h1
      rw [h] at h2
      exact of_decide_eq_true h2
    · have h2 := List.all_eq_true.mp xo_84_c2 pc h1
      rw [h] at h2
      exact of_decide_eq_true h2
  · rw [show xo_84 pc = none from if_pos hl] at h; cases h
/-- X5_racksWithoutPermit -/
def xo_85 (pc : Nat) : Option (Instr × Nat) := if 53 ≤ pc then none else if pc < 25 then (if pc < 11 then (if pc < 4 then (if pc < 2 then (if pc < 1 then (if pc = 0 then some (.iconst 0, 1) else none) else (if pc = 1 then some (.istore_n 2, 1) else none)) else (if pc < 3 then (if pc = 2 then some (.iconst 0, 1) else none) else (if pc = 3 then some (.istore_n 3, 1) else none))) else (if pc < 7 then (if pc < 5 then (if pc = 4 then some (.iload_n 3, 1) else none) else (if pc = 5 then some (.bipush 20, 2) else none)) else (if pc < 10 then (if pc = 7 then some (.if_icmp .ge 44, 3) else none) else (if pc = 10 then some (.aload_n 0, 1) else none)))) else (if pc < 19 then (if pc < 17 then (if pc < 14 then (if pc = 11 then some (.getfield 36, 3) else none) else (if pc = 14 then some (.getfield 145, 3) else none)) else (if pc < 18 then (if pc = 17 then some (.iload_n 3, 1) else none) else (if pc = 18 then some (.iaload, 1) else none))) else (if pc < 23 then (if pc < 20 then (if pc = 19 then some (.iload_n 1, 1) else none) else (if pc = 20 then some (.if_icmp .ne 25, 3) else none)) else (if pc < 24 then (if pc = 23 then some (.aload_n 0, 1) else none) else (if pc = 24 then some (.iload_n 3, 1) else none))))) else (if pc < 41 then (if pc < 33 then (if pc < 31 then (if pc < 28 then (if pc = 25 then some (.invokevirtual 187, 3) else none) else (if pc = 28 then some (.ifCond .eq 17, 3) else none)) else (if pc < 32 then (if pc = 31 then some (.iload_n 2, 1) else none) else (if pc = 32 then some (.iconst 1, 1) else none))) else (if pc < 37 then (if pc < 34 then (if pc = 33 then some (.aload_n 0, 1) else none) else (if pc = 34 then some (.getfield 36, 3) else none)) else (if pc < 40 then (if pc = 37 then some (.getfield 193, 3) else none) else (if pc = 40 then some (.iload_n 3, 1) else none)))) else (if pc < 45 then (if pc < 43 then (if pc < 42 then (if pc = 41 then some (.iaload, 1) else none) else (if pc = 42 then some (.ishl, 1) else none)) else (if pc < 44 then (if pc = 43 then some (.ior, 1) else none) else (if pc = 44 then some (.istore_n 2, 1) else none))) else (if pc < 51 then (if pc < 48 then (if pc = 45 then some (.iinc 3 1, 3) else none) else (if pc = 48 then some (.goto (-44), 3) else none)) else (if pc < 52 then (if pc = 51 then some (.iload_n 2, 1) else none) else (if pc = 52 then some (.ireturn, 1) else none)))))
set_option maxRecDepth 100000 in
theorem xo_85_c0 : ([0, 1, 2, 3, 4, 5, 7, 10, 11, 14, 17, 18, 19, 20, 23, 24, 25, 28, 31, 32, 33, 34, 37, 40, 41, 42, 43, 44, 45, 48, 51, 52] : List Nat).all (fun pc => match xo_85 pc with | none => true | some r => decide (decode cX5_racksWithoutPermit pc = .ok r)) = true := by decide +kernel
set_option maxRecDepth 100000 in
theorem xo_85_no : (List.range 53).all (fun pc => (xo_85 pc).isNone || (([0, 1, 2, 3, 4, 5, 7, 10, 11, 14, 17, 18, 19, 20, 23, 24, 25, 28, 31, 32, 33, 34, 37, 40, 41, 42, 43, 44, 45, 48, 51, 52] : List Nat).contains pc)) = true := by decide +kernel
theorem xo_85_top (pc : Nat) (h : 53 ≤ pc) : xo_85 pc = none := if_pos h
theorem xo_85_ok (pc : Nat) (r : Instr × Nat) (h : xo_85 pc = some r) : decode cX5_racksWithoutPermit pc = .ok r := by
  rcases Nat.lt_or_ge pc 53 with hl | hl
  · have h1 := List.all_eq_true.mp xo_85_no pc (List.mem_range.mpr hl)
    rw [h] at h1
    simp only [Option.isNone_some, Bool.false_or, Bool.or_eq_true, List.contains_iff_mem, or_assoc] at h1
    rcases h1 with h1
    · have h2 := List.all_eq_true.mp xo_85_c0 pc h1
      rw [h] at h2
      exact of_decide_eq_true h2
  · rw [show xo_85 pc = none from if_pos hl] at h; cases h
/-- X5_aboutShed -/
def xo_86 (pc : Nat) : Option (Instr × Nat) := if 102 ≤ pc then none else if pc < 70 then (if pc < 53 then (if pc < 48 then (if pc < 44 then (if pc < 1 then (if pc = 0 then some (.iload_n 2, 1) else none) else (if pc = 1 then some (.tableswitch 98 0 6 #[43, 50, 56, 65, 74, 83, 92], 43) else none)) else (if pc < 45 then (if pc = 44 then some (.aload_n 0, 1) else none) else (if pc = 45 then some (.getfield 23, 3) else none))) else (if pc < 50 then (if pc < 49 then (if pc = 48 then some (.iload_n 1, 1) else none) else (if pc = 49 then some (.iaload, 1) else none)) else (if pc < 51 then (if pc = 50 then some (.ireturn, 1) else none) else (if pc < 52 then (if pc = 51 then some (.aload_n 0, 1) else none) else (if pc = 52 then some (.iload_n 1, 1) else none))))) else (if pc < 61 then (if pc < 57 then (if pc < 56 then (if pc = 53 then some (.invokevirtual 88, 3) else none) else (if pc = 56 then some (.ireturn, 1) else none)) else (if pc < 58 then (if pc = 57 then some (.aload_n 0, 1) else none) else (if pc = 58 then some (.getfield 29, 3) else none))) else (if pc < 65 then (if pc < 62 then (if pc = 61 then some (.iload_n 1, 1) else none) else (if pc = 62 then some (.invokevirtual 84, 3) else none)) else (if pc < 66 then (if pc = 65 then some (.ireturn, 1) else none) else (if pc < 67 then (if pc = 66 then some (.aload_n 0, 1) else none) else (if pc = 67 then some (.getfield 29, 3) else none)))))) else (if pc < 85 then (if pc < 76 then (if pc < 74 then (if pc < 71 then (if pc = 70 then some (.iload_n 1, 1) else none) else (if pc = 71 then some (.invokevirtual 91, 3) else none)) else (if pc < 75 then (if pc = 74 then some (.ireturn, 1) else none) else (if pc = 75 then some (.aload_n 0, 1) else none))) else (if pc < 80 then (if pc < 79 then (if pc = 76 then some (.getfield 36, 3) else none) else (if pc = 79 then some (.iload_n 1, 1) else none)) else (if pc < 83 then (if pc = 80 then some (.invokevirtual 184, 3) else none) else (if pc < 84 then (if pc = 83 then some (.ireturn, 1) else none) else (if pc = 84 then some (.aload_n 0, 1) else none))))) else (if pc < 94 then (if pc < 89 then (if pc < 88 then (if pc = 85 then some (.getfield 36, 3) else none) else (if pc = 88 then some (.iload_n 1, 1) else none)) else (if pc < 92 then (if pc = 89 then some (.invokevirtual 199, 3) else none) else (if pc < 93 then (if pc = 92 then some (.ireturn, 1) else none) else (if pc = 93 then some (.aload_n 0, 1) else none)))) else (if pc < 98 then (if pc < 95 then (if pc = 94 then some (.iload_n 1, 1) else none) else (if pc = 95 then some (.invokevirtual 202, 3) else none)) else (if pc < 99 then (if pc = 98 then some (.ireturn, 1) else none) else (if pc < 101 then (if pc = 99 then some (.bipush (-2), 2) else none) else (if pc = 101 then some (.ireturn, 1) else none))))))
set_option maxRecDepth 100000 in
theorem xo_86_c0 : ([0, 1, 44, 45, 48, 49, 50, 51, 52, 53, 56, 57, 58, 61, 62, 65, 66, 67, 70, 71, 74, 75, 76, 79, 80, 83, 84, 85, 88, 89, 92, 93, 94, 95, 98, 99, 101] : List Nat).all (fun pc => match xo_86 pc with | none => true | some r => decide (decode cX5_aboutShed pc = .ok r)) = true := by decide +kernel
set_option maxRecDepth 100000 in
theorem xo_86_no : (List.range 102).all (fun pc => (xo_86 pc).isNone || (([0, 1, 44, 45, 48, 49, 50, 51, 52, 53, 56, 57, 58, 61, 62, 65, 66, 67, 70, 71, 74, 75, 76, 79, 80, 83, 84, 85, 88, 89, 92, 93, 94, 95, 98, 99, 101] : List Nat).contains pc)) = true := by decide +kernel
theorem xo_86_top (pc : Nat) (h : 102 ≤ pc) : xo_86 pc = none := if_pos h
theorem xo_86_ok (pc : Nat) (r : Instr × Nat) (h : xo_86 pc = some r) : decode cX5_aboutShed pc = .ok r := by
  rcases Nat.lt_or_ge pc 102 with hl | hl
  · have h1 := List.all_eq_true.mp xo_86_no pc (List.mem_range.mpr hl)
    rw [h] at h1
    simp only [Option.isNone_some, Bool.false_or, Bool.or_eq_true, List.contains_iff_mem, or_assoc] at h1
    rcases h1 with h1
    · have h2 := List.all_eq_true.mp xo_86_c0 pc h1
      rw [h] at h2
      exact of_decide_eq_true h2
  · rw [show xo_86 pc = none from if_pos hl] at h; cases h
/-- X5_aboutAll -/
def xo_87 (pc : Nat) : Option (Instr × Nat) := if 147 ≤ pc then none else if pc < 104 then (if pc < 81 then (if pc < 73 then (if pc < 68 then (if pc < 1 then (if pc = 0 then some (.iload_n 1, 1) else none) else (if pc = 1 then some (.tableswitch 143 0 12 #[67, 67, 67, 67, 74, 79, 87, 95, 103, 111, 119, 127, 135], 67) else none)) else (if pc < 69 then (if pc = 68 then some (.aload_n 0, 1) else none) else (if pc < 72 then (if pc = 69 then some (.getfield 18, 3) else none) else (if pc = 72 then some (.iload_n 1, 1) else none)))) else (if pc < 76 then (if pc < 74 then (if pc = 73 then some (.iaload, 1) else none) else (if pc < 75 then (if pc = 74 then some (.ireturn, 1) else none) else (if pc = 75 then some (.aload_n 0, 1) else none))) else (if pc < 79 then (if pc = 76 then some (.getfield 53, 3) else none) else (if pc < 80 then (if pc = 79 then some (.ireturn, 1) else none) else (if pc = 80 then some (.aload_n 0, 1) else none))))) else (if pc < 92 then (if pc < 87 then (if pc < 84 then (if pc = 81 then some (.getfield 29, 3) else none) else (if pc = 84 then some (.invokevirtual 205, 3) else none)) else (if pc < 88 then (if pc = 87 then some (.ireturn, 1) else none) else (if pc < 89 then (if pc = 88 then some (.aload_n 0, 1) else none) else (if pc = 89 then some (.getfield 29, 3) else none)))) else (if pc < 97 then (if pc < 95 then (if pc = 92 then some (.invokevirtual 209, 3) else none) else (if pc < 96 then (if pc = 95 then some (.ireturn, 1) else none) else (if pc = 96 then some (.aload_n 0, 1) else none))) else (if pc < 100 then (if pc = 97 then some (.getfield 36, 3) else none) else (if pc < 103 then (if pc = 100 then some (.invokevirtual 212, 3) else none) else (if pc = 103 then some (.ireturn, 1) else none)))))) else (if pc < 127 then (if pc < 113 then (if pc < 108 then (if pc < 105 then (if pc = 104 then some (.aload_n 0, 1) else none) else (if pc = 105 then some (.getfield 36, 3) else none)) else (if pc < 111 then (if pc = 108 then some (.invokevirtual 215, 3) else none) else (if pc < 112 then (if pc = 111 then some (.ireturn, 1) else none) else (if pc = 112 then some (.aload_n 0, 1) else none)))) else (if pc < 120 then (if pc < 116 then (if pc = 113 then some (.getfield 36, 3) else none) else (if pc < 119 then (if pc = 116 then some (.invokevirtual 218, 3) else none) else (if pc = 119 then some (.ireturn, 1) else none))) else (if pc < 121 then (if pc = 120 then some (.aload_n 0, 1) else none) else (if pc < 124 then (if pc = 121 then some (.getfield 36, 3) else none) else (if pc = 124 then some (.invokevirtual 221, 3) else none))))) else (if pc < 136 then (if pc < 129 then (if pc < 128 then (if pc = 127 then some (.ireturn, 1) else none) else (if pc = 128 then some (.aload_n 0, 1) else none)) else (if pc < 132 then (if pc = 129 then some (.getfield 36, 3) else none) else (if pc < 135 then (if pc = 132 then some (.getfield 224, 3) else none) else (if pc = 135 then some (.ireturn, 1) else none)))) else (if pc < 143 then (if pc < 137 then (if pc = 136 then some (.aload_n 0, 1) else none) else (if pc < 140 then (if pc = 137 then some (.getfield 29, 3) else none) else (if pc = 140 then some (.getfield 164, 3) else none))) else (if pc < 144 then (if pc = 143 then some (.ireturn, 1) else none) else (if pc < 146 then (if pc = 144 then some (.bipush (-2), 2) else none) else (if pc = 146 then some (.ireturn, 1) else none))))))
set_option maxRecDepth 100000 in
theorem xo_87_c0 : ([0, 1, 68, 69, 72, 73, 74, 75, 76, 79, 80, 81, 84, 87, 88, 89, 92, 95, 96, 97, 100, 103, 104, 105, 108, 111, 112, 113, 116, 119, 120, 121, 124, 127] : List Nat).all (fun pc => match xo_87 pc with | none => true | some r => decide (decode cX5_aboutAll pc = .ok r)) = true := by decide +kernel
set_option maxRecDepth 100000 in
theorem xo_87_c1 : ([128, 129, 132, 135, 136, 137, 140, 143, 144, 146] : List Nat).all (fun pc => match xo_87 pc with | none => true | some r => decide (decode cX5_aboutAll pc = .ok r)) = true := by decide +kernel
set_option maxRecDepth 100000 in
theorem xo_87_no : (List.range 147).all (fun pc => (xo_87 pc).isNone || (([0, 1, 68, 69, 72, 73, 74, 75, 76, 79, 80, 81, 84, 87, 88, 89, 92, 95, 96, 97, 100, 103, 104, 105, 108, 111, 112, 113, 116, 119, 120, 121, 124, 127] : List Nat).contains pc || ([128, 129, 132, 135, 136, 137, 140, 143, 144, 146] : List Nat).contains pc)) = true := by decide +kernel
theorem xo_87_top (pc : Nat) (h : 147 ≤ pc) : xo_87 pc = none := if_pos h
theorem xo_87_ok (pc : Nat) (r : Instr × Nat) (h : xo_87 pc = some r) : decode cX5_aboutAll pc = .ok r := by
  rcases Nat.lt_or_ge pc 147 with hl | hl
  · have h1 := List.all_eq_true.mp xo_87_no pc (List.mem_range.mpr hl)
    rw [h] at h1
    simp only [Option.isNone_some, Bool.false_or, Bool.or_eq_true, List.contains_iff_mem, or_assoc] at h1
    rcases h1 with h1 | h1
    · have h2 := List.all_eq_true.mp xo_87_c0 pc h1
      rw [h] at h2
      exact of_decide_eq_true h2
    · have h2 := List.all_eq_true.mp xo_87_c1 pc h1
      rw [h] at h2
      exact of_decide_eq_true h2
  · rw [show xo_87 pc = none from if_pos hl] at h; cases h
/-- X6_init -/
def xo_88 (pc : Nat) : Option (Instr × Nat) := if 68 ≤ pc then none else if pc < 34 then (if pc < 16 then (if pc < 8 then (if pc < 4 then (if pc < 1 then (if pc = 0 then some (.aload_n 0, 1) else none) else (if pc = 1 then some (.invokespecial 3, 3) else none)) else (if pc < 5 then (if pc = 4 then some (.aload_n 0, 1) else none) else (if pc = 5 then some (.new 9, 3) else none))) else (if pc < 12 then (if pc < 9 then (if pc = 8 then some (.dup, 1) else none) else (if pc = 9 then some (.invokespecial 11, 3) else none)) else (if pc < 15 then (if pc = 12 then some (.putfield 12, 3) else none) else (if pc = 15 then some (.aload_n 0, 1) else none)))) else (if pc < 26 then (if pc < 20 then (if pc < 19 then (if pc = 16 then some (.new 9, 3) else none) else (if pc = 19 then some (.dup, 1) else none)) else (if pc < 23 then (if pc = 20 then some (.invokespecial 11, 3) else none) else (if pc = 23 then some (.putfield 16, 3) else none))) else (if pc < 30 then (if pc < 27 then (if pc = 26 then some (.aload_n 0, 1) else none) else (if pc = 27 then some (.new 9, 3) else none)) else (if pc < 31 then (if pc = 30 then some (.dup, 1) else none) else (if pc = 31 then some (.invokespecial 11, 3) else none))))) else (if pc < 50 then (if pc < 42 then (if pc < 38 then (if pc < 37 then (if pc = 34 then some (.putfield 19, 3) else none) else (if pc = 37 then some (.aload_n 0, 1) else none)) else (if pc < 41 then (if pc = 38 then some (.new 22, 3) else none) else (if pc = 41 then some (.dup, 1) else none))) else (if pc < 48 then (if pc < 45 then (if pc = 42 then some (.invokespecial 24, 3) else none) else (if pc = 45 then some (.putfield 25, 3) else none)) else (if pc < 49 then (if pc = 48 then some (.aload_n 0, 1) else none) else (if pc = 49 then some (.iconst 2, 1) else none)))) else (if pc < 60 then (if pc < 56 then (if pc < 53 then (if pc = 50 then some (.anewarray 9, 3) else none) else (if pc = 53 then some (.putfield 29, 3) else none)) else (if pc < 57 then (if pc = 56 then some (.aload_n 0, 1) else none) else (if pc = 57 then some (.new 33, 3) else none))) else (if pc < 64 then (if pc < 61 then (if pc = 60 then some (.dup, 1) else none) else (if pc = 61 then some (.invokespecial 35, 3) else none)) else (if pc < 67 then (if pc = 64 then some (.putfield 36, 3) else none) else (if pc = 67 then some (.return_, 1) else none)))))
set_option maxRecDepth 100000 in
theorem xo_88_c0 : ([0, 1, 4, 5, 8, 9, 12, 15, 16, 19, 20, 23, 26, 27, 30, 31, 34, 37, 38, 41, 42, 45, 48, 49, 50, 53, 56, 57, 60, 61, 64, 67] : List Nat).all (fun pc => match xo_88 pc with | none => true | some r => decide (decode cX6_init pc = .ok r)) = true := by decide +kernel
set_option maxRecDepth 100000 in
theorem xo_88_no : (List.range 68).all (fun pc => (xo_88 pc).isNone || (([0, 1, 4, 5, 8, 9, 12, 15, 16, 19, 20, 23, 26, 27, 30, 31, 34, 37, 38, 41, 42, 45, 48, 49, 50, 53, 56, 57, 60, 61, 64, 67] : List Nat).contains pc)) = true := by decide +kernel
theorem xo_88_top (pc : Nat) (h : 68 ≤ pc) : xo_88 pc = none := if_pos h
theorem xo_88_ok (pc : Nat) (r : Instr × Nat) (h : xo_88 pc = some r) : decode cX6_init pc = .ok r := by
  rcases Nat.lt_or_ge pc 68 with hl | hl
  · have h1 := List.all_eq_true.mp xo_88_no pc (List.mem_range.mpr hl)
    rw [h] at h1
    simp only [Option.isNone_some, Bool.false_or, Bool.or_eq_true, List.contains_iff_mem, or_assoc] at h1
    rcases h1 with h1
    · have h2 := List.all_eq_true.mp xo_88_c0 pc h1
      rw [h] at h2
      exact of_decide_eq_true h2
  · rw [show xo_88 pc = none from if_pos hl] at h; cases h
/-- X6_recorded -/
def xo_89 (pc : Nat) : Option (Instr × Nat) := if 17 ≤ pc then none else if pc < 8 then (if pc < 4 then (if pc < 1 then (if pc = 0 then some (.iload_n 1, 1) else none) else (if pc = 1 then some (.ifCond .lt 14, 3) else none)) else (if pc < 5 then (if pc = 4 then some (.aload_n 0, 1) else none) else (if pc = 5 then some (.getfield 25, 3) else none))) else (if pc < 12 then (if pc < 9 then (if pc = 8 then some (.aload_n 0, 1) else none) else (if pc = 9 then some (.getfield 16, 3) else none)) else (if pc < 15 then (if pc = 12 then some (.invokevirtual 183, 3) else none) else (if pc < 16 then (if pc = 15 then some (.iload_n 1, 1) else none) else (if pc = 16 then some (.ireturn, 1) else none))))
set_option maxRecDepth 100000 in
theorem xo_89_c0 : ([0, 1, 4, 5, 8, 9, 12, 15, 16] : List Nat).all (fun pc => match xo_89 pc with | none => true | some r => decide (decode cX6_recorded pc = .ok r)) = true := by decide +kernel
set_option maxRecDepth 100000 in
theorem xo_89_no : (List.range 17).all (fun pc => (xo_89 pc).isNone || (([0, 1, 4, 5, 8, 9, 12, 15, 16] : List Nat).contains pc)) = true := by decide +kernel
theorem xo_89_top (pc : Nat) (h : 17 ≤ pc) : xo_89 pc = none := if_pos h
theorem xo_89_ok (pc : Nat) (r : Instr × Nat) (h : xo_89 pc = some r) : decode cX6_recorded pc = .ok r := by
  rcases Nat.lt_or_ge pc 17 with hl | hl
  · have h1 := List.all_eq_true.mp xo_89_no pc (List.mem_range.mpr hl)
    rw [h] at h1
    simp only [Option.isNone_some, Bool.false_or, Bool.or_eq_true, List.contains_iff_mem, or_assoc] at h1
    rcases h1 with h1
    · have h2 := List.all_eq_true.mp xo_89_c0 pc h1
      rw [h] at h2
      exact of_decide_eq_true h2
  · rw [show xo_89 pc = none from if_pos hl] at h; cases h
/-- X6_set -/
def xo_90 (pc : Nat) : Option (Instr × Nat) := if 25 ≤ pc then none else if pc < 12 then (if pc < 5 then (if pc < 1 then (if pc = 0 then some (.aload_n 0, 1) else none) else (if pc < 4 then (if pc = 1 then some (.getfield 16, 3) else none) else (if pc = 4 then some (.aload_n 0, 1) else none))) else (if pc < 8 then (if pc = 5 then some (.getfield 12, 3) else none) else (if pc < 11 then (if pc = 8 then some (.invokevirtual 40, 3) else none) else (if pc = 11 then some (.aload_n 0, 1) else none)))) else (if pc < 17 then (if pc < 13 then (if pc = 12 then some (.aload_n 0, 1) else none) else (if pc < 16 then (if pc = 13 then some (.getfield 12, 3) else none) else (if pc = 16 then some (.iload_n 1, 1) else none))) else (if pc < 21 then (if pc < 18 then (if pc = 17 then some (.iload_n 2, 1) else none) else (if pc = 18 then some (.invokevirtual 44, 3) else none)) else (if pc < 24 then (if pc = 21 then some (.invokevirtual 48, 3) else none) else (if pc = 24 then some (.ireturn, 1) else none))))
set_option maxRecDepth 100000 in
theorem xo_90_c0 : ([0, 1, 4, 5, 8, 11, 12, 13, 16, 17, 18, 21, 24] : List Nat).all (fun pc => match xo_90 pc with | none => true | some r => decide (decode cX6_set pc = .ok r)) = true := by decide +kernel
set_option maxRecDepth 100000 in
theorem xo_90_no : (List.range 25).all (fun pc => (xo_90 pc).isNone || (([0, 1, 4, 5, 8, 11, 12, 13, 16, 17, 18, 21, 24] : List Nat).contains pc)) = true := by decide +kernel
theorem xo_90_top (pc : Nat) (h : 25 ≤ pc) : xo_90 pc = none := if_pos h
theorem xo_90_ok (pc : Nat) (r : Instr × Nat) (h : xo_90 pc = some r) : decode cX6_set pc = .ok r := by
  rcases Nat.lt_or_ge pc 25 with hl | hl
  · have h1 := List.all_eq_true.mp xo_90_no pc (List.mem_range.mpr hl)
    rw [h] at h1
    simp only [Option.isNone_some, Bool.false_or, Bool.or_eq_true, List.contains_iff_mem, or_assoc] at h1
    rcases h1 with h1
    · have h2 := List.all_eq_true.mp xo_90_c0 pc h1
      rw [h] at h2
      exact of_decide_eq_true h2
  · rw [show xo_90 pc = none from if_pos hl] at h; cases h
/-- X6_ask -/
def xo_91 (pc : Nat) : Option (Instr × Nat) := if 26 ≤ pc then none else if pc < 13 then (if pc < 5 then (if pc < 1 then (if pc = 0 then some (.aload_n 0, 1) else none) else (if pc < 4 then (if pc = 1 then some (.getfield 16, 3) else none) else (if pc = 4 then some (.aload_n 0, 1) else none))) else (if pc < 11 then (if pc < 8 then (if pc = 5 then some (.getfield 12, 3) else none) else (if pc = 8 then some (.invokevirtual 40, 3) else none)) else (if pc < 12 then (if pc = 11 then some (.aload_n 0, 1) else none) else (if pc = 12 then some (.aload_n 0, 1) else none)))) else (if pc < 18 then (if pc < 16 then (if pc = 13 then some (.getfield 12, 3) else none) else (if pc < 17 then (if pc = 16 then some (.iload_n 1, 1) else none) else (if pc = 17 then some (.iload_n 2, 1) else none))) else (if pc < 22 then (if pc < 19 then (if pc = 18 then some (.iload_n 3, 1) else none) else (if pc = 19 then some (.invokevirtual 52, 3) else none)) else (if pc < 25 then (if pc = 22 then some (.invokevirtual 48, 3) else none) else (if pc = 25 then some (.ireturn, 1) else none))))
set_option maxRecDepth 100000 in
theorem xo_91_c0 : ([0, 1, 4, 5, 8, 11, 12, 13, 16, 17, 18, 19, 22, 25] : List Nat).all (fun pc => match xo_91 pc with | none => true | some r => decide (decode cX6_ask pc = .ok r)) = true := by decide +kernel
set_option maxRecDepth 100000 in
theorem xo_91_no : (List.range 26).all (fun pc => (xo_91 pc).isNone || (([0, 1, 4, 5, 8, 11, 12, 13, 16, 17, 18, 19, 22, 25] : List Nat).contains pc)) = true := by decide +kernel
theorem xo_91_top (pc : Nat) (h : 26 ≤ pc) : xo_91 pc = none := if_pos h
theorem xo_91_ok (pc : Nat) (r : Instr × Nat) (h : xo_91 pc = some r) : decode cX6_ask pc = .ok r := by
  rcases Nat.lt_or_ge pc 26 with hl | hl
  · have h1 := List.all_eq_true.mp xo_91_no pc (List.mem_range.mpr hl)
    rw [h] at h1
    simp only [Option.isNone_some, Bool.false_or, Bool.or_eq_true, List.contains_iff_mem, or_assoc] at h1
    rcases h1 with h1
    · have h2 := List.all_eq_true.mp xo_91_c0 pc h1
      rw [h] at h2
      exact of_decide_eq_true h2
  · rw [show xo_91 pc = none from if_pos hl] at h; cases h
/-- X6_giveUp -/
def xo_92 (pc : Nat) : Option (Instr × Nat) := if 24 ≤ pc then none else if pc < 12 then (if pc < 5 then (if pc < 1 then (if pc = 0 then some (.aload_n 0, 1) else none) else (if pc < 4 then (if pc = 1 then some (.getfield 16, 3) else none) else (if pc = 4 then some (.aload_n 0, 1) else none))) else (if pc < 8 then (if pc = 5 then some (.getfield 12, 3) else none) else (if pc < 11 then (if pc = 8 then some (.invokevirtual 40, 3) else none) else (if pc = 11 then some (.aload_n 0, 1) else none)))) else (if pc < 17 then (if pc < 13 then (if pc = 12 then some (.aload_n 0, 1) else none) else (if pc < 16 then (if pc = 13 then some (.getfield 12, 3) else none) else (if pc = 16 then some (.iload_n 1, 1) else none))) else (if pc < 20 then (if pc = 17 then some (.invokevirtual 56, 3) else none) else (if pc < 23 then (if pc = 20 then some (.invokevirtual 48, 3) else none) else (if pc = 23 then some (.ireturn, 1) else none))))
set_option maxRecDepth 100000 in
theorem xo_92_c0 : ([0, 1, 4, 5, 8, 11, 12, 13, 16, 17, 20, 23] : List Nat).all (fun pc => match xo_92 pc with | none => true | some r => decide (decode cX6_giveUp pc = .ok r)) = true := by decide +kernel
set_option maxRecDepth 100000 in
theorem xo_92_no : (List.range 24).all (fun pc => (xo_92 pc).isNone || (([0, 1, 4, 5, 8, 11, 12, 13, 16, 17, 20, 23] : List Nat).contains pc)) = true := by decide +kernel
theorem xo_92_top (pc : Nat) (h : 24 ≤ pc) : xo_92 pc = none := if_pos h
theorem xo_92_ok (pc : Nat) (r : Instr × Nat) (h : xo_92 pc = some r) : decode cX6_giveUp pc = .ok r := by
  rcases Nat.lt_or_ge pc 24 with hl | hl
  · have h1 := List.all_eq_true.mp xo_92_no pc (List.mem_range.mpr hl)
    rw [h] at h1
    simp only [Option.isNone_some, Bool.false_or, Bool.or_eq_true, List.contains_iff_mem, or_assoc] at h1
    rcases h1 with h1
    · have h2 := List.all_eq_true.mp xo_92_c0 pc h1
      rw [h] at h2
      exact of_decide_eq_true h2
  · rw [show xo_92 pc = none from if_pos hl] at h; cases h
/-- X6_prolong -/
def xo_93 (pc : Nat) : Option (Instr × Nat) := if 25 ≤ pc then none else if pc < 12 then (if pc < 5 then (if pc < 1 then (if pc = 0 then some (.aload_n 0, 1) else none) else (if pc < 4 then (if pc = 1 then some (.getfield 16, 3) else none) else (if pc = 4 then some (.aload_n 0, 1) else none))) else (if pc < 8 then (if pc = 5 then some (.getfield 12, 3) else none) else (if pc < 11 then (if pc = 8 then some (.invokevirtual 40, 3) else none) else (if pc = 11 then some (.aload_n 0, 1) else none)))) else (if pc < 17 then (if pc < 13 then (if pc = 12 then some (.aload_n 0, 1) else none) else (if pc < 16 then (if pc = 13 then some (.getfield 12, 3) else none) else (if pc = 16 then some (.iload_n 1, 1) else none))) else (if pc < 21 then (if pc < 18 then (if pc = 17 then some (.iload_n 2, 1) else none) else (if pc = 18 then some (.invokevirtual 59, 3) else none)) else (if pc < 24 then (if pc = 21 then some (.invokevirtual 48, 3) else none) else (if pc = 24 then some (.ireturn, 1) else none))))
set_option maxRecDepth 100000 in
theorem xo_93_c0 : ([0, 1, 4, 5, 8, 11, 12, 13, 16, 17, 18, 21, 24] : List Nat).all (fun pc => match xo_93 pc with | none => true | some r => decide (decode cX6_prolong pc = .ok r)) = true := by decide +kernel
set_option maxRecDepth 100000 in
theorem xo_93_no : (List.range 25).all (fun pc => (xo_93 pc).isNone || (([0, 1, 4, 5, 8, 11, 12, 13, 16, 17, 18, 21, 24] : List Nat).contains pc)) = true := by decide +kernel
theorem xo_93_top (pc : Nat) (h : 25 ≤ pc) : xo_93 pc = none := if_pos h
theorem xo_93_ok (pc : Nat) (r : Instr × Nat) (h : xo_93 pc = some r) : decode cX6_prolong pc = .ok r := by
  rcases Nat.lt_or_ge pc 25 with hl | hl
  · have h1 := List.all_eq_true.mp xo_93_no pc (List.mem_range.mpr hl)
    rw [h] at h1
    simp only [Option.isNone_some, Bool.false_or, Bool.or_eq_true, List.contains_iff_mem, or_assoc] at h1
    rcases h1 with h1
    · have h2 := List.all_eq_true.mp xo_93_c0 pc h1
      rw [h] at h2
      exact of_decide_eq_true h2
  · rw [show xo_93 pc = none from if_pos hl] at h; cases h
/-- X6_park -/
def xo_94 (pc : Nat) : Option (Instr × Nat) := if 24 ≤ pc then none else if pc < 12 then (if pc < 5 then (if pc < 1 then (if pc = 0 then some (.aload_n 0, 1) else none) else (if pc < 4 then (if pc = 1 then some (.getfield 16, 3) else none) else (if pc = 4 then some (.aload_n 0, 1) else none))) else (if pc < 8 then (if pc = 5 then some (.getfield 12, 3) else none) else (if pc < 11 then (if pc = 8 then some (.invokevirtual 40, 3) else none) else (if pc = 11 then some (.aload_n 0, 1) else none)))) else (if pc < 17 then (if pc < 13 then (if pc = 12 then some (.aload_n 0, 1) else none) else (if pc < 16 then (if pc = 13 then some (.getfield 12, 3) else none) else (if pc = 16 then some (.iload_n 1, 1) else none))) else (if pc < 20 then (if pc = 17 then some (.invokevirtual 62, 3) else none) else (if pc < 23 then (if pc = 20 then some (.invokevirtual 48, 3) else none) else (if pc = 23 then some (.ireturn, 1) else none))))
set_option maxRecDepth 100000 in
theorem xo_94_c0 : ([0, 1, 4, 5, 8, 11, 12, 13, 16, 17, 20, 23] : List Nat).all (fun pc => match xo_94 pc with | none => true | some r => decide (decode cX6_park pc = .ok r)) = true := by decide +kernel
set_option maxRecDepth 100000 in
theorem xo_94_no : (List.range 24).all (fun pc => (xo_94 pc).isNone || (([0, 1, 4, 5, 8, 11, 12, 13, 16, 17, 20, 23] : List Nat).contains pc)) = true := by decide +kernel
theorem xo_94_top (pc : Nat) (h : 24 ≤ pc) : xo_94 pc = none := if_pos h
theorem xo_94_ok (pc : Nat) (r : Instr × Nat) (h : xo_94 pc = some r) : decode cX6_park pc = .ok r := by
  rcases Nat.lt_or_ge pc 24 with hl | hl
  · have h1 := List.all_eq_true.mp xo_94_no pc (List.mem_range.mpr hl)
    rw [h] at h1
    simp only [Option.isNone_some, Bool.false_or, Bool.or_eq_true, List.contains_iff_mem, or_assoc] at h1
    rcases h1 with h1
    · have h2 := List.all_eq_true.mp xo_94_c0 pc h1
      rw [h] at h2
      exact of_decide_eq_true h2
  · rw [show xo_94 pc = none from if_pos hl] at h; cases h
/-- X6_ride -/
def xo_95 (pc : Nat) : Option (Instr × Nat) := if 24 ≤ pc then none else if pc < 12 then (if pc < 5 then (if pc < 1 then (if pc = 0 then some (.aload_n 0, 1) else none) else (if pc < 4 then (if pc = 1 then some (.getfield 16, 3) else none) else (if pc = 4 then some (.aload_n 0, 1) else none))) else (if pc < 8 then (if pc = 5 then some (.getfield 12, 3) else none) else (if pc < 11 then (if pc = 8 then some (.invokevirtual 40, 3) else none) else (if pc = 11 then some (.aload_n 0, 1) else none)))) else (if pc < 17 then (if pc < 13 then (if pc = 12 then some (.aload_n 0, 1) else none) else (if pc < 16 then (if pc = 13 then some (.getfield 12, 3) else none) else (if pc = 16 then some (.iload_n 1, 1) else none))) else (if pc < 20 then (if pc = 17 then some (.invokevirtual 65, 3) else none) else (if pc < 23 then (if pc = 20 then some (.invokevirtual 48, 3) else none) else (if pc = 23 then some (.ireturn, 1) else none))))
set_option maxRecDepth 100000 in
theorem xo_95_c0 : ([0, 1, 4, 5, 8, 11, 12, 13, 16, 17, 20, 23] : List Nat).all (fun pc => match xo_95 pc with | none => true | some r => decide (decode cX6_ride pc = .ok r)) = true := by decide +kernel
set_option maxRecDepth 100000 in
theorem xo_95_no : (List.range 24).all (fun pc => (xo_95 pc).isNone || (([0, 1, 4, 5, 8, 11, 12, 13, 16, 17, 20, 23] : List Nat).contains pc)) = true := by decide +kernel
theorem xo_95_top (pc : Nat) (h : 24 ≤ pc) : xo_95 pc = none := if_pos h
theorem xo_95_ok (pc : Nat) (r : Instr × Nat) (h : xo_95 pc = some r) : decode cX6_ride pc = .ok r := by
  rcases Nat.lt_or_ge pc 24 with hl | hl
  · have h1 := List.all_eq_true.mp xo_95_no pc (List.mem_range.mpr hl)
    rw [h] at h1
    simp only [Option.isNone_some, Bool.false_or, Bool.or_eq_true, List.contains_iff_mem, or_assoc] at h1
    rcases h1 with h1
    · have h2 := List.all_eq_true.mp xo_95_c0 pc h1
      rw [h] at h2
      exact of_decide_eq_true h2
  · rw [show xo_95 pc = none from if_pos hl] at h; cases h
/-- X6_answer -/
def xo_96 (pc : Nat) : Option (Instr × Nat) := if 24 ≤ pc then none else if pc < 12 then (if pc < 5 then (if pc < 1 then (if pc = 0 then some (.aload_n 0, 1) else none) else (if pc < 4 then (if pc = 1 then some (.getfield 16, 3) else none) else (if pc = 4 then some (.aload_n 0, 1) else none))) else (if pc < 8 then (if pc = 5 then some (.getfield 12, 3) else none) else (if pc < 11 then (if pc = 8 then some (.invokevirtual 40, 3) else none) else (if pc = 11 then some (.aload_n 0, 1) else none)))) else (if pc < 17 then (if pc < 13 then (if pc = 12 then some (.aload_n 0, 1) else none) else (if pc < 16 then (if pc = 13 then some (.getfield 12, 3) else none) else (if pc = 16 then some (.iload_n 1, 1) else none))) else (if pc < 20 then (if pc = 17 then some (.invokevirtual 68, 3) else none) else (if pc < 23 then (if pc = 20 then some (.invokevirtual 48, 3) else none) else (if pc = 23 then some (.ireturn, 1) else none))))
set_option maxRecDepth 100000 in
theorem xo_96_c0 : ([0, 1, 4, 5, 8, 11, 12, 13, 16, 17, 20, 23] : List Nat).all (fun pc => match xo_96 pc with | none => true | some r => decide (decode cX6_answer pc = .ok r)) = true := by decide +kernel
set_option maxRecDepth 100000 in
theorem xo_96_no : (List.range 24).all (fun pc => (xo_96 pc).isNone || (([0, 1, 4, 5, 8, 11, 12, 13, 16, 17, 20, 23] : List Nat).contains pc)) = true := by decide +kernel
theorem xo_96_top (pc : Nat) (h : 24 ≤ pc) : xo_96 pc = none := if_pos h
theorem xo_96_ok (pc : Nat) (r : Instr × Nat) (h : xo_96 pc = some r) : decode cX6_answer pc = .ok r := by
  rcases Nat.lt_or_ge pc 24 with hl | hl
  · have h1 := List.all_eq_true.mp xo_96_no pc (List.mem_range.mpr hl)
    rw [h] at h1
    simp only [Option.isNone_some, Bool.false_or, Bool.or_eq_true, List.contains_iff_mem, or_assoc] at h1
    rcases h1 with h1
    · have h2 := List.all_eq_true.mp xo_96_c0 pc h1
      rw [h] at h2
      exact of_decide_eq_true h2
  · rw [show xo_96 pc = none from if_pos hl] at h; cases h
/-- X6_fetch -/
def xo_97 (pc : Nat) : Option (Instr × Nat) := if 24 ≤ pc then none else if pc < 12 then (if pc < 5 then (if pc < 1 then (if pc = 0 then some (.aload_n 0, 1) else none) else (if pc < 4 then (if pc = 1 then some (.getfield 16, 3) else none) else (if pc = 4 then some (.aload_n 0, 1) else none))) else (if pc < 8 then (if pc = 5 then some (.getfield 12, 3) else none) else (if pc < 11 then (if pc = 8 then some (.invokevirtual 40, 3) else none) else (if pc = 11 then some (.aload_n 0, 1) else none)))) else (if pc < 17 then (if pc < 13 then (if pc = 12 then some (.aload_n 0, 1) else none) else (if pc < 16 then (if pc = 13 then some (.getfield 12, 3) else none) else (if pc = 16 then some (.iload_n 1, 1) else none))) else (if pc < 20 then (if pc = 17 then some (.invokevirtual 71, 3) else none) else (if pc < 23 then (if pc = 20 then some (.invokevirtual 48, 3) else none) else (if pc = 23 then some (.ireturn, 1) else none))))
set_option maxRecDepth 100000 in
theorem xo_97_c0 : ([0, 1, 4, 5, 8, 11, 12, 13, 16, 17, 20, 23] : List Nat).all (fun pc => match xo_97 pc with | none => true | some r => decide (decode cX6_fetch pc = .ok r)) = true := by decide +kernel
set_option maxRecDepth 100000 in
theorem xo_97_no : (List.range 24).all (fun pc => (xo_97 pc).isNone || (([0, 1, 4, 5, 8, 11, 12, 13, 16, 17, 20, 23] : List Nat).contains pc)) = true := by decide +kernel
theorem xo_97_top (pc : Nat) (h : 24 ≤ pc) : xo_97 pc = none := if_pos h
theorem xo_97_ok (pc : Nat) (r : Instr × Nat) (h : xo_97 pc = some r) : decode cX6_fetch pc = .ok r := by
  rcases Nat.lt_or_ge pc 24 with hl | hl
  · have h1 := List.all_eq_true.mp xo_97_no pc (List.mem_range.mpr hl)
    rw [h] at h1
    simp only [Option.isNone_some, Bool.false_or, Bool.or_eq_true, List.contains_iff_mem, or_assoc] at h1
    rcases h1 with h1
    · have h2 := List.all_eq_true.mp xo_97_c0 pc h1
      rw [h] at h2
      exact of_decide_eq_true h2
  · rw [show xo_97 pc = none from if_pos hl] at h; cases h
/-- X6_sweep -/
def xo_98 (pc : Nat) : Option (Instr × Nat) := if 24 ≤ pc then none else if pc < 12 then (if pc < 5 then (if pc < 1 then (if pc = 0 then some (.aload_n 0, 1) else none) else (if pc < 4 then (if pc = 1 then some (.getfield 16, 3) else none) else (if pc = 4 then some (.aload_n 0, 1) else none))) else (if pc < 8 then (if pc = 5 then some (.getfield 12, 3) else none) else (if pc < 11 then (if pc = 8 then some (.invokevirtual 40, 3) else none) else (if pc = 11 then some (.aload_n 0, 1) else none)))) else (if pc < 17 then (if pc < 13 then (if pc = 12 then some (.aload_n 0, 1) else none) else (if pc < 16 then (if pc = 13 then some (.getfield 12, 3) else none) else (if pc = 16 then some (.iload_n 1, 1) else none))) else (if pc < 20 then (if pc = 17 then some (.invokevirtual 74, 3) else none) else (if pc < 23 then (if pc = 20 then some (.invokevirtual 48, 3) else none) else (if pc = 23 then some (.ireturn, 1) else none))))
set_option maxRecDepth 100000 in
theorem xo_98_c0 : ([0, 1, 4, 5, 8, 11, 12, 13, 16, 17, 20, 23] : List Nat).all (fun pc => match xo_98 pc with | none => true | some r => decide (decode cX6_sweep pc = .ok r)) = true := by decide +kernel
set_option maxRecDepth 100000 in
theorem xo_98_no : (List.range 24).all (fun pc => (xo_98 pc).isNone || (([0, 1, 4, 5, 8, 11, 12, 13, 16, 17, 20, 23] : List Nat).contains pc)) = true := by decide +kernel
theorem xo_98_top (pc : Nat) (h : 24 ≤ pc) : xo_98 pc = none := if_pos h
theorem xo_98_ok (pc : Nat) (r : Instr × Nat) (h : xo_98 pc = some r) : decode cX6_sweep pc = .ok r := by
  rcases Nat.lt_or_ge pc 24 with hl | hl
  · have h1 := List.all_eq_true.mp xo_98_no pc (List.mem_range.mpr hl)
    rw [h] at h1
    simp only [Option.isNone_some, Bool.false_or, Bool.or_eq_true, List.contains_iff_mem, or_assoc] at h1
    rcases h1 with h1
    · have h2 := List.all_eq_true.mp xo_98_c0 pc h1
      rw [h] at h2
      exact of_decide_eq_true h2
  · rw [show xo_98 pc = none from if_pos hl] at h; cases h
/-- X6_use -/
def xo_99 (pc : Nat) : Option (Instr × Nat) := if 26 ≤ pc then none else if pc < 13 then (if pc < 5 then (if pc < 1 then (if pc = 0 then some (.aload_n 0, 1) else none) else (if pc < 4 then (if pc = 1 then some (.getfield 16, 3) else none) else (if pc = 4 then some (.aload_n 0, 1) else none))) else (if pc < 11 then (if pc < 8 then (if pc = 5 then some (.getfield 12, 3) else none) else (if pc = 8 then some (.invokevirtual 40, 3) else none)) else (if pc < 12 then (if pc = 11 then some (.aload_n 0, 1) else none) else (if pc = 12 then some (.aload_n 0, 1) else none)))) else (if pc < 18 then (if pc < 16 then (if pc = 13 then some (.getfield 12, 3) else none) else (if pc < 17 then (if pc = 16 then some (.iload_n 1, 1) else none) else (if pc = 17 then some (.iload_n 2, 1) else none))) else (if pc < 22 then (if pc < 19 then (if pc = 18 then some (.iload_n 3, 1) else none) else (if pc = 19 then some (.invokevirtual 77, 3) else none)) else (if pc < 25 then (if pc = 22 then some (.invokevirtual 48, 3) else none) else (if pc = 25 then some (.ireturn, 1) else none))))
set_option maxRecDepth 100000 in
theorem xo_99_c0 : ([0, 1, 4, 5, 8, 11, 12, 13, 16, 17, 18, 19, 22, 25] : List Nat).all (fun pc => match xo_99 pc with | none => true | some r => decide (decode cX6_use pc = .ok r)) = true := by decide +kernel
set_option maxRecDepth 100000 in
theorem xo_99_no : (List.range 26).all (fun pc => (xo_99 pc).isNone || (([0, 1, 4, 5, 8, 11, 12, 13, 16, 17, 18, 19, 22, 25] : List Nat).contains pc)) = true := by decide +kernel
theorem xo_99_top (pc : Nat) (h : 26 ≤ pc) : xo_99 pc = none := if_pos h
theorem xo_99_ok (pc : Nat) (r : Instr × Nat) (h : xo_99 pc = some r) : decode cX6_use pc = .ok r := by
  rcases Nat.lt_or_ge pc 26 with hl | hl
  · have h1 := List.all_eq_true.mp xo_99_no pc (List.mem_range.mpr hl)
    rw [h] at h1
    simp only [Option.isNone_some, Bool.false_or, Bool.or_eq_true, List.contains_iff_mem, or_assoc] at h1
    rcases h1 with h1
    · have h2 := List.all_eq_true.mp xo_99_c0 pc h1
      rw [h] at h2
      exact of_decide_eq_true h2
  · rw [show xo_99 pc = none from if_pos hl] at h; cases h
