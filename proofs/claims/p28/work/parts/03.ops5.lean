/-- X5_lowestFreeRack -/
def xo_56 (pc : Nat) : Option (Instr × Nat) := if 46 ≤ pc then none else if pc < 21 then (if pc < 11 then (if pc < 5 then (if pc < 1 then (if pc = 0 then some (.aload_n 0, 1) else none) else (if pc < 4 then (if pc = 1 then some (.getfield 23, 3) else none) else (if pc = 4 then some (.iload_n 1, 1) else none))) else (if pc < 7 then (if pc < 6 then (if pc = 5 then some (.iaload, 1) else none) else (if pc = 6 then some (.aload_n 0, 1) else none)) else (if pc < 10 then (if pc = 7 then some (.getfield 36, 3) else none) else (if pc = 10 then some (.iload_n 1, 1) else none)))) else (if pc < 17 then (if pc < 15 then (if pc < 14 then (if pc = 11 then some (.invokevirtual 184, 3) else none) else (if pc = 14 then some (.iconst (-1), 1) else none)) else (if pc < 16 then (if pc = 15 then some (.ixor, 1) else none) else (if pc = 16 then some (.iand, 1) else none))) else (if pc < 19 then (if pc < 18 then (if pc = 17 then some (.istore_n 2, 1) else none) else (if pc = 18 then some (.iconst 0, 1) else none)) else (if pc < 20 then (if pc = 19 then some (.istore_n 3, 1) else none) else (if pc = 20 then some (.iload_n 3, 1) else none))))) else (if pc < 31 then (if pc < 27 then (if pc < 23 then (if pc = 21 then some (.bipush 8, 2) else none) else (if pc < 26 then (if pc = 23 then some (.if_icmp .ge 20, 3) else none) else (if pc = 26 then some (.iload_n 2, 1) else none))) else (if pc < 29 then (if pc < 28 then (if pc = 27 then some (.iload_n 3, 1) else none) else (if pc = 28 then some (.ishr, 1) else none)) else (if pc < 30 then (if pc = 29 then some (.iconst 1, 1) else none) else (if pc = 30 then some (.iand, 1) else none)))) else (if pc < 37 then (if pc < 35 then (if pc < 32 then (if pc = 31 then some (.iconst 1, 1) else none) else (if pc = 32 then some (.if_icmp .ne 5, 3) else none)) else (if pc < 36 then (if pc = 35 then some (.iload_n 3, 1) else none) else (if pc = 36 then some (.ireturn, 1) else none))) else (if pc < 43 then (if pc < 40 then (if pc = 37 then some (.iinc 3 1, 3) else none) else (if pc = 40 then some (.goto (-20), 3) else none)) else (if pc < 45 then (if pc = 43 then some (.bipush (-6), 2) else none) else (if pc = 45 then some (.ireturn, 1) else none)))))
set_option maxRecDepth 100000 in
theorem xo_56_c0 : ([0, 1, 4, 5, 6, 7, 10, 11, 14, 15, 16, 17, 18, 19, 20, 21, 23, 26, 27, 28, 29, 30, 31, 32, 35, 36, 37, 40, 43, 45] : List Nat).all (fun pc => match xo_56 pc with | none => true | some r => decide (decode cX5_lowestFreeRack pc = .ok r)) = true := by decide +kernel
set_option maxRecDepth 100000 in
theorem xo_56_no : (List.range 46).all (fun pc => (xo_56 pc).isNone || (([0, 1, 4, 5, 6, 7, 10, 11, 14, 15, 16, 17, 18, 19, 20, 21, 23, 26, 27, 28, 29, 30, 31, 32, 35, 36, 37, 40, 43, 45] : List Nat).contains pc)) = true := by decide +kernel
theorem xo_56_top (pc : Nat) (h : 46 ≤ pc) : xo_56 pc = none := if_pos h
theorem xo_56_ok (pc : Nat) (r : Instr × Nat) (h : xo_56 pc = some r) : decode cX5_lowestFreeRack pc = .ok r := by
  rcases Nat.lt_or_ge pc 46 with hl | hl
  · have h1 := List.all_eq_true.mp xo_56_no pc (List.mem_range.mpr hl)
    rw [h] at h1
    simp only [Option.isNone_some, Bool.false_or, Bool.or_eq_true, List.contains_iff_mem, or_assoc] at h1
    rcases h1 with h1
    · have h2 := List.all_eq_true.mp xo_56_c0 pc h1
      rw [h] at h2
      exact of_decide_eq_true h2
  · rw [show xo_56 pc = none from if_pos hl] at h; cases h
/-- X5_parkBicycle -/
def xo_57 (pc : Nat) : Option (Instr × Nat) := if 86 ≤ pc then none else if pc < 46 then (if pc < 21 then (if pc < 9 then (if pc < 4 then (if pc < 1 then (if pc = 0 then some (.iload_n 1, 1) else none) else (if pc = 1 then some (.invokestatic 70, 3) else none)) else (if pc < 7 then (if pc = 4 then some (.ifCond .ne 5, 3) else none) else (if pc < 8 then (if pc = 7 then some (.iconst (-1), 1) else none) else (if pc = 8 then some (.ireturn, 1) else none)))) else (if pc < 14 then (if pc < 10 then (if pc = 9 then some (.aload_n 0, 1) else none) else (if pc < 13 then (if pc = 10 then some (.getfield 29, 3) else none) else (if pc = 13 then some (.iload_n 1, 1) else none))) else (if pc < 17 then (if pc = 14 then some (.invokevirtual 77, 3) else none) else (if pc < 20 then (if pc = 17 then some (.ifCond .eq 25, 3) else none) else (if pc = 20 then some (.aload_n 0, 1) else none))))) else (if pc < 35 then (if pc < 28 then (if pc < 24 then (if pc = 21 then some (.getfield 36, 3) else none) else (if pc < 25 then (if pc = 24 then some (.iload_n 1, 1) else none) else (if pc = 25 then some (.invokevirtual 118, 3) else none))) else (if pc < 31 then (if pc = 28 then some (.ifCond .ne 14, 3) else none) else (if pc < 32 then (if pc = 31 then some (.aload_n 0, 1) else none) else (if pc = 32 then some (.getfield 36, 3) else none)))) else (if pc < 42 then (if pc < 36 then (if pc = 35 then some (.iload_n 1, 1) else none) else (if pc < 39 then (if pc = 36 then some (.invokevirtual 121, 3) else none) else (if pc = 39 then some (.ifCond .eq 6, 3) else none))) else (if pc < 44 then (if pc = 42 then some (.bipush (-5), 2) else none) else (if pc < 45 then (if pc = 44 then some (.ireturn, 1) else none) else (if pc = 45 then some (.aload_n 0, 1) else none)))))) else (if pc < 67 then (if pc < 56 then (if pc < 53 then (if pc < 49 then (if pc = 46 then some (.getfield 29, 3) else none) else (if pc < 52 then (if pc = 49 then some (.getfield 115, 3) else none) else (if pc = 52 then some (.iload_n 1, 1) else none))) else (if pc < 54 then (if pc = 53 then some (.iaload, 1) else none) else (if pc < 55 then (if pc = 54 then some (.istore_n 2, 1) else none) else (if pc = 55 then some (.aload_n 0, 1) else none)))) else (if pc < 61 then (if pc < 57 then (if pc = 56 then some (.iload_n 2, 1) else none) else (if pc < 60 then (if pc = 57 then some (.invokevirtual 124, 3) else none) else (if pc = 60 then some (.istore_n 3, 1) else none))) else (if pc < 62 then (if pc = 61 then some (.iload_n 3, 1) else none) else (if pc < 64 then (if pc = 62 then some (.bipush (-6), 2) else none) else (if pc = 64 then some (.if_icmp .ne 6, 3) else none))))) else (if pc < 76 then (if pc < 71 then (if pc < 69 then (if pc = 67 then some (.bipush (-4), 2) else none) else (if pc < 70 then (if pc = 69 then some (.ireturn, 1) else none) else (if pc = 70 then some (.aload_n 0, 1) else none))) else (if pc < 74 then (if pc = 71 then some (.getfield 36, 3) else none) else (if pc < 75 then (if pc = 74 then some (.iload_n 1, 1) else none) else (if pc = 75 then some (.iload_n 2, 1) else none)))) else (if pc < 81 then (if pc < 77 then (if pc = 76 then some (.iload_n 3, 1) else none) else (if pc < 78 then (if pc = 77 then some (.aload_n 0, 1) else none) else (if pc = 78 then some (.getfield 53, 3) else none))) else (if pc < 84 then (if pc = 81 then some (.invokevirtual 127, 3) else none) else (if pc < 85 then (if pc = 84 then some (.iload_n 3, 1) else none) else (if pc = 85 then some (.ireturn, 1) else none))))))
set_option maxRecDepth 100000 in
theorem xo_57_c0 : ([0, 1, 4, 7, 8, 9, 10, 13, 14, 17, 20, 21, 24, 25, 28, 31, 32, 35, 36, 39, 42, 44, 45, 46, 49, 52, 53, 54, 55, 56, 57, 60, 61, 62, 64, 67, 69, 70, 71, 74, 75, 76, 77, 78, 81, 84, 85] : List Nat).all (fun pc => match xo_57 pc with | none => true | some r => decide (decode cX5_parkBicycle pc = .ok r)) = true := by decide +kernel
set_option maxRecDepth 100000 in
theorem xo_57_no : (List.range 86).all (fun pc => (xo_57 pc).isNone || (([0, 1, 4, 7, 8, 9, 10, 13, 14, 17, 20, 21, 24, 25, 28, 31, 32, 35, 36, 39, 42, 44, 45, 46, 49, 52, 53, 54, 55, 56, 57, 60, 61, 62, 64, 67, 69, 70, 71, 74, 75, 76, 77, 78, 81, 84, 85] : List Nat).contains pc)) = true := by decide +kernel
theorem xo_57_top (pc : Nat) (h : 86 ≤ pc) : xo_57 pc = none := if_pos h
theorem xo_57_ok (pc : Nat) (r : Instr × Nat) (h : xo_57 pc = some r) : decode cX5_parkBicycle pc = .ok r := by
  rcases Nat.lt_or_ge pc 86 with hl | hl
  · have h1 := List.all_eq_true.mp xo_57_no pc (List.mem_range.mpr hl)
    rw [h] at h1
    simp only [Option.isNone_some, Bool.false_or, Bool.or_eq_true, List.contains_iff_mem, or_assoc] at h1
    rcases h1 with h1
    · have h2 := List.all_eq_true.mp xo_57_c0 pc h1
      rw [h] at h2
      exact of_decide_eq_true h2
  · rw [show xo_57 pc = none from if_pos hl] at h; cases h
/-- X5_rideAway -/
def xo_58 (pc : Nat) : Option (Instr × Nat) := if 48 ≤ pc then none else if pc < 24 then (if pc < 10 then (if pc < 7 then (if pc < 1 then (if pc = 0 then some (.iload_n 1, 1) else none) else (if pc < 4 then (if pc = 1 then some (.invokestatic 70, 3) else none) else (if pc = 4 then some (.ifCond .ne 5, 3) else none))) else (if pc < 8 then (if pc = 7 then some (.iconst (-1), 1) else none) else (if pc < 9 then (if pc = 8 then some (.ireturn, 1) else none) else (if pc = 9 then some (.aload_n 0, 1) else none)))) else (if pc < 17 then (if pc < 13 then (if pc = 10 then some (.getfield 36, 3) else none) else (if pc < 14 then (if pc = 13 then some (.iload_n 1, 1) else none) else (if pc = 14 then some (.invokevirtual 118, 3) else none))) else (if pc < 22 then (if pc < 20 then (if pc = 17 then some (.ifCond .ne 6, 3) else none) else (if pc = 20 then some (.bipush (-5), 2) else none)) else (if pc < 23 then (if pc = 22 then some (.ireturn, 1) else none) else (if pc = 23 then some (.aload_n 0, 1) else none))))) else (if pc < 37 then (if pc < 31 then (if pc < 27 then (if pc = 24 then some (.getfield 53, 3) else none) else (if pc < 28 then (if pc = 27 then some (.aload_n 0, 1) else none) else (if pc = 28 then some (.getfield 36, 3) else none))) else (if pc < 35 then (if pc < 34 then (if pc = 31 then some (.getfield 130, 3) else none) else (if pc = 34 then some (.iload_n 1, 1) else none)) else (if pc < 36 then (if pc = 35 then some (.iaload, 1) else none) else (if pc = 36 then some (.isub, 1) else none)))) else (if pc < 42 then (if pc < 38 then (if pc = 37 then some (.istore_n 2, 1) else none) else (if pc < 39 then (if pc = 38 then some (.aload_n 0, 1) else none) else (if pc = 39 then some (.getfield 36, 3) else none))) else (if pc < 46 then (if pc < 43 then (if pc = 42 then some (.iload_n 1, 1) else none) else (if pc = 43 then some (.invokevirtual 133, 3) else none)) else (if pc < 47 then (if pc = 46 then some (.iload_n 2, 1) else none) else (if pc = 47 then some (.ireturn, 1) else none)))))
set_option maxRecDepth 100000 in
theorem xo_58_c0 : ([0, 1, 4, 7, 8, 9, 10, 13, 14, 17, 20, 22, 23, 24, 27, 28, 31, 34, 35, 36, 37, 38, 39, 42, 43, 46, 47] : List Nat).all (fun pc => match xo_58 pc with | none => true | some r => decide (decode cX5_rideAway pc = .ok r)) = true := by decide +kernel
set_option maxRecDepth 100000 in
theorem xo_58_no : (List.range 48).all (fun pc => (xo_58 pc).isNone || (([0, 1, 4, 7, 8, 9, 10, 13, 14, 17, 20, 22, 23, 24, 27, 28, 31, 34, 35, 36, 37, 38, 39, 42, 43, 46, 47] : List Nat).contains pc)) = true := by decide +kernel
theorem xo_58_top (pc : Nat) (h : 48 ≤ pc) : xo_58 pc = none := if_pos h
theorem xo_58_ok (pc : Nat) (r : Instr × Nat) (h : xo_58 pc = some r) : decode cX5_rideAway pc = .ok r := by
  rcases Nat.lt_or_ge pc 48 with hl | hl
  · have h1 := List.all_eq_true.mp xo_58_no pc (List.mem_range.mpr hl)
    rw [h] at h1
    simp only [Option.isNone_some, Bool.false_or, Bool.or_eq_true, List.contains_iff_mem, or_assoc] at h1
    rcases h1 with h1
    · have h2 := List.all_eq_true.mp xo_58_c0 pc h1
      rw [h] at h2
      exact of_decide_eq_true h2
  · rw [show xo_58 pc = none from if_pos hl] at h; cases h
/-- X5_answerFor -/
def xo_59 (pc : Nat) : Option (Instr × Nat) := if 66 ≤ pc then none else if pc < 35 then (if pc < 17 then (if pc < 8 then (if pc < 4 then (if pc < 1 then (if pc = 0 then some (.iload_n 1, 1) else none) else (if pc = 1 then some (.invokestatic 70, 3) else none)) else (if pc < 7 then (if pc = 4 then some (.ifCond .ne 5, 3) else none) else (if pc = 7 then some (.iconst (-1), 1) else none))) else (if pc < 10 then (if pc < 9 then (if pc = 8 then some (.ireturn, 1) else none) else (if pc = 9 then some (.aload_n 0, 1) else none)) else (if pc < 13 then (if pc = 10 then some (.getfield 36, 3) else none) else (if pc < 14 then (if pc = 13 then some (.iload_n 1, 1) else none) else (if pc = 14 then some (.invokevirtual 118, 3) else none))))) else (if pc < 24 then (if pc < 22 then (if pc < 20 then (if pc = 17 then some (.ifCond .ne 6, 3) else none) else (if pc = 20 then some (.bipush (-5), 2) else none)) else (if pc < 23 then (if pc = 22 then some (.ireturn, 1) else none) else (if pc = 23 then some (.aload_n 0, 1) else none))) else (if pc < 28 then (if pc < 27 then (if pc = 24 then some (.getfield 36, 3) else none) else (if pc = 27 then some (.iload_n 1, 1) else none)) else (if pc < 31 then (if pc = 28 then some (.invokevirtual 136, 3) else none) else (if pc < 34 then (if pc = 31 then some (.ifCond .eq 7, 3) else none) else (if pc = 34 then some (.iconst 1, 1) else none)))))) else (if pc < 52 then (if pc < 41 then (if pc < 39 then (if pc < 38 then (if pc = 35 then some (.goto 4, 3) else none) else (if pc = 38 then some (.iconst 0, 1) else none)) else (if pc < 40 then (if pc = 39 then some (.istore_n 2, 1) else none) else (if pc = 40 then some (.aload_n 0, 1) else none))) else (if pc < 47 then (if pc < 44 then (if pc = 41 then some (.getfield 36, 3) else none) else (if pc = 44 then some (.getfield 130, 3) else none)) else (if pc < 48 then (if pc = 47 then some (.iload_n 1, 1) else none) else (if pc < 49 then (if pc = 48 then some (.aload_n 0, 1) else none) else (if pc = 49 then some (.getfield 53, 3) else none))))) else (if pc < 60 then (if pc < 54 then (if pc < 53 then (if pc = 52 then some (.iastore, 1) else none) else (if pc = 53 then some (.aload_n 0, 1) else none)) else (if pc < 57 then (if pc = 54 then some (.getfield 36, 3) else none) else (if pc = 57 then some (.getfield 139, 3) else none))) else (if pc < 63 then (if pc < 61 then (if pc = 60 then some (.iload_n 1, 1) else none) else (if pc = 61 then some (.bipush (-6), 2) else none)) else (if pc < 64 then (if pc = 63 then some (.iastore, 1) else none) else (if pc < 65 then (if pc = 64 then some (.iload_n 2, 1) else none) else (if pc = 65 then some (.ireturn, 1) else none))))))
set_option maxRecDepth 100000 in
theorem xo_59_c0 : ([0, 1, 4, 7, 8, 9, 10, 13, 14, 17, 20, 22, 23, 24, 27, 28, 31, 34, 35, 38, 39, 40, 41, 44, 47, 48, 49, 52, 53, 54, 57, 60, 61, 63, 64, 65] : List Nat).all (fun pc => match xo_59 pc with | none => true | some r => decide (decode cX5_answerFor pc = .ok r)) = true := by decide +kernel
set_option maxRecDepth 100000 in
theorem xo_59_no : (List.range 66).all (fun pc => (xo_59 pc).isNone || (([0, 1, 4, 7, 8, 9, 10, 13, 14, 17, 20, 22, 23, 24, 27, 28, 31, 34, 35, 38, 39, 40, 41, 44, 47, 48, 49, 52, 53, 54, 57, 60, 61, 63, 64, 65] : List Nat).contains pc)) = true := by decide +kernel
theorem xo_59_top (pc : Nat) (h : 66 ≤ pc) : xo_59 pc = none := if_pos h
theorem xo_59_ok (pc : Nat) (r : Instr × Nat) (h : xo_59 pc = some r) : decode cX5_answerFor pc = .ok r := by
  rcases Nat.lt_or_ge pc 66 with hl | hl
  · have h1 := List.all_eq_true.mp xo_59_no pc (List.mem_range.mpr hl)
    rw [h] at h1
    simp only [Option.isNone_some, Bool.false_or, Bool.or_eq_true, List.contains_iff_mem, or_assoc] at h1
    rcases h1 with h1
    · have h2 := List.all_eq_true.mp xo_59_c0 pc h1
      rw [h] at h2
      exact of_decide_eq_true h2
  · rw [show xo_59 pc = none from if_pos hl] at h; cases h
/-- X5_fetchFromPound -/
def xo_60 (pc : Nat) : Option (Instr × Nat) := if 51 ≤ pc then none else if pc < 27 then (if pc < 13 then (if pc < 7 then (if pc < 1 then (if pc = 0 then some (.iload_n 1, 1) else none) else (if pc < 4 then (if pc = 1 then some (.invokestatic 70, 3) else none) else (if pc = 4 then some (.ifCond .ne 5, 3) else none))) else (if pc < 9 then (if pc < 8 then (if pc = 7 then some (.iconst (-1), 1) else none) else (if pc = 8 then some (.ireturn, 1) else none)) else (if pc < 10 then (if pc = 9 then some (.aload_n 0, 1) else none) else (if pc = 10 then some (.getfield 36, 3) else none)))) else (if pc < 20 then (if pc < 14 then (if pc = 13 then some (.iload_n 1, 1) else none) else (if pc < 17 then (if pc = 14 then some (.invokevirtual 121, 3) else none) else (if pc = 17 then some (.ifCond .ne 6, 3) else none))) else (if pc < 23 then (if pc < 22 then (if pc = 20 then some (.bipush (-5), 2) else none) else (if pc = 22 then some (.ireturn, 1) else none)) else (if pc < 24 then (if pc = 23 then some (.aload_n 0, 1) else none) else (if pc = 24 then some (.getfield 53, 3) else none))))) else (if pc < 38 then (if pc < 34 then (if pc < 28 then (if pc = 27 then some (.aload_n 0, 1) else none) else (if pc < 31 then (if pc = 28 then some (.getfield 36, 3) else none) else (if pc = 31 then some (.getfield 142, 3) else none))) else (if pc < 36 then (if pc < 35 then (if pc = 34 then some (.iload_n 1, 1) else none) else (if pc = 35 then some (.iaload, 1) else none)) else (if pc < 37 then (if pc = 36 then some (.isub, 1) else none) else (if pc = 37 then some (.istore_n 2, 1) else none)))) else (if pc < 46 then (if pc < 42 then (if pc < 39 then (if pc = 38 then some (.aload_n 0, 1) else none) else (if pc = 39 then some (.getfield 36, 3) else none)) else (if pc < 45 then (if pc = 42 then some (.getfield 142, 3) else none) else (if pc = 45 then some (.iload_n 1, 1) else none))) else (if pc < 49 then (if pc < 48 then (if pc = 46 then some (.bipush (-6), 2) else none) else (if pc = 48 then some (.iastore, 1) else none)) else (if pc < 50 then (if pc = 49 then some (.iload_n 2, 1) else none) else (if pc = 50 then some (.ireturn, 1) else none)))))
set_option maxRecDepth 100000 in
theorem xo_60_c0 : ([0, 1, 4, 7, 8, 9, 10, 13, 14, 17, 20, 22, 23, 24, 27, 28, 31, 34, 35, 36, 37, 38, 39, 42, 45, 46, 48, 49, 50] : List Nat).all (fun pc => match xo_60 pc with | none => true | some r => decide (decode cX5_fetchFromPound pc = .ok r)) = true := by decide +kernel
set_option maxRecDepth 100000 in
theorem xo_60_no : (List.range 51).all (fun pc => (xo_60 pc).isNone || (([0, 1, 4, 7, 8, 9, 10, 13, 14, 17, 20, 22, 23, 24, 27, 28, 31, 34, 35, 36, 37, 38, 39, 42, 45, 46, 48, 49, 50] : List Nat).contains pc)) = true := by decide +kernel
theorem xo_60_top (pc : Nat) (h : 51 ≤ pc) : xo_60 pc = none := if_pos h
theorem xo_60_ok (pc : Nat) (r : Instr × Nat) (h : xo_60 pc = some r) : decode cX5_fetchFromPound pc = .ok r := by
  rcases Nat.lt_or_ge pc 51 with hl | hl
  · have h1 := List.all_eq_true.mp xo_60_no pc (List.mem_range.mpr hl)
    rw [h] at h1
    simp only [Option.isNone_some, Bool.false_or, Bool.or_eq_true, List.contains_iff_mem, or_assoc] at h1
    rcases h1 with h1
    · have h2 := List.all_eq_true.mp xo_60_c0 pc h1
      rw [h] at h2
      exact of_decide_eq_true h2
  · rw [show xo_60 pc = none from if_pos hl] at h; cases h
/-- X5_isWithoutPermit -/
def xo_61 (pc : Nat) : Option (Instr × Nat) := if 27 ≤ pc then none else if pc < 13 then (if pc < 7 then (if pc < 1 then (if pc = 0 then some (.aload_n 0, 1) else none) else (if pc < 4 then (if pc = 1 then some (.getfield 29, 3) else none) else (if pc = 4 then some (.getfield 115, 3) else none))) else (if pc < 9 then (if pc < 8 then (if pc = 7 then some (.iload_n 1, 1) else none) else (if pc = 8 then some (.iaload, 1) else none)) else (if pc < 10 then (if pc = 9 then some (.aload_n 0, 1) else none) else (if pc = 10 then some (.getfield 36, 3) else none)))) else (if pc < 21 then (if pc < 17 then (if pc < 16 then (if pc = 13 then some (.getfield 145, 3) else none) else (if pc = 16 then some (.iload_n 1, 1) else none)) else (if pc < 18 then (if pc = 17 then some (.iaload, 1) else none) else (if pc = 18 then some (.if_icmp .eq 7, 3) else none))) else (if pc < 25 then (if pc < 22 then (if pc = 21 then some (.iconst 1, 1) else none) else (if pc = 22 then some (.goto 4, 3) else none)) else (if pc < 26 then (if pc = 25 then some (.iconst 0, 1) else none) else (if pc = 26 then some (.ireturn, 1) else none))))
set_option maxRecDepth 100000 in
theorem xo_61_c0 : ([0, 1, 4, 7, 8, 9, 10, 13, 16, 17, 18, 21, 22, 25, 26] : List Nat).all (fun pc => match xo_61 pc with | none => true | some r => decide (decode cX5_isWithoutPermit pc = .ok r)) = true := by decide +kernel
set_option maxRecDepth 100000 in
theorem xo_61_no : (List.range 27).all (fun pc => (xo_61 pc).isNone || (([0, 1, 4, 7, 8, 9, 10, 13, 16, 17, 18, 21, 22, 25, 26] : List Nat).contains pc)) = true := by decide +kernel
theorem xo_61_top (pc : Nat) (h : 27 ≤ pc) : xo_61 pc = none := if_pos h
theorem xo_61_ok (pc : Nat) (r : Instr × Nat) (h : xo_61 pc = some r) : decode cX5_isWithoutPermit pc = .ok r := by
  rcases Nat.lt_or_ge pc 27 with hl | hl
  · have h1 := List.all_eq_true.mp xo_61_no pc (List.mem_range.mpr hl)
    rw [h] at h1
    simp only [Option.isNone_some, Bool.false_or, Bool.or_eq_true, List.contains_iff_mem, or_assoc] at h1
    rcases h1 with h1
    · have h2 := List.all_eq_true.mp xo_61_c0 pc h1
      rw [h] at h2
      exact of_decide_eq_true h2
  · rw [show xo_61 pc = none from if_pos hl] at h; cases h
/-- X5_looksAbandoned -/
def xo_62 (pc : Nat) : Option (Instr × Nat) := if 37 ≤ pc then none else if pc < 18 then (if pc < 11 then (if pc < 4 then (if pc < 1 then (if pc = 0 then some (.aload_n 0, 1) else none) else (if pc = 1 then some (.getfield 53, 3) else none)) else (if pc < 5 then (if pc = 4 then some (.aload_n 0, 1) else none) else (if pc < 8 then (if pc = 5 then some (.getfield 36, 3) else none) else (if pc = 8 then some (.getfield 130, 3) else none)))) else (if pc < 13 then (if pc < 12 then (if pc = 11 then some (.iload_n 1, 1) else none) else (if pc = 12 then some (.iaload, 1) else none)) else (if pc < 14 then (if pc = 13 then some (.isub, 1) else none) else (if pc < 15 then (if pc = 14 then some (.aload_n 0, 1) else none) else (if pc = 15 then some (.getfield 18, 3) else none))))) else (if pc < 25 then (if pc < 20 then (if pc < 19 then (if pc = 18 then some (.iconst 1, 1) else none) else (if pc = 19 then some (.iaload, 1) else none)) else (if pc < 23 then (if pc = 20 then some (.if_icmp .ge 11, 3) else none) else (if pc < 24 then (if pc = 23 then some (.aload_n 0, 1) else none) else (if pc = 24 then some (.iload_n 1, 1) else none)))) else (if pc < 32 then (if pc < 28 then (if pc = 25 then some (.invokevirtual 187, 3) else none) else (if pc < 31 then (if pc = 28 then some (.ifCond .eq 7, 3) else none) else (if pc = 31 then some (.iconst 1, 1) else none))) else (if pc < 35 then (if pc = 32 then some (.goto 4, 3) else none) else (if pc < 36 then (if pc = 35 then some (.iconst 0, 1) else none) else (if pc = 36 then some (.ireturn, 1) else none)))))
set_option maxRecDepth 100000 in
theorem xo_62_c0 : ([0, 1, 4, 5, 8, 11, 12, 13, 14, 15, 18, 19, 20, 23, 24, 25, 28, 31, 32, 35, 36] : List Nat).all (fun pc => match xo_62 pc with | none => true | some r => decide (decode cX5_looksAbandoned pc = .ok r)) = true := by decide +kernel
set_option maxRecDepth 100000 in
theorem xo_62_no : (List.range 37).all (fun pc => (xo_62 pc).isNone || (([0, 1, 4, 5, 8, 11, 12, 13, 14, 15, 18, 19, 20, 23, 24, 25, 28, 31, 32, 35, 36] : List Nat).contains pc)) = true := by decide +kernel
theorem xo_62_top (pc : Nat) (h : 37 ≤ pc) : xo_62 pc = none := if_pos h
theorem xo_62_ok (pc : Nat) (r : Instr × Nat) (h : xo_62 pc = some r) : decode cX5_looksAbandoned pc = .ok r := by
  rcases Nat.lt_or_ge pc 37 with hl | hl
  · have h1 := List.all_eq_true.mp xo_62_no pc (List.mem_range.mpr hl)
    rw [h] at h1
    simp only [Option.isNone_some, Bool.false_or, Bool.or_eq_true, List.contains_iff_mem, or_assoc] at h1
    rcases h1 with h1
    · have h2 := List.all_eq_true.mp xo_62_c0 pc h1
      rw [h] at h2
      exact of_decide_eq_true h2
  · rw [show xo_62 pc = none from if_pos hl] at h; cases h
/-- X5_latestDueTag -/
def xo_63 (pc : Nat) : Option (Instr × Nat) := if 14 ≤ pc then none else if pc < 7 then (if pc < 4 then (if pc < 1 then (if pc = 0 then some (.aload_n 0, 1) else none) else (if pc = 1 then some (.getfield 53, 3) else none)) else (if pc < 5 then (if pc = 4 then some (.iload_n 1, 1) else none) else (if pc < 6 then (if pc = 5 then some (.iadd, 1) else none) else (if pc = 6 then some (.aload_n 0, 1) else none)))) else (if pc < 11 then (if pc < 10 then (if pc = 7 then some (.getfield 18, 3) else none) else (if pc = 10 then some (.iconst 2, 1) else none)) else (if pc < 12 then (if pc = 11 then some (.iaload, 1) else none) else (if pc < 13 then (if pc = 12 then some (.isub, 1) else none) else (if pc = 13 then some (.ireturn, 1) else none))))
set_option maxRecDepth 100000 in
theorem xo_63_c0 : ([0, 1, 4, 5, 6, 7, 10, 11, 12, 13] : List Nat).all (fun pc => match xo_63 pc with | none => true | some r => decide (decode cX5_latestDueTag pc = .ok r)) = true := by decide +kernel
set_option maxRecDepth 100000 in
theorem xo_63_no : (List.range 14).all (fun pc => (xo_63 pc).isNone || (([0, 1, 4, 5, 6, 7, 10, 11, 12, 13] : List Nat).contains pc)) = true := by decide +kernel
theorem xo_63_top (pc : Nat) (h : 14 ≤ pc) : xo_63 pc = none := if_pos h
theorem xo_63_ok (pc : Nat) (r : Instr × Nat) (h : xo_63 pc = some r) : decode cX5_latestDueTag pc = .ok r := by
  rcases Nat.lt_or_ge pc 14 with hl | hl
  · have h1 := List.all_eq_true.mp xo_63_no pc (List.mem_range.mpr hl)
    rw [h] at h1
    simp only [Option.isNone_some, Bool.false_or, Bool.or_eq_true, List.contains_iff_mem, or_assoc] at h1
    rcases h1 with h1
    · have h2 := List.all_eq_true.mp xo_63_c0 pc h1
      rw [h] at h2
      exact of_decide_eq_true h2
  · rw [show xo_63 pc = none from if_pos hl] at h; cases h
/-- X5_sweepShed -/
def xo_64 (pc : Nat) : Option (Instr × Nat) := if 86 ≤ pc then none else if pc < 41 then (if pc < 18 then (if pc < 9 then (if pc < 4 then (if pc < 1 then (if pc = 0 then some (.iload_n 1, 1) else none) else (if pc = 1 then some (.invokestatic 74, 3) else none)) else (if pc < 7 then (if pc = 4 then some (.ifCond .ne 5, 3) else none) else (if pc < 8 then (if pc = 7 then some (.iconst (-1), 1) else none) else (if pc = 8 then some (.ireturn, 1) else none)))) else (if pc < 12 then (if pc < 10 then (if pc = 9 then some (.iconst 0, 1) else none) else (if pc < 11 then (if pc = 10 then some (.istore_n 2, 1) else none) else (if pc = 11 then some (.iload_n 2, 1) else none))) else (if pc < 14 then (if pc = 12 then some (.bipush 20, 2) else none) else (if pc < 17 then (if pc = 14 then some (.if_icmp .ge 54, 3) else none) else (if pc = 17 then some (.aload_n 0, 1) else none))))) else (if pc < 27 then (if pc < 24 then (if pc < 21 then (if pc = 18 then some (.getfield 36, 3) else none) else (if pc = 21 then some (.getfield 145, 3) else none)) else (if pc < 25 then (if pc = 24 then some (.iload_n 2, 1) else none) else (if pc < 26 then (if pc = 25 then some (.iaload, 1) else none) else (if pc = 26 then some (.iload_n 1, 1) else none)))) else (if pc < 34 then (if pc < 30 then (if pc = 27 then some (.if_icmp .ne 35, 3) else none) else (if pc < 31 then (if pc = 30 then some (.aload_n 0, 1) else none) else (if pc = 31 then some (.getfield 36, 3) else none))) else (if pc < 35 then (if pc = 34 then some (.iload_n 2, 1) else none) else (if pc < 38 then (if pc = 35 then some (.invokevirtual 136, 3) else none) else (if pc = 38 then some (.ifCond .ne 24, 3) else none)))))) else (if pc < 62 then (if pc < 50 then (if pc < 43 then (if pc < 42 then (if pc = 41 then some (.aload_n 0, 1) else none) else (if pc = 42 then some (.iload_n 2, 1) else none)) else (if pc < 46 then (if pc = 43 then some (.invokevirtual 146, 3) else none) else (if pc < 49 then (if pc = 46 then some (.ifCond .eq 16, 3) else none) else (if pc = 49 then some (.aload_n 0, 1) else none)))) else (if pc < 57 then (if pc < 53 then (if pc = 50 then some (.getfield 36, 3) else none) else (if pc < 56 then (if pc = 53 then some (.getfield 139, 3) else none) else (if pc = 56 then some (.iload_n 2, 1) else none))) else (if pc < 58 then (if pc = 57 then some (.aload_n 0, 1) else none) else (if pc < 61 then (if pc = 58 then some (.getfield 53, 3) else none) else (if pc = 61 then some (.iastore, 1) else none))))) else (if pc < 74 then (if pc < 69 then (if pc < 65 then (if pc = 62 then some (.iinc 2 1, 3) else none) else (if pc < 68 then (if pc = 65 then some (.goto (-54), 3) else none) else (if pc = 68 then some (.aload_n 0, 1) else none))) else (if pc < 72 then (if pc = 69 then some (.getfield 36, 3) else none) else (if pc < 73 then (if pc = 72 then some (.iload_n 1, 1) else none) else (if pc = 73 then some (.aload_n 0, 1) else none)))) else (if pc < 79 then (if pc < 75 then (if pc = 74 then some (.iconst 0, 1) else none) else (if pc < 78 then (if pc = 75 then some (.invokevirtual 149, 3) else none) else (if pc = 78 then some (.aload_n 0, 1) else none))) else (if pc < 82 then (if pc = 79 then some (.getfield 53, 3) else none) else (if pc < 85 then (if pc = 82 then some (.invokevirtual 152, 3) else none) else (if pc = 85 then some (.ireturn, 1) else none))))))
set_option maxRecDepth 100000 in
theorem xo_64_c0 : ([0, 1, 4, 7, 8, 9, 10, 11, 12, 14, 17, 18, 21, 24, 25, 26, 27, 30, 31, 34, 35, 38, 41, 42, 43, 46, 49, 50, 53, 56, 57, 58, 61, 62, 65, 68, 69, 72, 73, 74, 75, 78, 79, 82, 85] : List Nat).all (fun pc => match xo_64 pc with | none => true | some r => decide (decode cX5_sweepShed pc = .ok r)) = true := by decide +kernel
set_option maxRecDepth 100000 in
theorem xo_64_no : (List.range 86).all (fun pc => (xo_64 pc).isNone || (([0, 1, 4, 7, 8, 9, 10, 11, 12, 14, 17, 18, 21, 24, 25, 26, 27, 30, 31, 34, 35, 38, 41, 42, 43, 46, 49, 50, 53, 56, 57, 58, 61, 62, 65, 68, 69, 72, 73, 74, 75, 78, 79, 82, 85] : List Nat).contains pc)) = true := by decide +kernel
theorem xo_64_top (pc : Nat) (h : 86 ≤ pc) : xo_64 pc = none := if_pos h
theorem xo_64_ok (pc : Nat) (r : Instr × Nat) (h : xo_64 pc = some r) : decode cX5_sweepShed pc = .ok r := by
  rcases Nat.lt_or_ge pc 86 with hl | hl
  · have h1 := List.all_eq_true.mp xo_64_no pc (List.mem_range.mpr hl)
    rw [h] at h1
    simp only [Option.isNone_some, Bool.false_or, Bool.or_eq_true, List.contains_iff_mem, or_assoc] at h1
    rcases h1 with h1
    · have h2 := List.all_eq_true.mp xo_64_c0 pc h1
      rw [h] at h2
      exact of_decide_eq_true h2
  · rw [show xo_64 pc = none from if_pos hl] at h; cases h
/-- X6_isRack -/
def xo_65 (pc : Nat) : Option (Instr × Nat) := if 17 ≤ pc then none else if pc < 8 then (if pc < 2 then (if pc < 1 then (if pc = 0 then some (.iconst 0, 1) else none) else (if pc = 1 then some (.iload_n 0, 1) else none)) else (if pc < 5 then (if pc = 2 then some (.if_icmp .gt 13, 3) else none) else (if pc < 6 then (if pc = 5 then some (.iload_n 0, 1) else none) else (if pc = 6 then some (.bipush 8, 2) else none)))) else (if pc < 12 then (if pc < 11 then (if pc = 8 then some (.if_icmp .ge 7, 3) else none) else (if pc = 11 then some (.iconst 1, 1) else none)) else (if pc < 15 then (if pc = 12 then some (.goto 4, 3) else none) else (if pc < 16 then (if pc = 15 then some (.iconst 0, 1) else none) else (if pc = 16 then some (.ireturn, 1) else none))))
set_option maxRecDepth 100000 in
theorem xo_65_c0 : ([0, 1, 2, 5, 6, 8, 11, 12, 15, 16] : List Nat).all (fun pc => match xo_65 pc with | none => true | some r => decide (decode cX6_isRack pc = .ok r)) = true := by decide +kernel
set_option maxRecDepth 100000 in
theorem xo_65_no : (List.range 17).all (fun pc => (xo_65 pc).isNone || (([0, 1, 2, 5, 6, 8, 11, 12, 15, 16] : List Nat).contains pc)) = true := by decide +kernel
theorem xo_65_top (pc : Nat) (h : 17 ≤ pc) : xo_65 pc = none := if_pos h
theorem xo_65_ok (pc : Nat) (r : Instr × Nat) (h : xo_65 pc = some r) : decode cX6_isRack pc = .ok r := by
  rcases Nat.lt_or_ge pc 17 with hl | hl
  · have h1 := List.all_eq_true.mp xo_65_no pc (List.mem_range.mpr hl)
    rw [h] at h1
    simp only [Option.isNone_some, Bool.false_or, Bool.or_eq_true, List.contains_iff_mem, or_assoc] at h1
    rcases h1 with h1
    · have h2 := List.all_eq_true.mp xo_65_c0 pc h1
      rw [h] at h2
      exact of_decide_eq_true h2
  · rw [show xo_65 pc = none from if_pos hl] at h; cases h
/-- X5_changeUse -/
def xo_66 (pc : Nat) : Option (Instr × Nat) := if 72 ≤ pc then none else if pc < 37 then (if pc < 21 then (if pc < 11 then (if pc < 4 then (if pc < 1 then (if pc = 0 then some (.iload_n 1, 1) else none) else (if pc = 1 then some (.invokestatic 74, 3) else none)) else (if pc < 7 then (if pc = 4 then some (.ifCond .eq 10, 3) else none) else (if pc < 8 then (if pc = 7 then some (.iload_n 2, 1) else none) else (if pc = 8 then some (.invokestatic 156, 3) else none)))) else (if pc < 16 then (if pc < 14 then (if pc = 11 then some (.ifCond .ne 5, 3) else none) else (if pc < 15 then (if pc = 14 then some (.iconst (-1), 1) else none) else (if pc = 15 then some (.ireturn, 1) else none))) else (if pc < 17 then (if pc = 16 then some (.aload_n 0, 1) else none) else (if pc < 20 then (if pc = 17 then some (.getfield 23, 3) else none) else (if pc = 20 then some (.iload_n 1, 1) else none))))) else (if pc < 26 then (if pc < 23 then (if pc < 22 then (if pc = 21 then some (.iaload, 1) else none) else (if pc = 22 then some (.iload_n 2, 1) else none)) else (if pc < 24 then (if pc = 23 then some (.ishr, 1) else none) else (if pc < 25 then (if pc = 24 then some (.iconst 1, 1) else none) else (if pc = 25 then some (.iand, 1) else none)))) else (if pc < 31 then (if pc < 27 then (if pc = 26 then some (.iconst 1, 1) else none) else (if pc < 30 then (if pc = 27 then some (.if_icmp .ne 7, 3) else none) else (if pc = 30 then some (.iconst 1, 1) else none))) else (if pc < 34 then (if pc = 31 then some (.goto 4, 3) else none) else (if pc < 35 then (if pc = 34 then some (.iconst 0, 1) else none) else (if pc = 35 then some (.istore 4, 2) else none)))))) else (if pc < 54 then (if pc < 46 then (if pc < 40 then (if pc < 39 then (if pc = 37 then some (.iload 4, 2) else none) else (if pc = 39 then some (.iload_n 3, 1) else none)) else (if pc < 43 then (if pc = 40 then some (.if_icmp .ne 6, 3) else none) else (if pc < 45 then (if pc = 43 then some (.bipush (-5), 2) else none) else (if pc = 45 then some (.ireturn, 1) else none)))) else (if pc < 51 then (if pc < 47 then (if pc = 46 then some (.aload_n 0, 1) else none) else (if pc < 50 then (if pc = 47 then some (.getfield 23, 3) else none) else (if pc = 50 then some (.iload_n 1, 1) else none))) else (if pc < 52 then (if pc = 51 then some (.dup2, 1) else none) else (if pc < 53 then (if pc = 52 then some (.iaload, 1) else none) else (if pc = 53 then some (.iconst 1, 1) else none))))) else (if pc < 62 then (if pc < 57 then (if pc < 55 then (if pc = 54 then some (.iload_n 2, 1) else none) else (if pc < 56 then (if pc = 55 then some (.ishl, 1) else none) else (if pc = 56 then some (.ixor, 1) else none))) else (if pc < 58 then (if pc = 57 then some (.iastore, 1) else none) else (if pc < 59 then (if pc = 58 then some (.aload_n 0, 1) else none) else (if pc = 59 then some (.invokevirtual 67, 3) else none)))) else (if pc < 67 then (if pc < 63 then (if pc = 62 then some (.aload_n 0, 1) else none) else (if pc < 66 then (if pc = 63 then some (.getfield 23, 3) else none) else (if pc = 66 then some (.iload_n 1, 1) else none))) else (if pc < 68 then (if pc = 67 then some (.iaload, 1) else none) else (if pc < 71 then (if pc = 68 then some (.invokestatic 159, 3) else none) else (if pc = 71 then some (.ireturn, 1) else none))))))
set_option maxRecDepth 100000 in
theorem xo_66_c0 : ([0, 1, 4, 7, 8, 11, 14, 15, 16, 17, 20, 21, 22, 23, 24, 25, 26, 27, 30, 31, 34, 35, 37, 39, 40, 43, 45, 46, 47, 50, 51, 52, 53, 54, 55, 56, 57, 58, 59, 62, 63, 66, 67, 68, 71] : List Nat).all (fun pc => match xo_66 pc with | none => true | some r => decide (decode cX5_changeUse pc = .ok r)) = true := by decide +kernel
set_option maxRecDepth 100000 in
theorem xo_66_no : (List.range 72).all (fun pc => (xo_66 pc).isNone || (([0, 1, 4, 7, 8, 11, 14, 15, 16, 17, 20, 21, 22, 23, 24, 25, 26, 27, 30, 31, 34, 35, 37, 39, 40, 43, 45, 46, 47, 50, 51, 52, 53, 54, 55, 56, 57, 58, 59, 62, 63, 66, 67, 68, 71] : List Nat).contains pc)) = true := by decide +kernel
theorem xo_66_top (pc : Nat) (h : 72 ≤ pc) : xo_66 pc = none := if_pos h
theorem xo_66_ok (pc : Nat) (r : Instr × Nat) (h : xo_66 pc = some r) : decode cX5_changeUse pc = .ok r := by
  rcases Nat.lt_or_ge pc 72 with hl | hl
  · have h1 := List.all_eq_true.mp xo_66_no pc (List.mem_range.mpr hl)
    rw [h] at h1
    simp only [Option.isNone_some, Bool.false_or, Bool.or_eq_true, List.contains_iff_mem, or_assoc] at h1
    rcases h1 with h1
    · have h2 := List.all_eq_true.mp xo_66_c0 pc h1
      rw [h] at h2
      exact of_decide_eq_true h2
  · rw [show xo_66 pc = none from if_pos hl] at h; cases h
/-- X5_beginDay -/
def xo_67 (pc : Nat) : Option (Instr × Nat) := if 44 ≤ pc then none else if pc < 22 then (if pc < 10 then (if pc < 5 then (if pc < 1 then (if pc = 0 then some (.aload_n 0, 1) else none) else (if pc < 2 then (if pc = 1 then some (.dup, 1) else none) else (if pc = 2 then some (.getfield 53, 3) else none))) else (if pc < 6 then (if pc = 5 then some (.iconst 1, 1) else none) else (if pc < 7 then (if pc = 6 then some (.iadd, 1) else none) else (if pc = 7 then some (.putfield 53, 3) else none)))) else (if pc < 15 then (if pc < 11 then (if pc = 10 then some (.aload_n 0, 1) else none) else (if pc < 14 then (if pc = 11 then some (.getfield 29, 3) else none) else (if pc = 14 then some (.aload_n 0, 1) else none))) else (if pc < 18 then (if pc = 15 then some (.getfield 53, 3) else none) else (if pc < 21 then (if pc = 18 then some (.invokevirtual 170, 3) else none) else (if pc = 21 then some (.aload_n 0, 1) else none))))) else (if pc < 34 then (if pc < 29 then (if pc < 25 then (if pc = 22 then some (.getfield 36, 3) else none) else (if pc < 26 then (if pc = 25 then some (.aload_n 0, 1) else none) else (if pc = 26 then some (.getfield 53, 3) else none))) else (if pc < 30 then (if pc = 29 then some (.aload_n 0, 1) else none) else (if pc < 33 then (if pc = 30 then some (.getfield 18, 3) else none) else (if pc = 33 then some (.iconst 3, 1) else none)))) else (if pc < 39 then (if pc < 35 then (if pc = 34 then some (.iaload, 1) else none) else (if pc < 36 then (if pc = 35 then some (.isub, 1) else none) else (if pc = 36 then some (.invokevirtual 173, 3) else none))) else (if pc < 40 then (if pc = 39 then some (.aload_n 0, 1) else none) else (if pc < 43 then (if pc = 40 then some (.invokevirtual 67, 3) else none) else (if pc = 43 then some (.return_, 1) else none)))))
set_option maxRecDepth 100000 in
theorem xo_67_c0 : ([0, 1, 2, 5, 6, 7, 10, 11, 14, 15, 18, 21, 22, 25, 26, 29, 30, 33, 34, 35, 36, 39, 40, 43] : List Nat).all (fun pc => match xo_67 pc with | none => true | some r => decide (decode cX5_beginDay pc = .ok r)) = true := by decide +kernel
set_option maxRecDepth 100000 in
theorem xo_67_no : (List.range 44).all (fun pc => (xo_67 pc).isNone || (([0, 1, 2, 5, 6, 7, 10, 11, 14, 15, 18, 21, 22, 25, 26, 29, 30, 33, 34, 35, 36, 39, 40, 43] : List Nat).contains pc)) = true := by decide +kernel
theorem xo_67_top (pc : Nat) (h : 44 ≤ pc) : xo_67 pc = none := if_pos h
theorem xo_67_ok (pc : Nat) (r : Instr × Nat) (h : xo_67 pc = some r) : decode cX5_beginDay pc = .ok r := by
  rcases Nat.lt_or_ge pc 44 with hl | hl
  · have h1 := List.all_eq_true.mp xo_67_no pc (List.mem_range.mpr hl)
    rw [h] at h1
    simp only [Option.isNone_some, Bool.false_or, Bool.or_eq_true, List.contains_iff_mem, or_assoc] at h1
    rcases h1 with h1
    · have h2 := List.all_eq_true.mp xo_67_c0 pc h1
      rw [h] at h2
      exact of_decide_eq_true h2
  · rw [show xo_67 pc = none from if_pos hl] at h; cases h
/-- X5_letPass -/
def xo_68 (pc : Nat) : Option (Instr × Nat) := if 63 ≤ pc then none else if pc < 32 then (if pc < 14 then (if pc < 7 then (if pc < 2 then (if pc < 1 then (if pc = 0 then some (.iconst 1, 1) else none) else (if pc = 1 then some (.iload_n 1, 1) else none)) else (if pc < 4 then (if pc = 2 then some (.bipush 99, 2) else none) else (if pc = 4 then some (.invokestatic 57, 3) else none))) else (if pc < 12 then (if pc < 10 then (if pc = 7 then some (.ifCond .ne 6, 3) else none) else (if pc = 10 then some (.bipush (-2), 2) else none)) else (if pc < 13 then (if pc = 12 then some (.ireturn, 1) else none) else (if pc = 13 then some (.aload_n 0, 1) else none)))) else (if pc < 22 then (if pc < 18 then (if pc < 17 then (if pc = 14 then some (.getfield 53, 3) else none) else (if pc = 17 then some (.iload_n 1, 1) else none)) else (if pc < 19 then (if pc = 18 then some (.iadd, 1) else none) else (if pc = 19 then some (.sipush 9999, 3) else none))) else (if pc < 27 then (if pc < 25 then (if pc = 22 then some (.if_icmp .le 6, 3) else none) else (if pc = 25 then some (.bipush (-4), 2) else none)) else (if pc < 28 then (if pc = 27 then some (.ireturn, 1) else none) else (if pc < 29 then (if pc = 28 then some (.aload_n 0, 1) else none) else (if pc = 29 then some (.getfield 29, 3) else none)))))) else (if pc < 44 then (if pc < 38 then (if pc < 36 then (if pc < 35 then (if pc = 32 then some (.getfield 164, 3) else none) else (if pc = 35 then some (.istore_n 2, 1) else none)) else (if pc < 37 then (if pc = 36 then some (.iconst 0, 1) else none) else (if pc = 37 then some (.istore_n 3, 1) else none))) else (if pc < 40 then (if pc < 39 then (if pc = 38 then some (.iload_n 3, 1) else none) else (if pc = 39 then some (.iload_n 1, 1) else none)) else (if pc < 43 then (if pc = 40 then some (.if_icmp .ge 13, 3) else none) else (if pc = 43 then some (.aload_n 0, 1) else none)))) else (if pc < 54 then (if pc < 50 then (if pc < 47 then (if pc = 44 then some (.invokevirtual 167, 3) else none) else (if pc = 47 then some (.iinc 3 1, 3) else none)) else (if pc < 53 then (if pc = 50 then some (.goto (-12), 3) else none) else (if pc = 53 then some (.aload_n 0, 1) else none))) else (if pc < 60 then (if pc < 57 then (if pc = 54 then some (.getfield 29, 3) else none) else (if pc = 57 then some (.getfield 164, 3) else none)) else (if pc < 61 then (if pc = 60 then some (.iload_n 2, 1) else none) else (if pc < 62 then (if pc = 61 then some (.isub, 1) else none) else (if pc = 62 then some (.ireturn, 1) else none))))))
set_option maxRecDepth 100000 in
theorem xo_68_c0 : ([0, 1, 2, 4, 7, 10, 12, 13, 14, 17, 18, 19, 22, 25, 27, 28, 29, 32, 35, 36, 37, 38, 39, 40, 43, 44, 47, 50, 53, 54, 57, 60, 61, 62] : List Nat).all (fun pc => match xo_68 pc with | none => true | some r => decide (decode cX5_letPass pc = .ok r)) = true := by decide +kernel
set_option maxRecDepth 100000 in
theorem xo_68_no : (List.range 63).all (fun pc => (xo_68 pc).isNone || (([0, 1, 2, 4, 7, 10, 12, 13, 14, 17, 18, 19, 22, 25, 27, 28, 29, 32, 35, 36, 37, 38, 39, 40, 43, 44, 47, 50, 53, 54, 57, 60, 61, 62] : List Nat).contains pc)) = true := by decide +kernel
theorem xo_68_top (pc : Nat) (h : 63 ≤ pc) : xo_68 pc = none := if_pos h
theorem xo_68_ok (pc : Nat) (r : Instr × Nat) (h : xo_68 pc = some r) : decode cX5_letPass pc = .ok r := by
  rcases Nat.lt_or_ge pc 63 with hl | hl
  · have h1 := List.all_eq_true.mp xo_68_no pc (List.mem_range.mpr hl)
    rw [h] at h1
    simp only [Option.isNone_some, Bool.false_or, Bool.or_eq_true, List.contains_iff_mem, or_assoc] at h1
    rcases h1 with h1
    · have h2 := List.all_eq_true.mp xo_68_c0 pc h1
      rw [h] at h2
      exact of_decide_eq_true h2
  · rw [show xo_68 pc = none from if_pos hl] at h; cases h
/-- X5_passUntilPermit -/
def xo_69 (pc : Nat) : Option (Instr × Nat) := if 35 ≤ pc then none else if pc < 17 then (if pc < 6 then (if pc < 2 then (if pc < 1 then (if pc = 0 then some (.iconst 1, 1) else none) else (if pc = 1 then some (.istore_n 2, 1) else none)) else (if pc < 3 then (if pc = 2 then some (.iload_n 2, 1) else none) else (if pc = 3 then some (.sipush 300, 3) else none))) else (if pc < 10 then (if pc < 9 then (if pc = 6 then some (.if_icmp .gt 26, 3) else none) else (if pc = 9 then some (.aload_n 0, 1) else none)) else (if pc < 13 then (if pc = 10 then some (.invokevirtual 167, 3) else none) else (if pc < 14 then (if pc = 13 then some (.aload_n 0, 1) else none) else (if pc = 14 then some (.getfield 29, 3) else none))))) else (if pc < 25 then (if pc < 21 then (if pc < 18 then (if pc = 17 then some (.iload_n 1, 1) else none) else (if pc = 18 then some (.invokevirtual 77, 3) else none)) else (if pc < 24 then (if pc = 21 then some (.ifCond .eq 5, 3) else none) else (if pc = 24 then some (.iload_n 2, 1) else none))) else (if pc < 29 then (if pc < 26 then (if pc = 25 then some (.ireturn, 1) else none) else (if pc = 26 then some (.iinc 2 1, 3) else none)) else (if pc < 32 then (if pc = 29 then some (.goto (-27), 3) else none) else (if pc < 34 then (if pc = 32 then some (.bipush (-6), 2) else none) else (if pc = 34 then some (.ireturn, 1) else none)))))
set_option maxRecDepth 100000 in
theorem xo_69_c0 : ([0, 1, 2, 3, 6, 9, 10, 13, 14, 17, 18, 21, 24, 25, 26, 29, 32, 34] : List Nat).all (fun pc => match xo_69 pc with | none => true | some r => decide (decode cX5_passUntilPermit pc = .ok r)) = true := by decide +kernel
set_option maxRecDepth 100000 in
theorem xo_69_no : (List.range 35).all (fun pc => (xo_69 pc).isNone || (([0, 1, 2, 3, 6, 9, 10, 13, 14, 17, 18, 21, 24, 25, 26, 29, 32, 34] : List Nat).contains pc)) = true := by decide +kernel
theorem xo_69_top (pc : Nat) (h : 35 ≤ pc) : xo_69 pc = none := if_pos h
theorem xo_69_ok (pc : Nat) (r : Instr × Nat) (h : xo_69 pc = some r) : decode cX5_passUntilPermit pc = .ok r := by
  rcases Nat.lt_or_ge pc 35 with hl | hl
  · have h1 := List.all_eq_true.mp xo_69_no pc (List.mem_range.mpr hl)
    rw [h] at h1
    simp only [Option.isNone_some, Bool.false_or, Bool.or_eq_true, List.contains_iff_mem, or_assoc] at h1
    rcases h1 with h1
    · have h2 := List.all_eq_true.mp xo_69_c0 pc h1
      rw [h] at h2
      exact of_decide_eq_true h2
  · rw [show xo_69 pc = none from if_pos hl] at h; cases h
