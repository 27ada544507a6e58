/-- X0_racksTagged -/
def xo_14 (pc : Nat) : Option (Instr × Nat) := if 47 ≤ pc then none else if pc < 22 then (if pc < 10 then (if pc < 3 then (if pc < 1 then (if pc = 0 then some (.iconst 0, 1) else none) else (if pc < 2 then (if pc = 1 then some (.istore_n 2, 1) else none) else (if pc = 2 then some (.iconst 0, 1) else none))) else (if pc < 5 then (if pc < 4 then (if pc = 3 then some (.istore_n 3, 1) else none) else (if pc = 4 then some (.iload_n 3, 1) else none)) else (if pc < 7 then (if pc = 5 then some (.bipush 20, 2) else none) else (if pc = 7 then some (.if_icmp .ge 38, 3) else none)))) else (if pc < 16 then (if pc < 14 then (if pc < 11 then (if pc = 10 then some (.aload_n 0, 1) else none) else (if pc = 11 then some (.getfield 13, 3) else none)) else (if pc < 15 then (if pc = 14 then some (.iload_n 3, 1) else none) else (if pc = 15 then some (.iaload, 1) else none))) else (if pc < 20 then (if pc < 17 then (if pc = 16 then some (.iload_n 1, 1) else none) else (if pc = 17 then some (.if_icmp .ne 22, 3) else none)) else (if pc < 21 then (if pc = 20 then some (.aload_n 0, 1) else none) else (if pc = 21 then some (.iload_n 3, 1) else none))))) else (if pc < 35 then (if pc < 29 then (if pc < 25 then (if pc = 22 then some (.invokevirtual 44, 3) else none) else (if pc < 28 then (if pc = 25 then some (.ifCond .eq 14, 3) else none) else (if pc = 28 then some (.iload_n 2, 1) else none))) else (if pc < 31 then (if pc < 30 then (if pc = 29 then some (.iconst 1, 1) else none) else (if pc = 30 then some (.aload_n 0, 1) else none)) else (if pc < 34 then (if pc = 31 then some (.getfield 19, 3) else none) else (if pc = 34 then some (.iload_n 3, 1) else none)))) else (if pc < 39 then (if pc < 37 then (if pc < 36 then (if pc = 35 then some (.iaload, 1) else none) else (if pc = 36 then some (.ishl, 1) else none)) else (if pc < 38 then (if pc = 37 then some (.ior, 1) else none) else (if pc = 38 then some (.istore_n 2, 1) else none))) else (if pc < 45 then (if pc < 42 then (if pc = 39 then some (.iinc 3 1, 3) else none) else (if pc = 42 then some (.goto (-38), 3) else none)) else (if pc < 46 then (if pc = 45 then some (.iload_n 2, 1) else none) else (if pc = 46 then some (.ireturn, 1) else none)))))
set_option maxRecDepth 100000 in
theorem xo_14_c0 : ([0, 1, 2, 3, 4, 5, 7, 10, 11, 14, 15, 16, 17, 20, 21, 22, 25, 28, 29, 30, 31, 34, 35, 36, 37, 38, 39, 42, 45, 46] : List Nat).all (fun pc => match xo_14 pc with | none => true | some r => decide (decode cX0_racksTagged pc = .ok r)) = true := by decide +kernel
set_option maxRecDepth 100000 in
theorem xo_14_no : (List.range 47).all (fun pc => (xo_14 pc).isNone || (([0, 1, 2, 3, 4, 5, 7, 10, 11, 14, 15, 16, 17, 20, 21, 22, 25, 28, 29, 30, 31, 34, 35, 36, 37, 38, 39, 42, 45, 46] : List Nat).contains pc)) = true := by decide +kernel
theorem xo_14_top (pc : Nat) (h : 47 ≤ pc) : xo_14 pc = none := if_pos h
theorem xo_14_ok (pc : Nat) (r : Instr × Nat) (h : xo_14 pc = some r) : decode cX0_racksTagged pc = .ok r := by
  rcases Nat.lt_or_ge pc 47 with hl | hl
  · have h1 := List.all_eq_true.mp xo_14_no pc (List.mem_range.mpr hl)
    rw [h] at h1
    simp only [Option.isNone_some, Bool.false_or, Bool.or_eq_true, List.contains_iff_mem, or_assoc] at h1
    rcases h1 with h1
    · have h2 := List.all_eq_true.mp xo_14_c0 pc h1
      rw [h] at h2
      exact of_decide_eq_true h2
  · rw [show xo_14 pc = none from if_pos hl] at h; cases h
/-- X6_countPeople -/
def xo_15 (pc : Nat) : Option (Instr × Nat) := if 29 ≤ pc then none else if pc < 11 then (if pc < 4 then (if pc < 2 then (if pc < 1 then (if pc = 0 then some (.iconst 0, 1) else none) else (if pc = 1 then some (.istore_n 1, 1) else none)) else (if pc < 3 then (if pc = 2 then some (.iconst 0, 1) else none) else (if pc = 3 then some (.istore_n 2, 1) else none))) else (if pc < 6 then (if pc < 5 then (if pc = 4 then some (.iload_n 2, 1) else none) else (if pc = 5 then some (.aload_n 0, 1) else none)) else (if pc < 7 then (if pc = 6 then some (.arraylength, 1) else none) else (if pc < 10 then (if pc = 7 then some (.if_icmp .ge 20, 3) else none) else (if pc = 10 then some (.aload_n 0, 1) else none))))) else (if pc < 18 then (if pc < 13 then (if pc < 12 then (if pc = 11 then some (.iload_n 2, 1) else none) else (if pc = 12 then some (.iaload, 1) else none)) else (if pc < 15 then (if pc = 13 then some (.bipush (-6), 2) else none) else (if pc = 15 then some (.if_icmp .eq 6, 3) else none))) else (if pc < 24 then (if pc < 21 then (if pc = 18 then some (.iinc 1 1, 3) else none) else (if pc = 21 then some (.iinc 2 1, 3) else none)) else (if pc < 27 then (if pc = 24 then some (.goto (-20), 3) else none) else (if pc < 28 then (if pc = 27 then some (.iload_n 1, 1) else none) else (if pc = 28 then some (.ireturn, 1) else none)))))
set_option maxRecDepth 100000 in
theorem xo_15_c0 : ([0, 1, 2, 3, 4, 5, 6, 7, 10, 11, 12, 13, 15, 18, 21, 24, 27, 28] : List Nat).all (fun pc => match xo_15 pc with | none => true | some r => decide (decode cX6_countPeople pc = .ok r)) = true := by decide +kernel
set_option maxRecDepth 100000 in
theorem xo_15_no : (List.range 29).all (fun pc => (xo_15 pc).isNone || (([0, 1, 2, 3, 4, 5, 6, 7, 10, 11, 12, 13, 15, 18, 21, 24, 27, 28] : List Nat).contains pc)) = true := by decide +kernel
theorem xo_15_top (pc : Nat) (h : 29 ≤ pc) : xo_15 pc = none := if_pos h
theorem xo_15_ok (pc : Nat) (r : Instr × Nat) (h : xo_15 pc = some r) : decode cX6_countPeople pc = .ok r := by
  rcases Nat.lt_or_ge pc 29 with hl | hl
  · have h1 := List.all_eq_true.mp xo_15_no pc (List.mem_range.mpr hl)
    rw [h] at h1
    simp only [Option.isNone_some, Bool.false_or, Bool.or_eq_true, List.contains_iff_mem, or_assoc] at h1
    rcases h1 with h1
    · have h2 := List.all_eq_true.mp xo_15_c0 pc h1
      rw [h] at h2
      exact of_decide_eq_true h2
  · rw [show xo_15 pc = none from if_pos hl] at h; cases h
/-- X0_countInRacks -/
def xo_16 (pc : Nat) : Option (Instr × Nat) := if 8 ≤ pc then none else if pc < 4 then (if pc < 1 then (if pc = 0 then some (.aload_n 0, 1) else none) else (if pc = 1 then some (.getfield 13, 3) else none)) else (if pc < 7 then (if pc = 4 then some (.invokestatic 59, 3) else none) else (if pc = 7 then some (.ireturn, 1) else none))
set_option maxRecDepth 100000 in
theorem xo_16_c0 : ([0, 1, 4, 7] : List Nat).all (fun pc => match xo_16 pc with | none => true | some r => decide (decode cX0_countInRacks pc = .ok r)) = true := by decide +kernel
set_option maxRecDepth 100000 in
theorem xo_16_no : (List.range 8).all (fun pc => (xo_16 pc).isNone || (([0, 1, 4, 7] : List Nat).contains pc)) = true := by decide +kernel
theorem xo_16_top (pc : Nat) (h : 8 ≤ pc) : xo_16 pc = none := if_pos h
theorem xo_16_ok (pc : Nat) (r : Instr × Nat) (h : xo_16 pc = some r) : decode cX0_countInRacks pc = .ok r := by
  rcases Nat.lt_or_ge pc 8 with hl | hl
  · have h1 := List.all_eq_true.mp xo_16_no pc (List.mem_range.mpr hl)
    rw [h] at h1
    simp only [Option.isNone_some, Bool.false_or, Bool.or_eq_true, List.contains_iff_mem, or_assoc] at h1
    rcases h1 with h1
    · have h2 := List.all_eq_true.mp xo_16_c0 pc h1
      rw [h] at h2
      exact of_decide_eq_true h2
  · rw [show xo_16 pc = none from if_pos hl] at h; cases h
/-- X0_countAllTagged -/
def xo_17 (pc : Nat) : Option (Instr × Nat) := if 8 ≤ pc then none else if pc < 4 then (if pc < 1 then (if pc = 0 then some (.aload_n 0, 1) else none) else (if pc = 1 then some (.getfield 25, 3) else none)) else (if pc < 7 then (if pc = 4 then some (.invokestatic 59, 3) else none) else (if pc = 7 then some (.ireturn, 1) else none))
set_option maxRecDepth 100000 in
theorem xo_17_c0 : ([0, 1, 4, 7] : List Nat).all (fun pc => match xo_17 pc with | none => true | some r => decide (decode cX0_countAllTagged pc = .ok r)) = true := by decide +kernel
set_option maxRecDepth 100000 in
theorem xo_17_no : (List.range 8).all (fun pc => (xo_17 pc).isNone || (([0, 1, 4, 7] : List Nat).contains pc)) = true := by decide +kernel
theorem xo_17_top (pc : Nat) (h : 8 ≤ pc) : xo_17 pc = none := if_pos h
theorem xo_17_ok (pc : Nat) (r : Instr × Nat) (h : xo_17 pc = some r) : decode cX0_countAllTagged pc = .ok r := by
  rcases Nat.lt_or_ge pc 8 with hl | hl
  · have h1 := List.all_eq_true.mp xo_17_no pc (List.mem_range.mpr hl)
    rw [h] at h1
    simp only [Option.isNone_some, Bool.false_or, Bool.or_eq_true, List.contains_iff_mem, or_assoc] at h1
    rcases h1 with h1
    · have h2 := List.all_eq_true.mp xo_17_c0 pc h1
      rw [h] at h2
      exact of_decide_eq_true h2
  · rw [show xo_17 pc = none from if_pos hl] at h; cases h
/-- X0_countInPound -/
def xo_18 (pc : Nat) : Option (Instr × Nat) := if 8 ≤ pc then none else if pc < 4 then (if pc < 1 then (if pc = 0 then some (.aload_n 0, 1) else none) else (if pc = 1 then some (.getfield 28, 3) else none)) else (if pc < 7 then (if pc = 4 then some (.invokestatic 59, 3) else none) else (if pc = 7 then some (.ireturn, 1) else none))
set_option maxRecDepth 100000 in
theorem xo_18_c0 : ([0, 1, 4, 7] : List Nat).all (fun pc => match xo_18 pc with | none => true | some r => decide (decode cX0_countInPound pc = .ok r)) = true := by decide +kernel
set_option maxRecDepth 100000 in
theorem xo_18_no : (List.range 8).all (fun pc => (xo_18 pc).isNone || (([0, 1, 4, 7] : List Nat).contains pc)) = true := by decide +kernel
theorem xo_18_top (pc : Nat) (h : 8 ≤ pc) : xo_18 pc = none := if_pos h
theorem xo_18_ok (pc : Nat) (r : Instr × Nat) (h : xo_18 pc = some r) : decode cX0_countInPound pc = .ok r := by
  rcases Nat.lt_or_ge pc 8 with hl | hl
  · have h1 := List.all_eq_true.mp xo_18_no pc (List.mem_range.mpr hl)
    rw [h] at h1
    simp only [Option.isNone_some, Bool.false_or, Bool.or_eq_true, List.contains_iff_mem, or_assoc] at h1
    rcases h1 with h1
    · have h2 := List.all_eq_true.mp xo_18_c0 pc h1
      rw [h] at h2
      exact of_decide_eq_true h2
  · rw [show xo_18 pc = none from if_pos hl] at h; cases h
/-- X0_countSold -/
def xo_19 (pc : Nat) : Option (Instr × Nat) := if 27 ≤ pc then none else if pc < 12 then (if pc < 4 then (if pc < 2 then (if pc < 1 then (if pc = 0 then some (.iconst 0, 1) else none) else (if pc = 1 then some (.istore_n 1, 1) else none)) else (if pc < 3 then (if pc = 2 then some (.iconst 0, 1) else none) else (if pc = 3 then some (.istore_n 2, 1) else none))) else (if pc < 7 then (if pc < 5 then (if pc = 4 then some (.iload_n 2, 1) else none) else (if pc = 5 then some (.bipush 20, 2) else none)) else (if pc < 10 then (if pc = 7 then some (.if_icmp .ge 18, 3) else none) else (if pc < 11 then (if pc = 10 then some (.iload_n 1, 1) else none) else (if pc = 11 then some (.aload_n 0, 1) else none))))) else (if pc < 18 then (if pc < 16 then (if pc < 15 then (if pc = 12 then some (.getfield 31, 3) else none) else (if pc = 15 then some (.iload_n 2, 1) else none)) else (if pc < 17 then (if pc = 16 then some (.iaload, 1) else none) else (if pc = 17 then some (.iadd, 1) else none))) else (if pc < 22 then (if pc < 19 then (if pc = 18 then some (.istore_n 1, 1) else none) else (if pc = 19 then some (.iinc 2 1, 3) else none)) else (if pc < 25 then (if pc = 22 then some (.goto (-18), 3) else none) else (if pc < 26 then (if pc = 25 then some (.iload_n 1, 1) else none) else (if pc = 26 then some (.ireturn, 1) else none)))))
set_option maxRecDepth 100000 in
theorem xo_19_c0 : ([0, 1, 2, 3, 4, 5, 7, 10, 11, 12, 15, 16, 17, 18, 19, 22, 25, 26] : List Nat).all (fun pc => match xo_19 pc with | none => true | some r => decide (decode cX0_countSold pc = .ok r)) = true := by decide +kernel
set_option maxRecDepth 100000 in
theorem xo_19_no : (List.range 27).all (fun pc => (xo_19 pc).isNone || (([0, 1, 2, 3, 4, 5, 7, 10, 11, 12, 15, 16, 17, 18, 19, 22, 25, 26] : List Nat).contains pc)) = true := by decide +kernel
theorem xo_19_top (pc : Nat) (h : 27 ≤ pc) : xo_19 pc = none := if_pos h
theorem xo_19_ok (pc : Nat) (r : Instr × Nat) (h : xo_19 pc = some r) : decode cX0_countSold pc = .ok r := by
  rcases Nat.lt_or_ge pc 27 with hl | hl
  · have h1 := List.all_eq_true.mp xo_19_no pc (List.mem_range.mpr hl)
    rw [h] at h1
    simp only [Option.isNone_some, Bool.false_or, Bool.or_eq_true, List.contains_iff_mem, or_assoc] at h1
    rcases h1 with h1
    · have h2 := List.all_eq_true.mp xo_19_c0 pc h1
      rw [h] at h2
      exact of_decide_eq_true h2
  · rw [show xo_19 pc = none from if_pos hl] at h; cases h
/-- X3_init -/
def xo_20 (pc : Nat) : Option (Instr × Nat) := if 13 ≤ pc then none else if pc < 5 then (if pc < 1 then (if pc = 0 then some (.aload_n 0, 1) else none) else (if pc < 4 then (if pc = 1 then some (.invokespecial 3, 3) else none) else (if pc = 4 then some (.aload_n 0, 1) else none))) else (if pc < 9 then (if pc < 7 then (if pc = 5 then some (.bipush 60, 2) else none) else (if pc = 7 then some (.newarray .char, 2) else none)) else (if pc < 12 then (if pc = 9 then some (.putfield 9, 3) else none) else (if pc = 12 then some (.return_, 1) else none)))
set_option maxRecDepth 100000 in
theorem xo_20_c0 : ([0, 1, 4, 5, 7, 9, 12] : List Nat).all (fun pc => match xo_20 pc with | none => true | some r => decide (decode cX3_init pc = .ok r)) = true := by decide +kernel
set_option maxRecDepth 100000 in
theorem xo_20_no : (List.range 13).all (fun pc => (xo_20 pc).isNone || (([0, 1, 4, 5, 7, 9, 12] : List Nat).contains pc)) = true := by decide +kernel
theorem xo_20_top (pc : Nat) (h : 13 ≤ pc) : xo_20 pc = none := if_pos h
theorem xo_20_ok (pc : Nat) (r : Instr × Nat) (h : xo_20 pc = some r) : decode cX3_init pc = .ok r := by
  rcases Nat.lt_or_ge pc 13 with hl | hl
  · have h1 := List.all_eq_true.mp xo_20_no pc (List.mem_range.mpr hl)
    rw [h] at h1
    simp only [Option.isNone_some, Bool.false_or, Bool.or_eq_true, List.contains_iff_mem, or_assoc] at h1
    rcases h1 with h1
    · have h2 := List.all_eq_true.mp xo_20_c0 pc h1
      rw [h] at h2
      exact of_decide_eq_true h2
  · rw [show xo_20 pc = none from if_pos hl] at h; cases h
/-- X1_init -/
def xo_21 (pc : Nat) : Option (Instr × Nat) := if 16 ≤ pc then none else if pc < 8 then (if pc < 4 then (if pc < 1 then (if pc = 0 then some (.aload_n 0, 1) else none) else (if pc = 1 then some (.invokespecial 3, 3) else none)) else (if pc < 5 then (if pc = 4 then some (.aload_n 0, 1) else none) else (if pc = 5 then some (.new 9, 3) else none))) else (if pc < 12 then (if pc < 9 then (if pc = 8 then some (.dup, 1) else none) else (if pc = 9 then some (.invokespecial 11, 3) else none)) else (if pc < 15 then (if pc = 12 then some (.putfield 12, 3) else none) else (if pc = 15 then some (.return_, 1) else none)))
set_option maxRecDepth 100000 in
theorem xo_21_c0 : ([0, 1, 4, 5, 8, 9, 12, 15] : List Nat).all (fun pc => match xo_21 pc with | none => true | some r => decide (decode cX1_init pc = .ok r)) = true := by decide +kernel
set_option maxRecDepth 100000 in
theorem xo_21_no : (List.range 16).all (fun pc => (xo_21 pc).isNone || (([0, 1, 4, 5, 8, 9, 12, 15] : List Nat).contains pc)) = true := by decide +kernel
theorem xo_21_top (pc : Nat) (h : 16 ≤ pc) : xo_21 pc = none := if_pos h
theorem xo_21_ok (pc : Nat) (r : Instr × Nat) (h : xo_21 pc = some r) : decode cX1_init pc = .ok r := by
  rcases Nat.lt_or_ge pc 16 with hl | hl
  · have h1 := List.all_eq_true.mp xo_21_no pc (List.mem_range.mpr hl)
    rw [h] at h1
    simp only [Option.isNone_some, Bool.false_or, Bool.or_eq_true, List.contains_iff_mem, or_assoc] at h1
    rcases h1 with h1
    · have h2 := List.all_eq_true.mp xo_21_c0 pc h1
      rw [h] at h2
      exact of_decide_eq_true h2
  · rw [show xo_21 pc = none from if_pos hl] at h; cases h
/-- X2_init -/
def xo_22 (pc : Nat) : Option (Instr × Nat) := if 14 ≤ pc then none else if pc < 5 then (if pc < 1 then (if pc = 0 then some (.aload_n 0, 1) else none) else (if pc < 4 then (if pc = 1 then some (.invokespecial 3, 3) else none) else (if pc = 4 then some (.aload_n 0, 1) else none))) else (if pc < 10 then (if pc < 7 then (if pc = 5 then some (.bipush 6, 2) else none) else (if pc = 7 then some (.anewarray 9, 3) else none)) else (if pc < 13 then (if pc = 10 then some (.putfield 11, 3) else none) else (if pc = 13 then some (.return_, 1) else none)))
set_option maxRecDepth 100000 in
theorem xo_22_c0 : ([0, 1, 4, 5, 7, 10, 13] : List Nat).all (fun pc => match xo_22 pc with | none => true | some r => decide (decode cX2_init pc = .ok r)) = true := by decide +kernel
set_option maxRecDepth 100000 in
theorem xo_22_no : (List.range 14).all (fun pc => (xo_22 pc).isNone || (([0, 1, 4, 5, 7, 10, 13] : List Nat).contains pc)) = true := by decide +kernel
theorem xo_22_top (pc : Nat) (h : 14 ≤ pc) : xo_22 pc = none := if_pos h
theorem xo_22_ok (pc : Nat) (r : Instr × Nat) (h : xo_22 pc = some r) : decode cX2_init pc = .ok r := by
  rcases Nat.lt_or_ge pc 14 with hl | hl
  · have h1 := List.all_eq_true.mp xo_22_no pc (List.mem_range.mpr hl)
    rw [h] at h1
    simp only [Option.isNone_some, Bool.false_or, Bool.or_eq_true, List.contains_iff_mem, or_assoc] at h1
    rcases h1 with h1
    · have h2 := List.all_eq_true.mp xo_22_c0 pc h1
      rw [h] at h2
      exact of_decide_eq_true h2
  · rw [show xo_22 pc = none from if_pos hl] at h; cases h
/-- X2_dropOldest -/
def xo_23 (pc : Nat) : Option (Instr × Nat) := if 53 ≤ pc then none else if pc < 26 then (if pc < 10 then (if pc < 6 then (if pc < 4 then (if pc < 1 then (if pc = 0 then some (.aload_n 0, 1) else none) else (if pc = 1 then some (.getfield 11, 3) else none)) else (if pc < 5 then (if pc = 4 then some (.iconst 0, 1) else none) else (if pc = 5 then some (.aaload, 1) else none))) else (if pc < 8 then (if pc < 7 then (if pc = 6 then some (.astore_n 1, 1) else none) else (if pc = 7 then some (.iconst 1, 1) else none)) else (if pc < 9 then (if pc = 8 then some (.istore_n 2, 1) else none) else (if pc = 9 then some (.iload_n 2, 1) else none)))) else (if pc < 19 then (if pc < 15 then (if pc < 12 then (if pc = 10 then some (.bipush 6, 2) else none) else (if pc = 12 then some (.if_icmp .ge 23, 3) else none)) else (if pc < 16 then (if pc = 15 then some (.aload_n 0, 1) else none) else (if pc = 16 then some (.getfield 11, 3) else none))) else (if pc < 21 then (if pc < 20 then (if pc = 19 then some (.iload_n 2, 1) else none) else (if pc = 20 then some (.iconst 1, 1) else none)) else (if pc < 22 then (if pc = 21 then some (.isub, 1) else none) else (if pc < 23 then (if pc = 22 then some (.aload_n 0, 1) else none) else (if pc = 23 then some (.getfield 11, 3) else none)))))) else (if pc < 40 then (if pc < 32 then (if pc < 28 then (if pc < 27 then (if pc = 26 then some (.iload_n 2, 1) else none) else (if pc = 27 then some (.aaload, 1) else none)) else (if pc < 29 then (if pc = 28 then some (.aastore, 1) else none) else (if pc = 29 then some (.iinc 2 1, 3) else none))) else (if pc < 36 then (if pc < 35 then (if pc = 32 then some (.goto (-23), 3) else none) else (if pc = 35 then some (.aload_n 0, 1) else none)) else (if pc < 39 then (if pc = 36 then some (.getfield 11, 3) else none) else (if pc = 39 then some (.iconst 5, 1) else none)))) else (if pc < 44 then (if pc < 42 then (if pc < 41 then (if pc = 40 then some (.aload_n 1, 1) else none) else (if pc = 41 then some (.aastore, 1) else none)) else (if pc < 43 then (if pc = 42 then some (.aload_n 0, 1) else none) else (if pc = 43 then some (.dup, 1) else none))) else (if pc < 48 then (if pc < 47 then (if pc = 44 then some (.getfield 17, 3) else none) else (if pc = 47 then some (.iconst 1, 1) else none)) else (if pc < 49 then (if pc = 48 then some (.isub, 1) else none) else (if pc < 52 then (if pc = 49 then some (.putfield 17, 3) else none) else (if pc = 52 then some (.return_, 1) else none))))))
set_option maxRecDepth 100000 in
theorem xo_23_c0 : ([0, 1, 4, 5, 6, 7, 8, 9, 10, 12, 15, 16, 19, 20, 21, 22, 23, 26, 27, 28, 29, 32, 35, 36, 39, 40, 41, 42, 43, 44, 47, 48, 49, 52] : List Nat).all (fun pc => match xo_23 pc with | none => true | some r => decide (decode cX2_dropOldest pc = .ok r)) = true := by decide +kernel
set_option maxRecDepth 100000 in
theorem xo_23_no : (List.range 53).all (fun pc => (xo_23 pc).isNone || (([0, 1, 4, 5, 6, 7, 8, 9, 10, 12, 15, 16, 19, 20, 21, 22, 23, 26, 27, 28, 29, 32, 35, 36, 39, 40, 41, 42, 43, 44, 47, 48, 49, 52] : List Nat).contains pc)) = true := by decide +kernel
theorem xo_23_top (pc : Nat) (h : 53 ≤ pc) : xo_23 pc = none := if_pos h
theorem xo_23_ok (pc : Nat) (r : Instr × Nat) (h : xo_23 pc = some r) : decode cX2_dropOldest pc = .ok r := by
  rcases Nat.lt_or_ge pc 53 with hl | hl
  · have h1 := List.all_eq_true.mp xo_23_no pc (List.mem_range.mpr hl)
    rw [h] at h1
    simp only [Option.isNone_some, Bool.false_or, Bool.or_eq_true, List.contains_iff_mem, or_assoc] at h1
    rcases h1 with h1
    · have h2 := List.all_eq_true.mp xo_23_c0 pc h1
      rw [h] at h2
      exact of_decide_eq_true h2
  · rw [show xo_23 pc = none from if_pos hl] at h; cases h
/-- X4_init -/
def xo_24 (pc : Nat) : Option (Instr × Nat) := if 67 ≤ pc then none else if pc < 31 then (if pc < 18 then (if pc < 8 then (if pc < 4 then (if pc < 1 then (if pc = 0 then some (.aload_n 0, 1) else none) else (if pc = 1 then some (.invokespecial 3, 3) else none)) else (if pc < 5 then (if pc = 4 then some (.aload_n 0, 1) else none) else (if pc = 5 then some (.invokestatic 9, 3) else none))) else (if pc < 12 then (if pc < 11 then (if pc = 8 then some (.putfield 13, 3) else none) else (if pc = 11 then some (.aload_n 0, 1) else none)) else (if pc < 15 then (if pc = 12 then some (.invokestatic 9, 3) else none) else (if pc = 15 then some (.putfield 19, 3) else none)))) else (if pc < 24 then (if pc < 20 then (if pc < 19 then (if pc = 18 then some (.aload_n 0, 1) else none) else (if pc = 19 then some (.iconst 3, 1) else none)) else (if pc < 23 then (if pc = 20 then some (.anewarray 22, 3) else none) else (if pc = 23 then some (.dup, 1) else none))) else (if pc < 28 then (if pc < 25 then (if pc = 24 then some (.iconst 0, 1) else none) else (if pc = 25 then some (.invokestatic 9, 3) else none)) else (if pc < 29 then (if pc = 28 then some (.aastore, 1) else none) else (if pc < 30 then (if pc = 29 then some (.dup, 1) else none) else (if pc = 30 then some (.iconst 1, 1) else none)))))) else (if pc < 46 then (if pc < 37 then (if pc < 35 then (if pc < 34 then (if pc = 31 then some (.invokestatic 9, 3) else none) else (if pc = 34 then some (.aastore, 1) else none)) else (if pc < 36 then (if pc = 35 then some (.dup, 1) else none) else (if pc = 36 then some (.iconst 2, 1) else none))) else (if pc < 41 then (if pc < 40 then (if pc = 37 then some (.invokestatic 9, 3) else none) else (if pc = 40 then some (.aastore, 1) else none)) else (if pc < 44 then (if pc = 41 then some (.putfield 23, 3) else none) else (if pc < 45 then (if pc = 44 then some (.aload_n 0, 1) else none) else (if pc = 45 then some (.iconst 3, 1) else none))))) else (if pc < 56 then (if pc < 52 then (if pc < 48 then (if pc = 46 then some (.bipush 20, 2) else none) else (if pc = 48 then some (.multianewarray 27 2, 4) else none)) else (if pc < 55 then (if pc = 52 then some (.putfield 28, 3) else none) else (if pc = 55 then some (.aload_n 0, 1) else none))) else (if pc < 59 then (if pc < 57 then (if pc = 56 then some (.iconst 3, 1) else none) else (if pc = 57 then some (.bipush 20, 2) else none)) else (if pc < 63 then (if pc = 59 then some (.multianewarray 27 2, 4) else none) else (if pc < 66 then (if pc = 63 then some (.putfield 31, 3) else none) else (if pc = 66 then some (.return_, 1) else none))))))
set_option maxRecDepth 100000 in
theorem xo_24_c0 : ([0, 1, 4, 5, 8, 11, 12, 15, 18, 19, 20, 23, 24, 25, 28, 29, 30, 31, 34, 35, 36, 37, 40, 41, 44, 45, 46, 48, 52, 55, 56, 57, 59, 63, 66] : List Nat).all (fun pc => match xo_24 pc with | none => true | some r => decide (decode cX4_init pc = .ok r)) = true := by decide +kernel
set_option maxRecDepth 100000 in
theorem xo_24_no : (List.range 67).all (fun pc => (xo_24 pc).isNone || (([0, 1, 4, 5, 8, 11, 12, 15, 18, 19, 20, 23, 24, 25, 28, 29, 30, 31, 34, 35, 36, 37, 40, 41, 44, 45, 46, 48, 52, 55, 56, 57, 59, 63, 66] : List Nat).contains pc)) = true := by decide +kernel
theorem xo_24_top (pc : Nat) (h : 67 ≤ pc) : xo_24 pc = none := if_pos h
theorem xo_24_ok (pc : Nat) (r : Instr × Nat) (h : xo_24 pc = some r) : decode cX4_init pc = .ok r := by
  rcases Nat.lt_or_ge pc 67 with hl | hl
  · have h1 := List.all_eq_true.mp xo_24_no pc (List.mem_range.mpr hl)
    rw [h] at h1
    simp only [Option.isNone_some, Bool.false_or, Bool.or_eq_true, List.contains_iff_mem, or_assoc] at h1
    rcases h1 with h1
    · have h2 := List.all_eq_true.mp xo_24_c0 pc h1
      rw [h] at h2
      exact of_decide_eq_true h2
  · rw [show xo_24 pc = none from if_pos hl] at h; cases h
/-- X5_init -/
def xo_25 (pc : Nat) : Option (Instr × Nat) := if 65 ≤ pc then none else if pc < 32 then (if pc < 18 then (if pc < 8 then (if pc < 4 then (if pc < 1 then (if pc = 0 then some (.aload_n 0, 1) else none) else (if pc = 1 then some (.invokespecial 3, 3) else none)) else (if pc < 5 then (if pc = 4 then some (.aload_n 0, 1) else none) else (if pc = 5 then some (.getstatic 9, 3) else none))) else (if pc < 14 then (if pc < 11 then (if pc = 8 then some (.invokevirtual 13, 3) else none) else (if pc = 11 then some (.checkcast 14, 3) else none)) else (if pc < 17 then (if pc = 14 then some (.putfield 18, 3) else none) else (if pc = 17 then some (.aload_n 0, 1) else none)))) else (if pc < 23 then (if pc < 21 then (if pc < 19 then (if pc = 18 then some (.iconst 3, 1) else none) else (if pc = 19 then some (.newarray .int, 2) else none)) else (if pc < 22 then (if pc = 21 then some (.dup, 1) else none) else (if pc = 22 then some (.iconst 0, 1) else none))) else (if pc < 27 then (if pc < 26 then (if pc = 23 then some (.sipush 255, 3) else none) else (if pc = 26 then some (.iastore, 1) else none)) else (if pc < 28 then (if pc = 27 then some (.dup, 1) else none) else (if pc < 29 then (if pc = 28 then some (.iconst 1, 1) else none) else (if pc = 29 then some (.sipush 255, 3) else none)))))) else (if pc < 46 then (if pc < 38 then (if pc < 34 then (if pc < 33 then (if pc = 32 then some (.iastore, 1) else none) else (if pc = 33 then some (.dup, 1) else none)) else (if pc < 35 then (if pc = 34 then some (.iconst 2, 1) else none) else (if pc = 35 then some (.sipush 255, 3) else none))) else (if pc < 42 then (if pc < 39 then (if pc = 38 then some (.iastore, 1) else none) else (if pc = 39 then some (.putfield 23, 3) else none)) else (if pc < 43 then (if pc = 42 then some (.aload_n 0, 1) else none) else (if pc = 43 then some (.new 26, 3) else none)))) else (if pc < 54 then (if pc < 50 then (if pc < 47 then (if pc = 46 then some (.dup, 1) else none) else (if pc = 47 then some (.invokespecial 28, 3) else none)) else (if pc < 53 then (if pc = 50 then some (.putfield 29, 3) else none) else (if pc = 53 then some (.aload_n 0, 1) else none))) else (if pc < 58 then (if pc < 57 then (if pc = 54 then some (.new 33, 3) else none) else (if pc = 57 then some (.dup, 1) else none)) else (if pc < 61 then (if pc = 58 then some (.invokespecial 35, 3) else none) else (if pc < 64 then (if pc = 61 then some (.putfield 36, 3) else none) else (if pc = 64 then some (.return_, 1) else none))))))
set_option maxRecDepth 100000 in
theorem xo_25_c0 : ([0, 1, 4, 5, 8, 11, 14, 17, 18, 19, 21, 22, 23, 26, 27, 28, 29, 32, 33, 34, 35, 38, 39, 42, 43, 46, 47, 50, 53, 54, 57, 58, 61, 64] : List Nat).all (fun pc => match xo_25 pc with | none => true | some r => decide (decode cX5_init pc = .ok r)) = true := by decide +kernel
set_option maxRecDepth 100000 in
theorem xo_25_no : (List.range 65).all (fun pc => (xo_25 pc).isNone || (([0, 1, 4, 5, 8, 11, 14, 17, 18, 19, 21, 22, 23, 26, 27, 28, 29, 32, 33, 34, 35, 38, 39, 42, 43, 46, 47, 50, 53, 54, 57, 58, 61, 64] : List Nat).contains pc)) = true := by decide +kernel
theorem xo_25_top (pc : Nat) (h : 65 ≤ pc) : xo_25 pc = none := if_pos h
theorem xo_25_ok (pc : Nat) (r : Instr × Nat) (h : xo_25 pc = some r) : decode cX5_init pc = .ok r := by
  rcases Nat.lt_or_ge pc 65 with hl | hl
  · have h1 := List.all_eq_true.mp xo_25_no pc (List.mem_range.mpr hl)
    rw [h] at h1
    simp only [Option.isNone_some, Bool.false_or, Bool.or_eq_true, List.contains_iff_mem, or_assoc] at h1
    rcases h1 with h1
    · have h2 := List.all_eq_true.mp xo_25_c0 pc h1
      rw [h] at h2
      exact of_decide_eq_true h2
  · rw [show xo_25 pc = none from if_pos hl] at h; cases h
/-- X4_copyFrom -/
def xo_26 (pc : Nat) : Option (Instr × Nat) := if 109 ≤ pc then none else if pc < 53 then (if pc < 30 then (if pc < 15 then (if pc < 6 then (if pc < 4 then (if pc < 1 then (if pc = 0 then some (.aload_n 1, 1) else none) else (if pc = 1 then some (.getfield 13, 3) else none)) else (if pc < 5 then (if pc = 4 then some (.iconst 0, 1) else none) else (if pc = 5 then some (.aload_n 0, 1) else none))) else (if pc < 10 then (if pc < 9 then (if pc = 6 then some (.getfield 13, 3) else none) else (if pc = 9 then some (.iconst 0, 1) else none)) else (if pc < 12 then (if pc = 10 then some (.bipush 20, 2) else none) else (if pc = 12 then some (.invokestatic 34, 3) else none)))) else (if pc < 21 then (if pc < 19 then (if pc < 16 then (if pc = 15 then some (.aload_n 1, 1) else none) else (if pc = 16 then some (.getfield 19, 3) else none)) else (if pc < 20 then (if pc = 19 then some (.iconst 0, 1) else none) else (if pc = 20 then some (.aload_n 0, 1) else none))) else (if pc < 25 then (if pc < 24 then (if pc = 21 then some (.getfield 19, 3) else none) else (if pc = 24 then some (.iconst 0, 1) else none)) else (if pc < 27 then (if pc = 25 then some (.bipush 20, 2) else none) else (if pc = 27 then some (.invokestatic 34, 3) else none))))) else (if pc < 42 then (if pc < 34 then (if pc < 32 then (if pc < 31 then (if pc = 30 then some (.iconst 0, 1) else none) else (if pc = 31 then some (.istore_n 2, 1) else none)) else (if pc < 33 then (if pc = 32 then some (.iload_n 2, 1) else none) else (if pc = 33 then some (.iconst 3, 1) else none))) else (if pc < 38 then (if pc < 37 then (if pc = 34 then some (.if_icmp .ge 66, 3) else none) else (if pc = 37 then some (.aload_n 1, 1) else none)) else (if pc < 41 then (if pc = 38 then some (.getfield 23, 3) else none) else (if pc = 41 then some (.iload_n 2, 1) else none)))) else (if pc < 48 then (if pc < 44 then (if pc < 43 then (if pc = 42 then some (.aaload, 1) else none) else (if pc = 43 then some (.iconst 0, 1) else none)) else (if pc < 45 then (if pc = 44 then some (.aload_n 0, 1) else none) else (if pc = 45 then some (.getfield 23, 3) else none))) else (if pc < 50 then (if pc < 49 then (if pc = 48 then some (.iload_n 2, 1) else none) else (if pc = 49 then some (.aaload, 1) else none)) else (if pc < 51 then (if pc = 50 then some (.iconst 0, 1) else none) else (if pc = 51 then some (.bipush 20, 2) else none)))))) else (if pc < 80 then (if pc < 67 then (if pc < 61 then (if pc < 57 then (if pc < 56 then (if pc = 53 then some (.invokestatic 34, 3) else none) else (if pc = 56 then some (.aload_n 1, 1) else none)) else (if pc < 60 then (if pc = 57 then some (.getfield 28, 3) else none) else (if pc = 60 then some (.iload_n 2, 1) else none))) else (if pc < 63 then (if pc < 62 then (if pc = 61 then some (.aaload, 1) else none) else (if pc = 62 then some (.iconst 0, 1) else none)) else (if pc < 64 then (if pc = 63 then some (.aload_n 0, 1) else none) else (if pc = 64 then some (.getfield 28, 3) else none)))) else (if pc < 72 then (if pc < 69 then (if pc < 68 then (if pc = 67 then some (.iload_n 2, 1) else none) else (if pc = 68 then some (.aaload, 1) else none)) else (if pc < 70 then (if pc = 69 then some (.iconst 0, 1) else none) else (if pc = 70 then some (.bipush 20, 2) else none))) else (if pc < 76 then (if pc < 75 then (if pc = 72 then some (.invokestatic 34, 3) else none) else (if pc = 75 then some (.aload_n 1, 1) else none)) else (if pc < 79 then (if pc = 76 then some (.getfield 31, 3) else none) else (if pc = 79 then some (.iload_n 2, 1) else none))))) else (if pc < 91 then (if pc < 86 then (if pc < 82 then (if pc < 81 then (if pc = 80 then some (.aaload, 1) else none) else (if pc = 81 then some (.iconst 0, 1) else none)) else (if pc < 83 then (if pc = 82 then some (.aload_n 0, 1) else none) else (if pc = 83 then some (.getfield 31, 3) else none))) else (if pc < 88 then (if pc < 87 then (if pc = 86 then some (.iload_n 2, 1) else none) else (if pc = 87 then some (.aaload, 1) else none)) else (if pc < 89 then (if pc = 88 then some (.iconst 0, 1) else none) else (if pc = 89 then some (.bipush 20, 2) else none)))) else (if pc < 101 then (if pc < 97 then (if pc < 94 then (if pc = 91 then some (.invokestatic 34, 3) else none) else (if pc = 94 then some (.iinc 2 1, 3) else none)) else (if pc < 100 then (if pc = 97 then some (.goto (-65), 3) else none) else (if pc = 100 then some (.aload_n 0, 1) else none))) else (if pc < 105 then (if pc < 102 then (if pc = 101 then some (.aload_n 1, 1) else none) else (if pc = 102 then some (.getfield 40, 3) else none)) else (if pc < 108 then (if pc = 105 then some (.putfield 40, 3) else none) else (if pc = 108 then some (.return_, 1) else none))))))
set_option maxRecDepth 100000 in
theorem xo_26_c0 : ([0, 1, 4, 5, 6, 9, 10, 12, 15, 16, 19, 20, 21, 24, 25, 27, 30, 31, 32, 33, 34, 37, 38, 41, 42, 43, 44, 45, 48, 49, 50, 51, 53, 56, 57, 60, 61, 62, 63, 64, 67, 68, 69, 70, 72] : List Nat).all (fun pc => match xo_26 pc with | none => true | some r => decide (decode cX4_copyFrom pc = .ok r)) = true := by decide +kernel
set_option maxRecDepth 100000 in
theorem xo_26_c1 : ([75, 76, 79, 80, 81, 82, 83, 86, 87, 88, 89, 91, 94, 97, 100, 101, 102, 105, 108] : List Nat).all (fun pc => match xo_26 pc with | none => true | some r => decide (decode cX4_copyFrom pc = .ok r)) = true := by decide +kernel
set_option maxRecDepth 100000 in
theorem xo_26_no : (List.range 109).all (fun pc => (xo_26 pc).isNone || (([0, 1, 4, 5, 6, 9, 10, 12, 15, 16, 19, 20, 21, 24, 25, 27, 30, 31, 32, 33, 34, 37, 38, 41, 42, 43, 44, 45, 48, 49, 50, 51, 53, 56, 57, 60, 61, 62, 63, 64, 67, 68, 69, 70, 72] : List Nat).contains pc || ([75, 76, 79, 80, 81, 82, 83, 86, 87, 88, 89, 91, 94, 97, 100, 101, 102, 105, 108] : List Nat).contains pc)) = true := by decide +kernel
theorem xo_26_top (pc : Nat) (h : 109 ≤ pc) : xo_26 pc = none := if_pos h
theorem xo_26_ok (pc : Nat) (r : Instr × Nat) (h : xo_26 pc = some r) : decode cX4_copyFrom pc = .ok r := by
  rcases Nat.lt_or_ge pc 109 with hl | hl
  · have h1 := List.all_eq_true.mp xo_26_no pc (List.mem_range.mpr hl)
    rw [h] at h1
    simp only [Option.isNone_some, Bool.false_or, Bool.or_eq_true, List.contains_iff_mem, or_assoc] at h1
    rcases h1 with h1 | h1
    · have h2 := List.all_eq_true.mp xo_26_c0 pc h1
      rw [h] at h2
      exact of_decide_eq_true h2
    · have h2 := List.all_eq_true.mp xo_26_c1 pc h1
      rw [h] at h2
      exact of_decide_eq_true h2
  · rw [show xo_26 pc = none from if_pos hl] at h; cases h
/-- X5_copyFrom -/
def xo_27 (pc : Nat) : Option (Instr × Nat) := if 59 ≤ pc then none else if pc < 25 then (if pc < 11 then (if pc < 5 then (if pc < 1 then (if pc = 0 then some (.aload_n 1, 1) else none) else (if pc < 4 then (if pc = 1 then some (.getfield 18, 3) else none) else (if pc = 4 then some (.iconst 0, 1) else none))) else (if pc < 9 then (if pc < 6 then (if pc = 5 then some (.aload_n 0, 1) else none) else (if pc = 6 then some (.getfield 18, 3) else none)) else (if pc < 10 then (if pc = 9 then some (.iconst 0, 1) else none) else (if pc = 10 then some (.iconst 4, 1) else none)))) else (if pc < 19 then (if pc < 15 then (if pc < 14 then (if pc = 11 then some (.invokestatic 40, 3) else none) else (if pc = 14 then some (.aload_n 1, 1) else none)) else (if pc < 18 then (if pc = 15 then some (.getfield 23, 3) else none) else (if pc = 18 then some (.iconst 0, 1) else none))) else (if pc < 23 then (if pc < 20 then (if pc = 19 then some (.aload_n 0, 1) else none) else (if pc = 20 then some (.getfield 23, 3) else none)) else (if pc < 24 then (if pc = 23 then some (.iconst 0, 1) else none) else (if pc = 24 then some (.iconst 3, 1) else none))))) else (if pc < 43 then (if pc < 33 then (if pc < 29 then (if pc < 28 then (if pc = 25 then some (.invokestatic 40, 3) else none) else (if pc = 28 then some (.aload_n 0, 1) else none)) else (if pc < 32 then (if pc = 29 then some (.getfield 29, 3) else none) else (if pc = 32 then some (.aload_n 1, 1) else none))) else (if pc < 39 then (if pc < 36 then (if pc = 33 then some (.getfield 29, 3) else none) else (if pc = 36 then some (.invokevirtual 46, 3) else none)) else (if pc < 40 then (if pc = 39 then some (.aload_n 0, 1) else none) else (if pc = 40 then some (.getfield 36, 3) else none)))) else (if pc < 51 then (if pc < 47 then (if pc < 44 then (if pc = 43 then some (.aload_n 1, 1) else none) else (if pc = 44 then some (.getfield 36, 3) else none)) else (if pc < 50 then (if pc = 47 then some (.invokevirtual 50, 3) else none) else (if pc = 50 then some (.aload_n 0, 1) else none))) else (if pc < 55 then (if pc < 52 then (if pc = 51 then some (.aload_n 1, 1) else none) else (if pc = 52 then some (.getfield 53, 3) else none)) else (if pc < 58 then (if pc = 55 then some (.putfield 53, 3) else none) else (if pc = 58 then some (.return_, 1) else none)))))
set_option maxRecDepth 100000 in
theorem xo_27_c0 : ([0, 1, 4, 5, 6, 9, 10, 11, 14, 15, 18, 19, 20, 23, 24, 25, 28, 29, 32, 33, 36, 39, 40, 43, 44, 47, 50, 51, 52, 55, 58] : List Nat).all (fun pc => match xo_27 pc with | none => true | some r => decide (decode cX5_copyFrom pc = .ok r)) = true := by decide +kernel
set_option maxRecDepth 100000 in
theorem xo_27_no : (List.range 59).all (fun pc => (xo_27 pc).isNone || (([0, 1, 4, 5, 6, 9, 10, 11, 14, 15, 18, 19, 20, 23, 24, 25, 28, 29, 32, 33, 36, 39, 40, 43, 44, 47, 50, 51, 52, 55, 58] : List Nat).contains pc)) = true := by decide +kernel
theorem xo_27_top (pc : Nat) (h : 59 ≤ pc) : xo_27 pc = none := if_pos h
theorem xo_27_ok (pc : Nat) (r : Instr × Nat) (h : xo_27 pc = some r) : decode cX5_copyFrom pc = .ok r := by
  rcases Nat.lt_or_ge pc 59 with hl | hl
  · have h1 := List.all_eq_true.mp xo_27_no pc (List.mem_range.mpr hl)
    rw [h] at h1
    simp only [Option.isNone_some, Bool.false_or, Bool.or_eq_true, List.contains_iff_mem, or_assoc] at h1
    rcases h1 with h1
    · have h2 := List.all_eq_true.mp xo_27_c0 pc h1
      rw [h] at h2
      exact of_decide_eq_true h2
  · rw [show xo_27 pc = none from if_pos hl] at h; cases h
