/-- X6_copyInto -/
def xo_28 (pc : Nat) : Option (Instr × Nat) := if 23 ≤ pc then none else if pc < 14 then (if pc < 7 then (if pc < 1 then (if pc = 0 then some (.aload_n 0, 1) else none) else (if pc < 4 then (if pc = 1 then some (.ifnonnull 13, 3) else none) else (if pc = 4 then some (.new 9, 3) else none))) else (if pc < 8 then (if pc = 7 then some (.dup, 1) else none) else (if pc < 11 then (if pc = 8 then some (.invokespecial 11, 3) else none) else (if pc = 11 then some (.goto 4, 3) else none)))) else (if pc < 17 then (if pc < 15 then (if pc = 14 then some (.aload_n 0, 1) else none) else (if pc < 16 then (if pc = 15 then some (.astore_n 2, 1) else none) else (if pc = 16 then some (.aload_n 2, 1) else none))) else (if pc < 21 then (if pc < 18 then (if pc = 17 then some (.aload_n 1, 1) else none) else (if pc = 18 then some (.invokevirtual 40, 3) else none)) else (if pc < 22 then (if pc = 21 then some (.aload_n 2, 1) else none) else (if pc = 22 then some (.areturn, 1) else none))))
set_option maxRecDepth 100000 in
theorem xo_28_c0 : ([0, 1, 4, 7, 8, 11, 14, 15, 16, 17, 18, 21, 22] : List Nat).all (fun pc => match xo_28 pc with | none => true | some r => decide (decode cX6_copyInto pc = .ok r)) = true := by decide +kernel
set_option maxRecDepth 100000 in
theorem xo_28_no : (List.range 23).all (fun pc => (xo_28 pc).isNone || (([0, 1, 4, 7, 8, 11, 14, 15, 16, 17, 18, 21, 22] : List Nat).contains pc)) = true := by decide +kernel
theorem xo_28_top (pc : Nat) (h : 23 ≤ pc) : xo_28 pc = none := if_pos h
theorem xo_28_ok (pc : Nat) (r : Instr × Nat) (h : xo_28 pc = some r) : decode cX6_copyInto pc = .ok r := by
  rcases Nat.lt_or_ge pc 23 with hl | hl
  · have h1 := List.all_eq_true.mp xo_28_no pc (List.mem_range.mpr hl)
    rw [h] at h1
    simp only [Option.isNone_some, Bool.false_or, Bool.or_eq_true, List.contains_iff_mem, or_assoc] at h1
    rcases h1 with h1
    · have h2 := List.all_eq_true.mp xo_28_c0 pc h1
      rw [h] at h2
      exact of_decide_eq_true h2
  · rw [show xo_28 pc = none from if_pos hl] at h; cases h
/-- X2_record -/
def xo_29 (pc : Nat) : Option (Instr × Nat) := if 46 ≤ pc then none else if pc < 25 then (if pc < 13 then (if pc < 6 then (if pc < 1 then (if pc = 0 then some (.aload_n 0, 1) else none) else (if pc < 4 then (if pc = 1 then some (.getfield 17, 3) else none) else (if pc = 4 then some (.bipush 6, 2) else none))) else (if pc < 9 then (if pc = 6 then some (.if_icmp .ne 7, 3) else none) else (if pc < 10 then (if pc = 9 then some (.aload_n 0, 1) else none) else (if pc = 10 then some (.invokevirtual 21, 3) else none)))) else (if pc < 18 then (if pc < 14 then (if pc = 13 then some (.aload_n 0, 1) else none) else (if pc < 17 then (if pc = 14 then some (.getfield 11, 3) else none) else (if pc = 17 then some (.aload_n 0, 1) else none))) else (if pc < 21 then (if pc = 18 then some (.getfield 17, 3) else none) else (if pc < 22 then (if pc = 21 then some (.aload_n 0, 1) else none) else (if pc = 22 then some (.getfield 11, 3) else none))))) else (if pc < 35 then (if pc < 30 then (if pc < 26 then (if pc = 25 then some (.aload_n 0, 1) else none) else (if pc < 29 then (if pc = 26 then some (.getfield 17, 3) else none) else (if pc = 29 then some (.aaload, 1) else none))) else (if pc < 31 then (if pc = 30 then some (.aload_n 1, 1) else none) else (if pc < 34 then (if pc = 31 then some (.invokestatic 24, 3) else none) else (if pc = 34 then some (.aastore, 1) else none)))) else (if pc < 40 then (if pc < 36 then (if pc = 35 then some (.aload_n 0, 1) else none) else (if pc < 37 then (if pc = 36 then some (.dup, 1) else none) else (if pc = 37 then some (.getfield 17, 3) else none))) else (if pc < 42 then (if pc < 41 then (if pc = 40 then some (.iconst 1, 1) else none) else (if pc = 41 then some (.iadd, 1) else none)) else (if pc < 45 then (if pc = 42 then some (.putfield 17, 3) else none) else (if pc = 45 then some (.return_, 1) else none)))))
set_option maxRecDepth 100000 in
theorem xo_29_c0 : ([0, 1, 4, 6, 9, 10, 13, 14, 17, 18, 21, 22, 25, 26, 29, 30, 31, 34, 35, 36, 37, 40, 41, 42, 45] : List Nat).all (fun pc => match xo_29 pc with | none => true | some r => decide (decode cX2_record pc = .ok r)) = true := by decide +kernel
set_option maxRecDepth 100000 in
theorem xo_29_no : (List.range 46).all (fun pc => (xo_29 pc).isNone || (([0, 1, 4, 6, 9, 10, 13, 14, 17, 18, 21, 22, 25, 26, 29, 30, 31, 34, 35, 36, 37, 40, 41, 42, 45] : List Nat).contains pc)) = true := by decide +kernel
theorem xo_29_top (pc : Nat) (h : 46 ≤ pc) : xo_29 pc = none := if_pos h
theorem xo_29_ok (pc : Nat) (r : Instr × Nat) (h : xo_29 pc = some r) : decode cX2_record pc = .ok r := by
  rcases Nat.lt_or_ge pc 46 with hl | hl
  · have h1 := List.all_eq_true.mp xo_29_no pc (List.mem_range.mpr hl)
    rw [h] at h1
    simp only [Option.isNone_some, Bool.false_or, Bool.or_eq_true, List.contains_iff_mem, or_assoc] at h1
    rcases h1 with h1
    · have h2 := List.all_eq_true.mp xo_29_c0 pc h1
      rw [h] at h2
      exact of_decide_eq_true h2
  · rw [show xo_29 pc = none from if_pos hl] at h; cases h
/-- X2_takeBack -/
def xo_30 (pc : Nat) : Option (Instr × Nat) := if 44 ≤ pc then none else if pc < 22 then (if pc < 13 then (if pc < 7 then (if pc < 1 then (if pc = 0 then some (.aload_n 0, 1) else none) else (if pc < 4 then (if pc = 1 then some (.getfield 17, 3) else none) else (if pc = 4 then some (.ifCond .ne 5, 3) else none))) else (if pc < 9 then (if pc < 8 then (if pc = 7 then some (.iconst 0, 1) else none) else (if pc = 8 then some (.ireturn, 1) else none)) else (if pc < 10 then (if pc = 9 then some (.aload_n 0, 1) else none) else (if pc = 10 then some (.getfield 11, 3) else none)))) else (if pc < 18 then (if pc < 14 then (if pc = 13 then some (.aload_n 0, 1) else none) else (if pc < 17 then (if pc = 14 then some (.getfield 17, 3) else none) else (if pc = 17 then some (.iconst 1, 1) else none))) else (if pc < 20 then (if pc < 19 then (if pc = 18 then some (.isub, 1) else none) else (if pc = 19 then some (.aaload, 1) else none)) else (if pc < 21 then (if pc = 20 then some (.astore_n 2, 1) else none) else (if pc = 21 then some (.aload_n 2, 1) else none))))) else (if pc < 33 then (if pc < 27 then (if pc < 25 then (if pc = 22 then some (.ifnonnull 5, 3) else none) else (if pc < 26 then (if pc = 25 then some (.iconst 0, 1) else none) else (if pc = 26 then some (.ireturn, 1) else none))) else (if pc < 29 then (if pc < 28 then (if pc = 27 then some (.aload_n 1, 1) else none) else (if pc = 28 then some (.aload_n 2, 1) else none)) else (if pc < 32 then (if pc = 29 then some (.invokevirtual 28, 3) else none) else (if pc = 32 then some (.aload_n 0, 1) else none)))) else (if pc < 38 then (if pc < 34 then (if pc = 33 then some (.dup, 1) else none) else (if pc < 37 then (if pc = 34 then some (.getfield 17, 3) else none) else (if pc = 37 then some (.iconst 1, 1) else none))) else (if pc < 42 then (if pc < 39 then (if pc = 38 then some (.isub, 1) else none) else (if pc = 39 then some (.putfield 17, 3) else none)) else (if pc < 43 then (if pc = 42 then some (.iconst 1, 1) else none) else (if pc = 43 then some (.ireturn, 1) else none)))))
set_option maxRecDepth 100000 in
theorem xo_30_c0 : ([0, 1, 4, 7, 8, 9, 10, 13, 14, 17, 18, 19, 20, 21, 22, 25, 26, 27, 28, 29, 32, 33, 34, 37, 38, 39, 42, 43] : List Nat).all (fun pc => match xo_30 pc with | none => true | some r => decide (decode cX2_takeBack pc = .ok r)) = true := by decide +kernel
set_option maxRecDepth 100000 in
theorem xo_30_no : (List.range 44).all (fun pc => (xo_30 pc).isNone || (([0, 1, 4, 7, 8, 9, 10, 13, 14, 17, 18, 19, 20, 21, 22, 25, 26, 27, 28, 29, 32, 33, 34, 37, 38, 39, 42, 43] : List Nat).contains pc)) = true := by decide +kernel
theorem xo_30_top (pc : Nat) (h : 44 ≤ pc) : xo_30 pc = none := if_pos h
theorem xo_30_ok (pc : Nat) (r : Instr × Nat) (h : xo_30 pc = some r) : decode cX2_takeBack pc = .ok r := by
  rcases Nat.lt_or_ge pc 44 with hl | hl
  · have h1 := List.all_eq_true.mp xo_30_no pc (List.mem_range.mpr hl)
    rw [h] at h1
    simp only [Option.isNone_some, Bool.false_or, Bool.or_eq_true, List.contains_iff_mem, or_assoc] at h1
    rcases h1 with h1
    · have h2 := List.all_eq_true.mp xo_30_c0 pc h1
      rw [h] at h2
      exact of_decide_eq_true h2
  · rw [show xo_30 pc = none from if_pos hl] at h; cases h
/-- X6_isShed -/
def xo_31 (pc : Nat) : Option (Instr × Nat) := if 16 ≤ pc then none else if pc < 7 then (if pc < 2 then (if pc < 1 then (if pc = 0 then some (.iconst 0, 1) else none) else (if pc = 1 then some (.iload_n 0, 1) else none)) else (if pc < 5 then (if pc = 2 then some (.if_icmp .gt 12, 3) else none) else (if pc < 6 then (if pc = 5 then some (.iload_n 0, 1) else none) else (if pc = 6 then some (.iconst 3, 1) else none)))) else (if pc < 11 then (if pc < 10 then (if pc = 7 then some (.if_icmp .ge 7, 3) else none) else (if pc = 10 then some (.iconst 1, 1) else none)) else (if pc < 14 then (if pc = 11 then some (.goto 4, 3) else none) else (if pc < 15 then (if pc = 14 then some (.iconst 0, 1) else none) else (if pc = 15 then some (.ireturn, 1) else none))))
set_option maxRecDepth 100000 in
theorem xo_31_c0 : ([0, 1, 2, 5, 6, 7, 10, 11, 14, 15] : List Nat).all (fun pc => match xo_31 pc with | none => true | some r => decide (decode cX6_isShed pc = .ok r)) = true := by decide +kernel
set_option maxRecDepth 100000 in
theorem xo_31_no : (List.range 16).all (fun pc => (xo_31 pc).isNone || (([0, 1, 2, 5, 6, 7, 10, 11, 14, 15] : List Nat).contains pc)) = true := by decide +kernel
theorem xo_31_top (pc : Nat) (h : 16 ≤ pc) : xo_31 pc = none := if_pos h
theorem xo_31_ok (pc : Nat) (r : Instr × Nat) (h : xo_31 pc = some r) : decode cX6_isShed pc = .ok r := by
  rcases Nat.lt_or_ge pc 16 with hl | hl
  · have h1 := List.all_eq_true.mp xo_31_no pc (List.mem_range.mpr hl)
    rw [h] at h1
    simp only [Option.isNone_some, Bool.false_or, Bool.or_eq_true, List.contains_iff_mem, or_assoc] at h1
    rcases h1 with h1
    · have h2 := List.all_eq_true.mp xo_31_c0 pc h1
      rw [h] at h2
      exact of_decide_eq_true h2
  · rw [show xo_31 pc = none from if_pos hl] at h; cases h
/-- X4_hasPermit -/
def xo_32 (pc : Nat) : Option (Instr × Nat) := if 10 ≤ pc then none else if pc < 5 then (if pc < 1 then (if pc = 0 then some (.aload_n 0, 1) else none) else (if pc < 4 then (if pc = 1 then some (.getfield 13, 3) else none) else (if pc = 4 then some (.iload_n 1, 1) else none))) else (if pc < 6 then (if pc = 5 then some (.iaload, 1) else none) else (if pc < 9 then (if pc = 6 then some (.invokestatic 44, 3) else none) else (if pc = 9 then some (.ireturn, 1) else none)))
set_option maxRecDepth 100000 in
theorem xo_32_c0 : ([0, 1, 4, 5, 6, 9] : List Nat).all (fun pc => match xo_32 pc with | none => true | some r => decide (decode cX4_hasPermit pc = .ok r)) = true := by decide +kernel
set_option maxRecDepth 100000 in
theorem xo_32_no : (List.range 10).all (fun pc => (xo_32 pc).isNone || (([0, 1, 4, 5, 6, 9] : List Nat).contains pc)) = true := by decide +kernel
theorem xo_32_top (pc : Nat) (h : 10 ≤ pc) : xo_32 pc = none := if_pos h
theorem xo_32_ok (pc : Nat) (r : Instr × Nat) (h : xo_32 pc = some r) : decode cX4_hasPermit pc = .ok r := by
  rcases Nat.lt_or_ge pc 10 with hl | hl
  · have h1 := List.all_eq_true.mp xo_32_no pc (List.mem_range.mpr hl)
    rw [h] at h1
    simp only [Option.isNone_some, Bool.false_or, Bool.or_eq_true, List.contains_iff_mem, or_assoc] at h1
    rcases h1 with h1
    · have h2 := List.all_eq_true.mp xo_32_c0 pc h1
      rw [h] at h2
      exact of_decide_eq_true h2
  · rw [show xo_32 pc = none from if_pos hl] at h; cases h
/-- X4_waitsFor -/
def xo_33 (pc : Nat) : Option (Instr × Nat) := if 19 ≤ pc then none else if pc < 8 then (if pc < 5 then (if pc < 1 then (if pc = 0 then some (.aload_n 0, 1) else none) else (if pc < 4 then (if pc = 1 then some (.getfield 23, 3) else none) else (if pc = 4 then some (.iload_n 2, 1) else none))) else (if pc < 6 then (if pc = 5 then some (.aaload, 1) else none) else (if pc < 7 then (if pc = 6 then some (.iload_n 1, 1) else none) else (if pc = 7 then some (.iaload, 1) else none)))) else (if pc < 14 then (if pc < 10 then (if pc = 8 then some (.bipush (-6), 2) else none) else (if pc < 13 then (if pc = 10 then some (.if_icmp .eq 7, 3) else none) else (if pc = 13 then some (.iconst 1, 1) else none))) else (if pc < 17 then (if pc = 14 then some (.goto 4, 3) else none) else (if pc < 18 then (if pc = 17 then some (.iconst 0, 1) else none) else (if pc = 18 then some (.ireturn, 1) else none))))
set_option maxRecDepth 100000 in
theorem xo_33_c0 : ([0, 1, 4, 5, 6, 7, 8, 10, 13, 14, 17, 18] : List Nat).all (fun pc => match xo_33 pc with | none => true | some r => decide (decode cX4_waitsFor pc = .ok r)) = true := by decide +kernel
set_option maxRecDepth 100000 in
theorem xo_33_no : (List.range 19).all (fun pc => (xo_33 pc).isNone || (([0, 1, 4, 5, 6, 7, 8, 10, 13, 14, 17, 18] : List Nat).contains pc)) = true := by decide +kernel
theorem xo_33_top (pc : Nat) (h : 19 ≤ pc) : xo_33 pc = none := if_pos h
theorem xo_33_ok (pc : Nat) (r : Instr × Nat) (h : xo_33 pc = some r) : decode cX4_waitsFor pc = .ok r := by
  rcases Nat.lt_or_ge pc 19 with hl | hl
  · have h1 := List.all_eq_true.mp xo_33_no pc (List.mem_range.mpr hl)
    rw [h] at h1
    simp only [Option.isNone_some, Bool.false_or, Bool.or_eq_true, List.contains_iff_mem, or_assoc] at h1
    rcases h1 with h1
    · have h2 := List.all_eq_true.mp xo_33_c0 pc h1
      rw [h] at h2
      exact of_decide_eq_true h2
  · rw [show xo_33 pc = none from if_pos hl] at h; cases h
/-- X4_shedsWaitedFor -/
def xo_34 (pc : Nat) : Option (Instr × Nat) := if 32 ≤ pc then none else if pc < 15 then (if pc < 5 then (if pc < 2 then (if pc < 1 then (if pc = 0 then some (.iconst 0, 1) else none) else (if pc = 1 then some (.istore_n 2, 1) else none)) else (if pc < 3 then (if pc = 2 then some (.iconst 0, 1) else none) else (if pc < 4 then (if pc = 3 then some (.istore_n 3, 1) else none) else (if pc = 4 then some (.iload_n 3, 1) else none)))) else (if pc < 10 then (if pc < 6 then (if pc = 5 then some (.iconst 3, 1) else none) else (if pc < 9 then (if pc = 6 then some (.if_icmp .ge 24, 3) else none) else (if pc = 9 then some (.aload_n 0, 1) else none))) else (if pc < 11 then (if pc = 10 then some (.iload_n 1, 1) else none) else (if pc < 12 then (if pc = 11 then some (.iload_n 3, 1) else none) else (if pc = 12 then some (.invokevirtual 52, 3) else none))))) else (if pc < 22 then (if pc < 19 then (if pc < 18 then (if pc = 15 then some (.ifCond .eq 9, 3) else none) else (if pc = 18 then some (.iload_n 2, 1) else none)) else (if pc < 20 then (if pc = 19 then some (.iconst 1, 1) else none) else (if pc < 21 then (if pc = 20 then some (.iload_n 3, 1) else none) else (if pc = 21 then some (.ishl, 1) else none)))) else (if pc < 27 then (if pc < 23 then (if pc = 22 then some (.ior, 1) else none) else (if pc < 24 then (if pc = 23 then some (.istore_n 2, 1) else none) else (if pc = 24 then some (.iinc 3 1, 3) else none))) else (if pc < 30 then (if pc = 27 then some (.goto (-23), 3) else none) else (if pc < 31 then (if pc = 30 then some (.iload_n 2, 1) else none) else (if pc = 31 then some (.ireturn, 1) else none)))))
set_option maxRecDepth 100000 in
theorem xo_34_c0 : ([0, 1, 2, 3, 4, 5, 6, 9, 10, 11, 12, 15, 18, 19, 20, 21, 22, 23, 24, 27, 30, 31] : List Nat).all (fun pc => match xo_34 pc with | none => true | some r => decide (decode cX4_shedsWaitedFor pc = .ok r)) = true := by decide +kernel
set_option maxRecDepth 100000 in
theorem xo_34_no : (List.range 32).all (fun pc => (xo_34 pc).isNone || (([0, 1, 2, 3, 4, 5, 6, 9, 10, 11, 12, 15, 18, 19, 20, 21, 22, 23, 24, 27, 30, 31] : List Nat).contains pc)) = true := by decide +kernel
theorem xo_34_top (pc : Nat) (h : 32 ≤ pc) : xo_34 pc = none := if_pos h
theorem xo_34_ok (pc : Nat) (r : Instr × Nat) (h : xo_34 pc = some r) : decode cX4_shedsWaitedFor pc = .ok r := by
  rcases Nat.lt_or_ge pc 32 with hl | hl
  · have h1 := List.all_eq_true.mp xo_34_no pc (List.mem_range.mpr hl)
    rw [h] at h1
    simp only [Option.isNone_some, Bool.false_or, Bool.or_eq_true, List.contains_iff_mem, or_assoc] at h1
    rcases h1 with h1
    · have h2 := List.all_eq_true.mp xo_34_c0 pc h1
      rw [h] at h2
      exact of_decide_eq_true h2
  · rw [show xo_34 pc = none from if_pos hl] at h; cases h
/-- X4_waitsForSome -/
def xo_35 (pc : Nat) : Option (Instr × Nat) := if 14 ≤ pc then none else if pc < 8 then (if pc < 2 then (if pc < 1 then (if pc = 0 then some (.aload_n 0, 1) else none) else (if pc = 1 then some (.iload_n 1, 1) else none)) else (if pc < 5 then (if pc = 2 then some (.invokevirtual 48, 3) else none) else (if pc = 5 then some (.ifCond .eq 7, 3) else none))) else (if pc < 12 then (if pc < 9 then (if pc = 8 then some (.iconst 1, 1) else none) else (if pc = 9 then some (.goto 4, 3) else none)) else (if pc < 13 then (if pc = 12 then some (.iconst 0, 1) else none) else (if pc = 13 then some (.ireturn, 1) else none)))
set_option maxRecDepth 100000 in
theorem xo_35_c0 : ([0, 1, 2, 5, 8, 9, 12, 13] : List Nat).all (fun pc => match xo_35 pc with | none => true | some r => decide (decode cX4_waitsForSome pc = .ok r)) = true := by decide +kernel
set_option maxRecDepth 100000 in
theorem xo_35_no : (List.range 14).all (fun pc => (xo_35 pc).isNone || (([0, 1, 2, 5, 8, 9, 12, 13] : List Nat).contains pc)) = true := by decide +kernel
theorem xo_35_top (pc : Nat) (h : 14 ≤ pc) : xo_35 pc = none := if_pos h
theorem xo_35_ok (pc : Nat) (r : Instr × Nat) (h : xo_35 pc = some r) : decode cX4_waitsForSome pc = .ok r := by
  rcases Nat.lt_or_ge pc 14 with hl | hl
  · have h1 := List.all_eq_true.mp xo_35_no pc (List.mem_range.mpr hl)
    rw [h] at h1
    simp only [Option.isNone_some, Bool.false_or, Bool.or_eq_true, List.contains_iff_mem, or_assoc] at h1
    rcases h1 with h1
    · have h2 := List.all_eq_true.mp xo_35_c0 pc h1
      rw [h] at h2
      exact of_decide_eq_true h2
  · rw [show xo_35 pc = none from if_pos hl] at h; cases h
/-- X4_countOf -/
def xo_36 (pc : Nat) : Option (Instr × Nat) := if 31 ≤ pc then none else if pc < 14 then (if pc < 4 then (if pc < 2 then (if pc < 1 then (if pc = 0 then some (.iconst 0, 1) else none) else (if pc = 1 then some (.istore_n 2, 1) else none)) else (if pc < 3 then (if pc = 2 then some (.iconst 0, 1) else none) else (if pc = 3 then some (.istore_n 3, 1) else none))) else (if pc < 7 then (if pc < 5 then (if pc = 4 then some (.iload_n 3, 1) else none) else (if pc = 5 then some (.bipush 20, 2) else none)) else (if pc < 10 then (if pc = 7 then some (.if_icmp .ge 22, 3) else none) else (if pc < 11 then (if pc = 10 then some (.aload_n 0, 1) else none) else (if pc = 11 then some (.getfield 13, 3) else none))))) else (if pc < 20 then (if pc < 16 then (if pc < 15 then (if pc = 14 then some (.iload_n 3, 1) else none) else (if pc = 15 then some (.iaload, 1) else none)) else (if pc < 17 then (if pc = 16 then some (.iload_n 1, 1) else none) else (if pc = 17 then some (.if_icmp .ne 6, 3) else none))) else (if pc < 26 then (if pc < 23 then (if pc = 20 then some (.iinc 2 1, 3) else none) else (if pc = 23 then some (.iinc 3 1, 3) else none)) else (if pc < 29 then (if pc = 26 then some (.goto (-22), 3) else none) else (if pc < 30 then (if pc = 29 then some (.iload_n 2, 1) else none) else (if pc = 30 then some (.ireturn, 1) else none)))))
set_option maxRecDepth 100000 in
theorem xo_36_c0 : ([0, 1, 2, 3, 4, 5, 7, 10, 11, 14, 15, 16, 17, 20, 23, 26, 29, 30] : List Nat).all (fun pc => match xo_36 pc with | none => true | some r => decide (decode cX4_countOf pc = .ok r)) = true := by decide +kernel
set_option maxRecDepth 100000 in
theorem xo_36_no : (List.range 31).all (fun pc => (xo_36 pc).isNone || (([0, 1, 2, 3, 4, 5, 7, 10, 11, 14, 15, 16, 17, 20, 23, 26, 29, 30] : List Nat).contains pc)) = true := by decide +kernel
theorem xo_36_top (pc : Nat) (h : 31 ≤ pc) : xo_36 pc = none := if_pos h
theorem xo_36_ok (pc : Nat) (r : Instr × Nat) (h : xo_36 pc = some r) : decode cX4_countOf pc = .ok r := by
  rcases Nat.lt_or_ge pc 31 with hl | hl
  · have h1 := List.all_eq_true.mp xo_36_no pc (List.mem_range.mpr hl)
    rw [h] at h1
    simp only [Option.isNone_some, Bool.false_or, Bool.or_eq_true, List.contains_iff_mem, or_assoc] at h1
    rcases h1 with h1
    · have h2 := List.all_eq_true.mp xo_36_c0 pc h1
      rw [h] at h2
      exact of_decide_eq_true h2
  · rw [show xo_36 pc = none from if_pos hl] at h; cases h
/-- X4_countAll -/
def xo_37 (pc : Nat) : Option (Instr × Nat) := if 8 ≤ pc then none else if pc < 4 then (if pc < 1 then (if pc = 0 then some (.aload_n 0, 1) else none) else (if pc = 1 then some (.getfield 13, 3) else none)) else (if pc < 7 then (if pc = 4 then some (.invokestatic 56, 3) else none) else (if pc = 7 then some (.ireturn, 1) else none))
set_option maxRecDepth 100000 in
theorem xo_37_c0 : ([0, 1, 4, 7] : List Nat).all (fun pc => match xo_37 pc with | none => true | some r => decide (decode cX4_countAll pc = .ok r)) = true := by decide +kernel
set_option maxRecDepth 100000 in
theorem xo_37_no : (List.range 8).all (fun pc => (xo_37 pc).isNone || (([0, 1, 4, 7] : List Nat).contains pc)) = true := by decide +kernel
theorem xo_37_top (pc : Nat) (h : 8 ≤ pc) : xo_37 pc = none := if_pos h
theorem xo_37_ok (pc : Nat) (r : Instr × Nat) (h : xo_37 pc = some r) : decode cX4_countAll pc = .ok r := by
  rcases Nat.lt_or_ge pc 8 with hl | hl
  · have h1 := List.all_eq_true.mp xo_37_no pc (List.mem_range.mpr hl)
    rw [h] at h1
    simp only [Option.isNone_some, Bool.false_or, Bool.or_eq_true, List.contains_iff_mem, or_assoc] at h1
    rcases h1 with h1
    · have h2 := List.all_eq_true.mp xo_37_c0 pc h1
      rw [h] at h2
      exact of_decide_eq_true h2
  · rw [show xo_37 pc = none from if_pos hl] at h; cases h
/-- X4_countWaiting -/
def xo_38 (pc : Nat) : Option (Instr × Nat) := if 10 ≤ pc then none else if pc < 5 then (if pc < 1 then (if pc = 0 then some (.aload_n 0, 1) else none) else (if pc < 4 then (if pc = 1 then some (.getfield 23, 3) else none) else (if pc = 4 then some (.iload_n 1, 1) else none))) else (if pc < 6 then (if pc = 5 then some (.aaload, 1) else none) else (if pc < 9 then (if pc = 6 then some (.invokestatic 56, 3) else none) else (if pc = 9 then some (.ireturn, 1) else none)))
set_option maxRecDepth 100000 in
theorem xo_38_c0 : ([0, 1, 4, 5, 6, 9] : List Nat).all (fun pc => match xo_38 pc with | none => true | some r => decide (decode cX4_countWaiting pc = .ok r)) = true := by decide +kernel
set_option maxRecDepth 100000 in
theorem xo_38_no : (List.range 10).all (fun pc => (xo_38 pc).isNone || (([0, 1, 4, 5, 6, 9] : List Nat).contains pc)) = true := by decide +kernel
theorem xo_38_top (pc : Nat) (h : 10 ≤ pc) : xo_38 pc = none := if_pos h
theorem xo_38_ok (pc : Nat) (r : Instr × Nat) (h : xo_38 pc = some r) : decode cX4_countWaiting pc = .ok r := by
  rcases Nat.lt_or_ge pc 10 with hl | hl
  · have h1 := List.all_eq_true.mp xo_38_no pc (List.mem_range.mpr hl)
    rw [h] at h1
    simp only [Option.isNone_some, Bool.false_or, Bool.or_eq_true, List.contains_iff_mem, or_assoc] at h1
    rcases h1 with h1
    · have h2 := List.all_eq_true.mp xo_38_c0 pc h1
      rw [h] at h2
      exact of_decide_eq_true h2
  · rw [show xo_38 pc = none from if_pos hl] at h; cases h
/-- X4_countAllWaiting -/
def xo_39 (pc : Nat) : Option (Instr × Nat) := if 29 ≤ pc then none else if pc < 11 then (if pc < 4 then (if pc < 2 then (if pc < 1 then (if pc = 0 then some (.iconst 0, 1) else none) else (if pc = 1 then some (.istore_n 1, 1) else none)) else (if pc < 3 then (if pc = 2 then some (.iconst 0, 1) else none) else (if pc = 3 then some (.istore_n 2, 1) else none))) else (if pc < 7 then (if pc < 5 then (if pc = 4 then some (.iload_n 2, 1) else none) else (if pc = 5 then some (.bipush 20, 2) else none)) else (if pc < 10 then (if pc = 7 then some (.if_icmp .ge 20, 3) else none) else (if pc = 10 then some (.aload_n 0, 1) else none)))) else (if pc < 21 then (if pc < 15 then (if pc < 12 then (if pc = 11 then some (.iload_n 2, 1) else none) else (if pc = 12 then some (.invokevirtual 60, 3) else none)) else (if pc < 18 then (if pc = 15 then some (.ifCond .eq 6, 3) else none) else (if pc = 18 then some (.iinc 1 1, 3) else none))) else (if pc < 27 then (if pc < 24 then (if pc = 21 then some (.iinc 2 1, 3) else none) else (if pc = 24 then some (.goto (-20), 3) else none)) else (if pc < 28 then (if pc = 27 then some (.iload_n 1, 1) else none) else (if pc = 28 then some (.ireturn, 1) else none))))
set_option maxRecDepth 100000 in
theorem xo_39_c0 : ([0, 1, 2, 3, 4, 5, 7, 10, 11, 12, 15, 18, 21, 24, 27, 28] : List Nat).all (fun pc => match xo_39 pc with | none => true | some r => decide (decode cX4_countAllWaiting pc = .ok r)) = true := by decide +kernel
set_option maxRecDepth 100000 in
theorem xo_39_no : (List.range 29).all (fun pc => (xo_39 pc).isNone || (([0, 1, 2, 3, 4, 5, 7, 10, 11, 12, 15, 18, 21, 24, 27, 28] : List Nat).contains pc)) = true := by decide +kernel
theorem xo_39_top (pc : Nat) (h : 29 ≤ pc) : xo_39 pc = none := if_pos h
theorem xo_39_ok (pc : Nat) (r : Instr × Nat) (h : xo_39 pc = some r) : decode cX4_countAllWaiting pc = .ok r := by
  rcases Nat.lt_or_ge pc 29 with hl | hl
  · have h1 := List.all_eq_true.mp xo_39_no pc (List.mem_range.mpr hl)
    rw [h] at h1
    simp only [Option.isNone_some, Bool.false_or, Bool.or_eq_true, List.contains_iff_mem, or_assoc] at h1
    rcases h1 with h1
    · have h2 := List.all_eq_true.mp xo_39_c0 pc h1
      rw [h] at h2
      exact of_decide_eq_true h2
  · rw [show xo_39 pc = none from if_pos hl] at h; cases h
/-- X4_leaveLists -/
def xo_40 (pc : Nat) : Option (Instr × Nat) := if 81 ≤ pc then none else if pc < 37 then (if pc < 16 then (if pc < 8 then (if pc < 3 then (if pc < 1 then (if pc = 0 then some (.iconst 0, 1) else none) else (if pc < 2 then (if pc = 1 then some (.istore_n 2, 1) else none) else (if pc = 2 then some (.iload_n 2, 1) else none))) else (if pc < 4 then (if pc = 3 then some (.iconst 3, 1) else none) else (if pc < 7 then (if pc = 4 then some (.if_icmp .ge 76, 3) else none) else (if pc = 7 then some (.aload_n 0, 1) else none)))) else (if pc < 13 then (if pc < 11 then (if pc = 8 then some (.getfield 23, 3) else none) else (if pc < 12 then (if pc = 11 then some (.iload_n 2, 1) else none) else (if pc = 12 then some (.aaload, 1) else none))) else (if pc < 14 then (if pc = 13 then some (.iload_n 1, 1) else none) else (if pc < 15 then (if pc = 14 then some (.iaload, 1) else none) else (if pc = 15 then some (.istore_n 3, 1) else none))))) else (if pc < 25 then (if pc < 21 then (if pc < 17 then (if pc = 16 then some (.aload_n 0, 1) else none) else (if pc < 20 then (if pc = 17 then some (.getfield 23, 3) else none) else (if pc = 20 then some (.iload_n 2, 1) else none))) else (if pc < 22 then (if pc = 21 then some (.aaload, 1) else none) else (if pc < 23 then (if pc = 22 then some (.iload_n 1, 1) else none) else (if pc = 23 then some (.bipush (-6), 2) else none)))) else (if pc < 29 then (if pc < 26 then (if pc = 25 then some (.iastore, 1) else none) else (if pc < 27 then (if pc = 26 then some (.iconst 0, 1) else none) else (if pc = 27 then some (.istore 4, 2) else none))) else (if pc < 32 then (if pc < 30 then (if pc = 29 then some (.iload_n 3, 1) else none) else (if pc = 30 then some (.bipush (-6), 2) else none)) else (if pc < 35 then (if pc = 32 then some (.if_icmp .eq 42, 3) else none) else (if pc = 35 then some (.iload 4, 2) else none)))))) else (if pc < 59 then (if pc < 48 then (if pc < 43 then (if pc < 39 then (if pc = 37 then some (.bipush 20, 2) else none) else (if pc < 42 then (if pc = 39 then some (.if_icmp .ge 35, 3) else none) else (if pc = 42 then some (.aload_n 0, 1) else none))) else (if pc < 46 then (if pc = 43 then some (.getfield 23, 3) else none) else (if pc < 47 then (if pc = 46 then some (.iload_n 2, 1) else none) else (if pc = 47 then some (.aaload, 1) else none)))) else (if pc < 52 then (if pc < 50 then (if pc = 48 then some (.iload 4, 2) else none) else (if pc < 51 then (if pc = 50 then some (.iaload, 1) else none) else (if pc = 51 then some (.iload_n 3, 1) else none))) else (if pc < 55 then (if pc = 52 then some (.if_icmp .le 16, 3) else none) else (if pc < 56 then (if pc = 55 then some (.aload_n 0, 1) else none) else (if pc = 56 then some (.getfield 23, 3) else none))))) else (if pc < 66 then (if pc < 63 then (if pc < 60 then (if pc = 59 then some (.iload_n 2, 1) else none) else (if pc < 61 then (if pc = 60 then some (.aaload, 1) else none) else (if pc = 61 then some (.iload 4, 2) else none))) else (if pc < 64 then (if pc = 63 then some (.dup2, 1) else none) else (if pc < 65 then (if pc = 64 then some (.iaload, 1) else none) else (if pc = 65 then some (.iconst 1, 1) else none)))) else (if pc < 71 then (if pc < 67 then (if pc = 66 then some (.isub, 1) else none) else (if pc < 68 then (if pc = 67 then some (.iastore, 1) else none) else (if pc = 68 then some (.iinc 4 1, 3) else none))) else (if pc < 77 then (if pc < 74 then (if pc = 71 then some (.goto (-42), 3) else none) else (if pc = 74 then some (.iinc 2 1, 3) else none)) else (if pc < 80 then (if pc = 77 then some (.goto (-75), 3) else none) else (if pc = 80 then some (.return_, 1) else none))))))
set_option maxRecDepth 100000 in
theorem xo_40_c0 : ([0, 1, 2, 3, 4, 7, 8, 11, 12, 13, 14, 15, 16, 17, 20, 21, 22, 23, 25, 26, 27, 29, 30, 32, 35, 37, 39, 42, 43, 46, 47, 48, 50, 51, 52, 55, 56, 59, 60, 61, 63, 64, 65, 66, 67, 68, 71, 74, 77, 80] : List Nat).all (fun pc => match xo_40 pc with | none => true | some r => decide (decode cX4_leaveLists pc = .ok r)) = true := by decide +kernel
set_option maxRecDepth 100000 in
theorem xo_40_no : (List.range 81).all (fun pc => (xo_40 pc).isNone || (([0, 1, 2, 3, 4, 7, 8, 11, 12, 13, 14, 15, 16, 17, 20, 21, 22, 23, 25, 26, 27, 29, 30, 32, 35, 37, 39, 42, 43, 46, 47, 48, 50, 51, 52, 55, 56, 59, 60, 61, 63, 64, 65, 66, 67, 68, 71, 74, 77, 80] : List Nat).contains pc)) = true := by decide +kernel
theorem xo_40_top (pc : Nat) (h : 81 ≤ pc) : xo_40 pc = none := if_pos h
theorem xo_40_ok (pc : Nat) (r : Instr × Nat) (h : xo_40 pc = some r) : decode cX4_leaveLists pc = .ok r := by
  rcases Nat.lt_or_ge pc 81 with hl | hl
  · have h1 := List.all_eq_true.mp xo_40_no pc (List.mem_range.mpr hl)
    rw [h] at h1
    simp only [Option.isNone_some, Bool.false_or, Bool.or_eq_true, List.contains_iff_mem, or_assoc] at h1
    rcases h1 with h1
    · have h2 := List.all_eq_true.mp xo_40_c0 pc h1
      rw [h] at h2
      exact of_decide_eq_true h2
  · rw [show xo_40 pc = none from if_pos hl] at h; cases h
/-- X4_give -/
def xo_41 (pc : Nat) : Option (Instr × Nat) := if 35 ≤ pc then none else if pc < 17 then (if pc < 8 then (if pc < 5 then (if pc < 1 then (if pc = 0 then some (.aload_n 0, 1) else none) else (if pc < 4 then (if pc = 1 then some (.getfield 13, 3) else none) else (if pc = 4 then some (.iload_n 1, 1) else none))) else (if pc < 6 then (if pc = 5 then some (.iload_n 2, 1) else none) else (if pc < 7 then (if pc = 6 then some (.iastore, 1) else none) else (if pc = 7 then some (.aload_n 0, 1) else none)))) else (if pc < 14 then (if pc < 11 then (if pc = 8 then some (.getfield 19, 3) else none) else (if pc < 12 then (if pc = 11 then some (.iload_n 1, 1) else none) else (if pc = 12 then some (.iload 4, 2) else none))) else (if pc < 15 then (if pc = 14 then some (.iload_n 3, 1) else none) else (if pc < 16 then (if pc = 15 then some (.iadd, 1) else none) else (if pc = 16 then some (.iconst 1, 1) else none))))) else (if pc < 25 then (if pc < 20 then (if pc < 18 then (if pc = 17 then some (.isub, 1) else none) else (if pc < 19 then (if pc = 18 then some (.iastore, 1) else none) else (if pc = 19 then some (.aload_n 0, 1) else none))) else (if pc < 21 then (if pc = 20 then some (.dup, 1) else none) else (if pc < 24 then (if pc = 21 then some (.getfield 40, 3) else none) else (if pc = 24 then some (.iconst 1, 1) else none)))) else (if pc < 30 then (if pc < 26 then (if pc = 25 then some (.iadd, 1) else none) else (if pc < 29 then (if pc = 26 then some (.putfield 40, 3) else none) else (if pc = 29 then some (.aload_n 0, 1) else none))) else (if pc < 31 then (if pc = 30 then some (.iload_n 1, 1) else none) else (if pc < 34 then (if pc = 31 then some (.invokevirtual 63, 3) else none) else (if pc = 34 then some (.return_, 1) else none)))))
set_option maxRecDepth 100000 in
theorem xo_41_c0 : ([0, 1, 4, 5, 6, 7, 8, 11, 12, 14, 15, 16, 17, 18, 19, 20, 21, 24, 25, 26, 29, 30, 31, 34] : List Nat).all (fun pc => match xo_41 pc with | none => true | some r => decide (decode cX4_give pc = .ok r)) = true := by decide +kernel
set_option maxRecDepth 100000 in
theorem xo_41_no : (List.range 35).all (fun pc => (xo_41 pc).isNone || (([0, 1, 4, 5, 6, 7, 8, 11, 12, 14, 15, 16, 17, 18, 19, 20, 21, 24, 25, 26, 29, 30, 31, 34] : List Nat).contains pc)) = true := by decide +kernel
theorem xo_41_top (pc : Nat) (h : 35 ≤ pc) : xo_41 pc = none := if_pos h
theorem xo_41_ok (pc : Nat) (r : Instr × Nat) (h : xo_41 pc = some r) : decode cX4_give pc = .ok r := by
  rcases Nat.lt_or_ge pc 35 with hl | hl
  · have h1 := List.all_eq_true.mp xo_41_no pc (List.mem_range.mpr hl)
    rw [h] at h1
    simp only [Option.isNone_some, Bool.false_or, Bool.or_eq_true, List.contains_iff_mem, or_assoc] at h1
    rcases h1 with h1
    · have h2 := List.all_eq_true.mp xo_41_c0 pc h1
      rw [h] at h2
      exact of_decide_eq_true h2
  · rw [show xo_41 pc = none from if_pos hl] at h; cases h
