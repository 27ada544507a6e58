/-- X4_end -/
def xo_42 (pc : Nat) : Option (Instr × Nat) := if 17 ≤ pc then none else if pc < 8 then (if pc < 4 then (if pc < 1 then (if pc = 0 then some (.aload_n 0, 1) else none) else (if pc = 1 then some (.getfield 13, 3) else none)) else (if pc < 5 then (if pc = 4 then some (.iload_n 1, 1) else none) else (if pc < 7 then (if pc = 5 then some (.bipush (-6), 2) else none) else (if pc = 7 then some (.iastore, 1) else none)))) else (if pc < 13 then (if pc < 9 then (if pc = 8 then some (.aload_n 0, 1) else none) else (if pc < 12 then (if pc = 9 then some (.getfield 19, 3) else none) else (if pc = 12 then some (.iload_n 1, 1) else none))) else (if pc < 15 then (if pc = 13 then some (.bipush (-6), 2) else none) else (if pc < 16 then (if pc = 15 then some (.iastore, 1) else none) else (if pc = 16 then some (.return_, 1) else none))))
set_option maxRecDepth 100000 in
theorem xo_42_c0 : ([0, 1, 4, 5, 7, 8, 9, 12, 13, 15, 16] : List Nat).all (fun pc => match xo_42 pc with | none => true | some r => decide (decode cX4_end pc = .ok r)) = true := by decide +kernel
set_option maxRecDepth 100000 in
theorem xo_42_no : (List.range 17).all (fun pc => (xo_42 pc).isNone || (([0, 1, 4, 5, 7, 8, 9, 12, 13, 15, 16] : List Nat).contains pc)) = true := by decide +kernel
theorem xo_42_top (pc : Nat) (h : 17 ≤ pc) : xo_42 pc = none := if_pos h
theorem xo_42_ok (pc : Nat) (r : Instr × Nat) (h : xo_42 pc = some r) : decode cX4_end pc = .ok r := by
  rcases Nat.lt_or_ge pc 17 with hl | hl
  · have h1 := List.all_eq_true.mp xo_42_no pc (List.mem_range.mpr hl)
    rw [h] at h1
    simp only [Option.isNone_some, Bool.false_or, Bool.or_eq_true, List.contains_iff_mem, or_assoc] at h1
    rcases h1 with h1
    · have h2 := List.all_eq_true.mp xo_42_c0 pc h1
      rw [h] at h2
      exact of_decide_eq_true h2
  · rw [show xo_42 pc = none from if_pos hl] at h; cases h
/-- X4_endBefore -/
def xo_43 (pc : Nat) : Option (Instr × Nat) := if 38 ≤ pc then none else if pc < 17 then (if pc < 8 then (if pc < 2 then (if pc < 1 then (if pc = 0 then some (.iconst 0, 1) else none) else (if pc = 1 then some (.istore_n 2, 1) else none)) else (if pc < 3 then (if pc = 2 then some (.iload_n 2, 1) else none) else (if pc < 5 then (if pc = 3 then some (.bipush 20, 2) else none) else (if pc = 5 then some (.if_icmp .ge 32, 3) else none)))) else (if pc < 10 then (if pc < 9 then (if pc = 8 then some (.aload_n 0, 1) else none) else (if pc = 9 then some (.iload_n 2, 1) else none)) else (if pc < 13 then (if pc = 10 then some (.invokevirtual 67, 3) else none) else (if pc < 16 then (if pc = 13 then some (.ifCond .eq 18, 3) else none) else (if pc = 16 then some (.aload_n 0, 1) else none))))) else (if pc < 26 then (if pc < 21 then (if pc < 20 then (if pc = 17 then some (.getfield 19, 3) else none) else (if pc = 20 then some (.iload_n 2, 1) else none)) else (if pc < 22 then (if pc = 21 then some (.iaload, 1) else none) else (if pc < 23 then (if pc = 22 then some (.iload_n 1, 1) else none) else (if pc = 23 then some (.if_icmp .ge 8, 3) else none)))) else (if pc < 31 then (if pc < 27 then (if pc = 26 then some (.aload_n 0, 1) else none) else (if pc < 28 then (if pc = 27 then some (.iload_n 2, 1) else none) else (if pc = 28 then some (.invokevirtual 70, 3) else none))) else (if pc < 34 then (if pc = 31 then some (.iinc 2 1, 3) else none) else (if pc < 37 then (if pc = 34 then some (.goto (-32), 3) else none) else (if pc = 37 then some (.return_, 1) else none)))))
set_option maxRecDepth 100000 in
theorem xo_43_c0 : ([0, 1, 2, 3, 5, 8, 9, 10, 13, 16, 17, 20, 21, 22, 23, 26, 27, 28, 31, 34, 37] : List Nat).all (fun pc => match xo_43 pc with | none => true | some r => decide (decode cX4_endBefore pc = .ok r)) = true := by decide +kernel
set_option maxRecDepth 100000 in
theorem xo_43_no : (List.range 38).all (fun pc => (xo_43 pc).isNone || (([0, 1, 2, 3, 5, 8, 9, 10, 13, 16, 17, 20, 21, 22, 23, 26, 27, 28, 31, 34, 37] : List Nat).contains pc)) = true := by decide +kernel
theorem xo_43_top (pc : Nat) (h : 38 ≤ pc) : xo_43 pc = none := if_pos h
theorem xo_43_ok (pc : Nat) (r : Instr × Nat) (h : xo_43 pc = some r) : decode cX4_endBefore pc = .ok r := by
  rcases Nat.lt_or_ge pc 38 with hl | hl
  · have h1 := List.all_eq_true.mp xo_43_no pc (List.mem_range.mpr hl)
    rw [h] at h1
    simp only [Option.isNone_some, Bool.false_or, Bool.or_eq_true, List.contains_iff_mem, or_assoc] at h1
    rcases h1 with h1
    · have h2 := List.all_eq_true.mp xo_43_c0 pc h1
      rw [h] at h2
      exact of_decide_eq_true h2
  · rw [show xo_43 pc = none from if_pos hl] at h; cases h
/-- X4_queue -/
def xo_44 (pc : Nat) : Option (Instr × Nat) := if 41 ≤ pc then none else if pc < 22 then (if pc < 12 then (if pc < 5 then (if pc < 1 then (if pc = 0 then some (.aload_n 0, 1) else none) else (if pc < 2 then (if pc = 1 then some (.iload_n 2, 1) else none) else (if pc = 2 then some (.invokevirtual 73, 3) else none))) else (if pc < 8 then (if pc < 7 then (if pc = 5 then some (.istore 5, 2) else none) else (if pc = 7 then some (.aload_n 0, 1) else none)) else (if pc < 11 then (if pc = 8 then some (.getfield 23, 3) else none) else (if pc = 11 then some (.iload_n 2, 1) else none)))) else (if pc < 16 then (if pc < 13 then (if pc = 12 then some (.aaload, 1) else none) else (if pc < 14 then (if pc = 13 then some (.iload_n 1, 1) else none) else (if pc = 14 then some (.iload 5, 2) else none))) else (if pc < 18 then (if pc < 17 then (if pc = 16 then some (.iastore, 1) else none) else (if pc = 17 then some (.aload_n 0, 1) else none)) else (if pc < 21 then (if pc = 18 then some (.getfield 28, 3) else none) else (if pc = 21 then some (.iload_n 2, 1) else none))))) else (if pc < 31 then (if pc < 25 then (if pc < 23 then (if pc = 22 then some (.aaload, 1) else none) else (if pc < 24 then (if pc = 23 then some (.iload_n 1, 1) else none) else (if pc = 24 then some (.iload_n 3, 1) else none))) else (if pc < 27 then (if pc < 26 then (if pc = 25 then some (.iastore, 1) else none) else (if pc = 26 then some (.aload_n 0, 1) else none)) else (if pc < 30 then (if pc = 27 then some (.getfield 31, 3) else none) else (if pc = 30 then some (.iload_n 2, 1) else none)))) else (if pc < 36 then (if pc < 33 then (if pc < 32 then (if pc = 31 then some (.aaload, 1) else none) else (if pc = 32 then some (.iload_n 1, 1) else none)) else (if pc < 35 then (if pc = 33 then some (.iload 4, 2) else none) else (if pc = 35 then some (.iastore, 1) else none))) else (if pc < 39 then (if pc < 38 then (if pc = 36 then some (.iload 5, 2) else none) else (if pc = 38 then some (.iconst 1, 1) else none)) else (if pc < 40 then (if pc = 39 then some (.iadd, 1) else none) else (if pc = 40 then some (.ireturn, 1) else none)))))
set_option maxRecDepth 100000 in
theorem xo_44_c0 : ([0, 1, 2, 5, 7, 8, 11, 12, 13, 14, 16, 17, 18, 21, 22, 23, 24, 25, 26, 27, 30, 31, 32, 33, 35, 36, 38, 39, 40] : List Nat).all (fun pc => match xo_44 pc with | none => true | some r => decide (decode cX4_queue pc = .ok r)) = true := by decide +kernel
set_option maxRecDepth 100000 in
theorem xo_44_no : (List.range 41).all (fun pc => (xo_44 pc).isNone || (([0, 1, 2, 5, 7, 8, 11, 12, 13, 14, 16, 17, 18, 21, 22, 23, 24, 25, 26, 27, 30, 31, 32, 33, 35, 36, 38, 39, 40] : List Nat).contains pc)) = true := by decide +kernel
theorem xo_44_top (pc : Nat) (h : 41 ≤ pc) : xo_44 pc = none := if_pos h
theorem xo_44_ok (pc : Nat) (r : Instr × Nat) (h : xo_44 pc = some r) : decode cX4_queue pc = .ok r := by
  rcases Nat.lt_or_ge pc 41 with hl | hl
  · have h1 := List.all_eq_true.mp xo_44_no pc (List.mem_range.mpr hl)
    rw [h] at h1
    simp only [Option.isNone_some, Bool.false_or, Bool.or_eq_true, List.contains_iff_mem, or_assoc] at h1
    rcases h1 with h1
    · have h2 := List.all_eq_true.mp xo_44_c0 pc h1
      rw [h] at h2
      exact of_decide_eq_true h2
  · rw [show xo_44 pc = none from if_pos hl] at h; cases h
/-- X4_whoIsAt -/
def xo_45 (pc : Nat) : Option (Instr × Nat) := if 40 ≤ pc then none else if pc < 21 then (if pc < 9 then (if pc < 3 then (if pc < 1 then (if pc = 0 then some (.iconst 0, 1) else none) else (if pc < 2 then (if pc = 1 then some (.istore_n 3, 1) else none) else (if pc = 2 then some (.iload_n 3, 1) else none))) else (if pc < 5 then (if pc = 3 then some (.bipush 20, 2) else none) else (if pc < 8 then (if pc = 5 then some (.if_icmp .ge 32, 3) else none) else (if pc = 8 then some (.aload_n 0, 1) else none)))) else (if pc < 14 then (if pc < 10 then (if pc = 9 then some (.iload_n 3, 1) else none) else (if pc < 11 then (if pc = 10 then some (.iload_n 1, 1) else none) else (if pc = 11 then some (.invokevirtual 52, 3) else none))) else (if pc < 17 then (if pc = 14 then some (.ifCond .eq 17, 3) else none) else (if pc < 18 then (if pc = 17 then some (.aload_n 0, 1) else none) else (if pc = 18 then some (.getfield 23, 3) else none))))) else (if pc < 29 then (if pc < 24 then (if pc < 22 then (if pc = 21 then some (.iload_n 1, 1) else none) else (if pc < 23 then (if pc = 22 then some (.aaload, 1) else none) else (if pc = 23 then some (.iload_n 3, 1) else none))) else (if pc < 25 then (if pc = 24 then some (.iaload, 1) else none) else (if pc < 26 then (if pc = 25 then some (.iload_n 2, 1) else none) else (if pc = 26 then some (.if_icmp .ne 5, 3) else none)))) else (if pc < 34 then (if pc < 30 then (if pc = 29 then some (.iload_n 3, 1) else none) else (if pc < 31 then (if pc = 30 then some (.ireturn, 1) else none) else (if pc = 31 then some (.iinc 3 1, 3) else none))) else (if pc < 37 then (if pc = 34 then some (.goto (-32), 3) else none) else (if pc < 39 then (if pc = 37 then some (.bipush (-6), 2) else none) else (if pc = 39 then some (.ireturn, 1) else none)))))
set_option maxRecDepth 100000 in
theorem xo_45_c0 : ([0, 1, 2, 3, 5, 8, 9, 10, 11, 14, 17, 18, 21, 22, 23, 24, 25, 26, 29, 30, 31, 34, 37, 39] : List Nat).all (fun pc => match xo_45 pc with | none => true | some r => decide (decode cX4_whoIsAt pc = .ok r)) = true := by decide +kernel
set_option maxRecDepth 100000 in
theorem xo_45_no : (List.range 40).all (fun pc => (xo_45 pc).isNone || (([0, 1, 2, 3, 5, 8, 9, 10, 11, 14, 17, 18, 21, 22, 23, 24, 25, 26, 29, 30, 31, 34, 37, 39] : List Nat).contains pc)) = true := by decide +kernel
theorem xo_45_top (pc : Nat) (h : 40 ≤ pc) : xo_45 pc = none := if_pos h
theorem xo_45_ok (pc : Nat) (r : Instr × Nat) (h : xo_45 pc = some r) : decode cX4_whoIsAt pc = .ok r := by
  rcases Nat.lt_or_ge pc 40 with hl | hl
  · have h1 := List.all_eq_true.mp xo_45_no pc (List.mem_range.mpr hl)
    rw [h] at h1
    simp only [Option.isNone_some, Bool.false_or, Bool.or_eq_true, List.contains_iff_mem, or_assoc] at h1
    rcases h1 with h1
    · have h2 := List.all_eq_true.mp xo_45_c0 pc h1
      rw [h] at h2
      exact of_decide_eq_true h2
  · rw [show xo_45 pc = none from if_pos hl] at h; cases h
/-- X6_isPerson -/
def xo_46 (pc : Nat) : Option (Instr × Nat) := if 17 ≤ pc then none else if pc < 8 then (if pc < 2 then (if pc < 1 then (if pc = 0 then some (.iconst 0, 1) else none) else (if pc = 1 then some (.iload_n 0, 1) else none)) else (if pc < 5 then (if pc = 2 then some (.if_icmp .gt 13, 3) else none) else (if pc < 6 then (if pc = 5 then some (.iload_n 0, 1) else none) else (if pc = 6 then some (.bipush 20, 2) else none)))) else (if pc < 12 then (if pc < 11 then (if pc = 8 then some (.if_icmp .ge 7, 3) else none) else (if pc = 11 then some (.iconst 1, 1) else none)) else (if pc < 15 then (if pc = 12 then some (.goto 4, 3) else none) else (if pc < 16 then (if pc = 15 then some (.iconst 0, 1) else none) else (if pc = 16 then some (.ireturn, 1) else none))))
set_option maxRecDepth 100000 in
theorem xo_46_c0 : ([0, 1, 2, 5, 6, 8, 11, 12, 15, 16] : List Nat).all (fun pc => match xo_46 pc with | none => true | some r => decide (decode cX6_isPerson pc = .ok r)) = true := by decide +kernel
set_option maxRecDepth 100000 in
theorem xo_46_no : (List.range 17).all (fun pc => (xo_46 pc).isNone || (([0, 1, 2, 5, 6, 8, 11, 12, 15, 16] : List Nat).contains pc)) = true := by decide +kernel
theorem xo_46_top (pc : Nat) (h : 17 ≤ pc) : xo_46 pc = none := if_pos h
theorem xo_46_ok (pc : Nat) (r : Instr × Nat) (h : xo_46 pc = some r) : decode cX6_isPerson pc = .ok r := by
  rcases Nat.lt_or_ge pc 17 with hl | hl
  · have h1 := List.all_eq_true.mp xo_46_no pc (List.mem_range.mpr hl)
    rw [h] at h1
    simp only [Option.isNone_some, Bool.false_or, Bool.or_eq_true, List.contains_iff_mem, or_assoc] at h1
    rcases h1 with h1
    · have h2 := List.all_eq_true.mp xo_46_c0 pc h1
      rw [h] at h2
      exact of_decide_eq_true h2
  · rw [show xo_46 pc = none from if_pos hl] at h; cases h
/-- X4_aboutPlace -/
def xo_47 (pc : Nat) : Option (Instr × Nat) := if 70 ≤ pc then none else if pc < 48 then (if pc < 13 then (if pc < 3 then (if pc < 1 then (if pc = 0 then some (.aload_n 0, 1) else none) else (if pc < 2 then (if pc = 1 then some (.iload_n 1, 1) else none) else (if pc = 2 then some (.iload_n 2, 1) else none))) else (if pc < 8 then (if pc < 6 then (if pc = 3 then some (.invokevirtual 76, 3) else none) else (if pc = 6 then some (.istore 4, 2) else none)) else (if pc < 10 then (if pc = 8 then some (.iload 4, 2) else none) else (if pc = 10 then some (.invokestatic 80, 3) else none)))) else (if pc < 19 then (if pc < 17 then (if pc < 16 then (if pc = 13 then some (.ifCond .ne 5, 3) else none) else (if pc = 16 then some (.iconst (-1), 1) else none)) else (if pc < 18 then (if pc = 17 then some (.ireturn, 1) else none) else (if pc = 18 then some (.iload_n 3, 1) else none))) else (if pc < 46 then (if pc < 44 then (if pc = 19 then some (.tableswitch 48 0 2 #[25, 28, 38], 25) else none) else (if pc = 44 then some (.iload 4, 2) else none)) else (if pc < 47 then (if pc = 46 then some (.ireturn, 1) else none) else (if pc = 47 then some (.aload_n 0, 1) else none))))) else (if pc < 58 then (if pc < 53 then (if pc < 51 then (if pc = 48 then some (.getfield 28, 3) else none) else (if pc < 52 then (if pc = 51 then some (.iload_n 1, 1) else none) else (if pc = 52 then some (.aaload, 1) else none))) else (if pc < 56 then (if pc < 55 then (if pc = 53 then some (.iload 4, 2) else none) else (if pc = 55 then some (.iaload, 1) else none)) else (if pc < 57 then (if pc = 56 then some (.ireturn, 1) else none) else (if pc = 57 then some (.aload_n 0, 1) else none)))) else (if pc < 65 then (if pc < 62 then (if pc < 61 then (if pc = 58 then some (.getfield 31, 3) else none) else (if pc = 61 then some (.iload_n 1, 1) else none)) else (if pc < 63 then (if pc = 62 then some (.aaload, 1) else none) else (if pc = 63 then some (.iload 4, 2) else none))) else (if pc < 67 then (if pc < 66 then (if pc = 65 then some (.iaload, 1) else none) else (if pc = 66 then some (.ireturn, 1) else none)) else (if pc < 69 then (if pc = 67 then some (.bipush (-2), 2) else none) else (if pc = 69 then some (.ireturn, 1) else none)))))
set_option maxRecDepth 100000 in
theorem xo_47_c0 : ([0, 1, 2, 3, 6, 8, 10, 13, 16, 17, 18, 19, 44, 46, 47, 48, 51, 52, 53, 55, 56, 57, 58, 61, 62, 63, 65, 66, 67, 69] : List Nat).all (fun pc => match xo_47 pc with | none => true | some r => decide (decode cX4_aboutPlace pc = .ok r)) = true := by decide +kernel
set_option maxRecDepth 100000 in
theorem xo_47_no : (List.range 70).all (fun pc => (xo_47 pc).isNone || (([0, 1, 2, 3, 6, 8, 10, 13, 16, 17, 18, 19, 44, 46, 47, 48, 51, 52, 53, 55, 56, 57, 58, 61, 62, 63, 65, 66, 67, 69] : List Nat).contains pc)) = true := by decide +kernel
theorem xo_47_top (pc : Nat) (h : 70 ≤ pc) : xo_47 pc = none := if_pos h
theorem xo_47_ok (pc : Nat) (r : Instr × Nat) (h : xo_47 pc = some r) : decode cX4_aboutPlace pc = .ok r := by
  rcases Nat.lt_or_ge pc 70 with hl | hl
  · have h1 := List.all_eq_true.mp xo_47_no pc (List.mem_range.mpr hl)
    rw [h] at h1
    simp only [Option.isNone_some, Bool.false_or, Bool.or_eq_true, List.contains_iff_mem, or_assoc] at h1
    rcases h1 with h1
    · have h2 := List.all_eq_true.mp xo_47_c0 pc h1
      rw [h] at h2
      exact of_decide_eq_true h2
  · rw [show xo_47 pc = none from if_pos hl] at h; cases h
/-- X6_isFrom -/
def xo_48 (pc : Nat) : Option (Instr × Nat) := if 16 ≤ pc then none else if pc < 7 then (if pc < 2 then (if pc < 1 then (if pc = 0 then some (.iload_n 0, 1) else none) else (if pc = 1 then some (.iload_n 1, 1) else none)) else (if pc < 5 then (if pc = 2 then some (.if_icmp .gt 12, 3) else none) else (if pc < 6 then (if pc = 5 then some (.iload_n 1, 1) else none) else (if pc = 6 then some (.iload_n 2, 1) else none)))) else (if pc < 11 then (if pc < 10 then (if pc = 7 then some (.if_icmp .gt 7, 3) else none) else (if pc = 10 then some (.iconst 1, 1) else none)) else (if pc < 14 then (if pc = 11 then some (.goto 4, 3) else none) else (if pc < 15 then (if pc = 14 then some (.iconst 0, 1) else none) else (if pc = 15 then some (.ireturn, 1) else none))))
set_option maxRecDepth 100000 in
theorem xo_48_c0 : ([0, 1, 2, 5, 6, 7, 10, 11, 14, 15] : List Nat).all (fun pc => match xo_48 pc with | none => true | some r => decide (decode cX6_isFrom pc = .ok r)) = true := by decide +kernel
set_option maxRecDepth 100000 in
theorem xo_48_no : (List.range 16).all (fun pc => (xo_48 pc).isNone || (([0, 1, 2, 5, 6, 7, 10, 11, 14, 15] : List Nat).contains pc)) = true := by decide +kernel
theorem xo_48_top (pc : Nat) (h : 16 ≤ pc) : xo_48 pc = none := if_pos h
theorem xo_48_ok (pc : Nat) (r : Instr × Nat) (h : xo_48 pc = some r) : decode cX6_isFrom pc = .ok r := by
  rcases Nat.lt_or_ge pc 16 with hl | hl
  · have h1 := List.all_eq_true.mp xo_48_no pc (List.mem_range.mpr hl)
    rw [h] at h1
    simp only [Option.isNone_some, Bool.false_or, Bool.or_eq_true, List.contains_iff_mem, or_assoc] at h1
    rcases h1 with h1
    · have h2 := List.all_eq_true.mp xo_48_c0 pc h1
      rw [h] at h2
      exact of_decide_eq_true h2
  · rw [show xo_48 pc = none from if_pos hl] at h; cases h
/-- J6_bitCount_0f7a4 -/
def xo_49 (pc : Nat) : Option (Instr × Nat) := if 53 ≤ pc then none else if pc < 27 then (if pc < 14 then (if pc < 7 then (if pc < 2 then (if pc < 1 then (if pc = 0 then some (.iload_n 0, 1) else none) else (if pc = 1 then some (.iload_n 0, 1) else none)) else (if pc < 3 then (if pc = 2 then some (.iconst 1, 1) else none) else (if pc < 4 then (if pc = 3 then some (.iushr, 1) else none) else (if pc = 4 then some (.ldc_w 265, 3) else none)))) else (if pc < 9 then (if pc < 8 then (if pc = 7 then some (.iand, 1) else none) else (if pc = 8 then some (.isub, 1) else none)) else (if pc < 10 then (if pc = 9 then some (.istore_n 0, 1) else none) else (if pc < 11 then (if pc = 10 then some (.iload_n 0, 1) else none) else (if pc = 11 then some (.ldc_w 266, 3) else none))))) else (if pc < 21 then (if pc < 16 then (if pc < 15 then (if pc = 14 then some (.iand, 1) else none) else (if pc = 15 then some (.iload_n 0, 1) else none)) else (if pc < 17 then (if pc = 16 then some (.iconst 2, 1) else none) else (if pc < 18 then (if pc = 17 then some (.iushr, 1) else none) else (if pc = 18 then some (.ldc_w 266, 3) else none)))) else (if pc < 24 then (if pc < 22 then (if pc = 21 then some (.iand, 1) else none) else (if pc < 23 then (if pc = 22 then some (.iadd, 1) else none) else (if pc = 23 then some (.istore_n 0, 1) else none))) else (if pc < 25 then (if pc = 24 then some (.iload_n 0, 1) else none) else (if pc < 26 then (if pc = 25 then some (.iload_n 0, 1) else none) else (if pc = 26 then some (.iconst 4, 1) else none)))))) else (if pc < 40 then (if pc < 34 then (if pc < 29 then (if pc < 28 then (if pc = 27 then some (.iushr, 1) else none) else (if pc = 28 then some (.iadd, 1) else none)) else (if pc < 32 then (if pc = 29 then some (.ldc_w 267, 3) else none) else (if pc < 33 then (if pc = 32 then some (.iand, 1) else none) else (if pc = 33 then some (.istore_n 0, 1) else none)))) else (if pc < 36 then (if pc < 35 then (if pc = 34 then some (.iload_n 0, 1) else none) else (if pc = 35 then some (.iload_n 0, 1) else none)) else (if pc < 38 then (if pc = 36 then some (.bipush 8, 2) else none) else (if pc < 39 then (if pc = 38 then some (.iushr, 1) else none) else (if pc = 39 then some (.iadd, 1) else none))))) else (if pc < 46 then (if pc < 42 then (if pc < 41 then (if pc = 40 then some (.istore_n 0, 1) else none) else (if pc = 41 then some (.iload_n 0, 1) else none)) else (if pc < 43 then (if pc = 42 then some (.iload_n 0, 1) else none) else (if pc < 45 then (if pc = 43 then some (.bipush 16, 2) else none) else (if pc = 45 then some (.iushr, 1) else none)))) else (if pc < 49 then (if pc < 47 then (if pc = 46 then some (.iadd, 1) else none) else (if pc < 48 then (if pc = 47 then some (.istore_n 0, 1) else none) else (if pc = 48 then some (.iload_n 0, 1) else none))) else (if pc < 51 then (if pc = 49 then some (.bipush 63, 2) else none) else (if pc < 52 then (if pc = 51 then some (.iand, 1) else none) else (if pc = 52 then some (.ireturn, 1) else none))))))
set_option maxRecDepth 100000 in
theorem xo_49_c0 : ([0, 1, 2, 3, 4, 7, 8, 9, 10, 11, 14, 15, 16, 17, 18, 21, 22, 23, 24, 25, 26, 27, 28, 29, 32, 33, 34, 35, 36, 38, 39, 40, 41, 42, 43, 45, 46, 47, 48, 49, 51, 52] : List Nat).all (fun pc => match xo_49 pc with | none => true | some r => decide (decode cJ6_bitCount_0f7a4 pc = .ok r)) = true := by decide +kernel
set_option maxRecDepth 100000 in
theorem xo_49_no : (List.range 53).all (fun pc => (xo_49 pc).isNone || (([0, 1, 2, 3, 4, 7, 8, 9, 10, 11, 14, 15, 16, 17, 18, 21, 22, 23, 24, 25, 26, 27, 28, 29, 32, 33, 34, 35, 36, 38, 39, 40, 41, 42, 43, 45, 46, 47, 48, 49, 51, 52] : List Nat).contains pc)) = true := by decide +kernel
theorem xo_49_top (pc : Nat) (h : 53 ≤ pc) : xo_49 pc = none := if_pos h
theorem xo_49_ok (pc : Nat) (r : Instr × Nat) (h : xo_49 pc = some r) : decode cJ6_bitCount_0f7a4 pc = .ok r := by
  rcases Nat.lt_or_ge pc 53 with hl | hl
  · have h1 := List.all_eq_true.mp xo_49_no pc (List.mem_range.mpr hl)
    rw [h] at h1
    simp only [Option.isNone_some, Bool.false_or, Bool.or_eq_true, List.contains_iff_mem, or_assoc] at h1
    rcases h1 with h1
    · have h2 := List.all_eq_true.mp xo_49_c0 pc h1
      rw [h] at h2
      exact of_decide_eq_true h2
  · rw [show xo_49 pc = none from if_pos hl] at h; cases h
/-- X5_permitsToGive -/
def xo_50 (pc : Nat) : Option (Instr × Nat) := if 17 ≤ pc then none else if pc < 9 then (if pc < 4 then (if pc < 1 then (if pc = 0 then some (.aload_n 0, 1) else none) else (if pc = 1 then some (.getfield 23, 3) else none)) else (if pc < 5 then (if pc = 4 then some (.iload_n 1, 1) else none) else (if pc < 6 then (if pc = 5 then some (.iaload, 1) else none) else (if pc = 6 then some (.invokestatic 159, 3) else none)))) else (if pc < 14 then (if pc < 10 then (if pc = 9 then some (.aload_n 0, 1) else none) else (if pc < 13 then (if pc = 10 then some (.getfield 18, 3) else none) else (if pc = 13 then some (.iconst 0, 1) else none))) else (if pc < 15 then (if pc = 14 then some (.iaload, 1) else none) else (if pc < 16 then (if pc = 15 then some (.iadd, 1) else none) else (if pc = 16 then some (.ireturn, 1) else none))))
set_option maxRecDepth 100000 in
theorem xo_50_c0 : ([0, 1, 4, 5, 6, 9, 10, 13, 14, 15, 16] : List Nat).all (fun pc => match xo_50 pc with | none => true | some r => decide (decode cX5_permitsToGive pc = .ok r)) = true := by decide +kernel
set_option maxRecDepth 100000 in
theorem xo_50_no : (List.range 17).all (fun pc => (xo_50 pc).isNone || (([0, 1, 4, 5, 6, 9, 10, 13, 14, 15, 16] : List Nat).contains pc)) = true := by decide +kernel
theorem xo_50_top (pc : Nat) (h : 17 ≤ pc) : xo_50 pc = none := if_pos h
theorem xo_50_ok (pc : Nat) (r : Instr × Nat) (h : xo_50 pc = some r) : decode cX5_permitsToGive pc = .ok r := by
  rcases Nat.lt_or_ge pc 17 with hl | hl
  · have h1 := List.all_eq_true.mp xo_50_no pc (List.mem_range.mpr hl)
    rw [h] at h1
    simp only [Option.isNone_some, Bool.false_or, Bool.or_eq_true, List.contains_iff_mem, or_assoc] at h1
    rcases h1 with h1
    · have h2 := List.all_eq_true.mp xo_50_c0 pc h1
      rw [h] at h2
      exact of_decide_eq_true h2
  · rw [show xo_50 pc = none from if_pos hl] at h; cases h
/-- X5_moveUp -/
def xo_51 (pc : Nat) : Option (Instr × Nat) := if 87 ≤ pc then none else if pc < 35 then (if pc < 17 then (if pc < 7 then (if pc < 2 then (if pc < 1 then (if pc = 0 then some (.iconst 0, 1) else none) else (if pc = 1 then some (.istore_n 1, 1) else none)) else (if pc < 3 then (if pc = 2 then some (.iload_n 1, 1) else none) else (if pc < 4 then (if pc = 3 then some (.iconst 3, 1) else none) else (if pc = 4 then some (.if_icmp .ge 82, 3) else none)))) else (if pc < 12 then (if pc < 8 then (if pc = 7 then some (.aload_n 0, 1) else none) else (if pc < 9 then (if pc = 8 then some (.iload_n 1, 1) else none) else (if pc = 9 then some (.invokevirtual 88, 3) else none))) else (if pc < 13 then (if pc = 12 then some (.aload_n 0, 1) else none) else (if pc < 16 then (if pc = 13 then some (.getfield 29, 3) else none) else (if pc = 16 then some (.iload_n 1, 1) else none))))) else (if pc < 25 then (if pc < 22 then (if pc < 20 then (if pc = 17 then some (.invokevirtual 84, 3) else none) else (if pc < 21 then (if pc = 20 then some (.isub, 1) else none) else (if pc = 21 then some (.istore_n 2, 1) else none))) else (if pc < 23 then (if pc = 22 then some (.iconst 0, 1) else none) else (if pc < 24 then (if pc = 23 then some (.istore_n 3, 1) else none) else (if pc = 24 then some (.iload_n 3, 1) else none)))) else (if pc < 30 then (if pc < 26 then (if pc = 25 then some (.iload_n 2, 1) else none) else (if pc < 29 then (if pc = 26 then some (.if_icmp .ge 54, 3) else none) else (if pc = 29 then some (.aload_n 0, 1) else none))) else (if pc < 33 then (if pc = 30 then some (.getfield 29, 3) else none) else (if pc < 34 then (if pc = 33 then some (.iload_n 1, 1) else none) else (if pc = 34 then some (.iconst 0, 1) else none)))))) else (if pc < 62 then (if pc < 49 then (if pc < 42 then (if pc < 38 then (if pc = 35 then some (.invokevirtual 176, 3) else none) else (if pc < 40 then (if pc = 38 then some (.istore 4, 2) else none) else (if pc = 40 then some (.iload 4, 2) else none))) else (if pc < 45 then (if pc = 42 then some (.invokestatic 70, 3) else none) else (if pc < 48 then (if pc = 45 then some (.ifCond .eq 29, 3) else none) else (if pc = 48 then some (.aload_n 0, 1) else none)))) else (if pc < 55 then (if pc < 52 then (if pc = 49 then some (.getfield 29, 3) else none) else (if pc < 54 then (if pc = 52 then some (.iload 4, 2) else none) else (if pc = 54 then some (.iload_n 1, 1) else none))) else (if pc < 56 then (if pc = 55 then some (.aload_n 0, 1) else none) else (if pc < 59 then (if pc = 56 then some (.getfield 29, 3) else none) else (if pc = 59 then some (.getfield 180, 3) else none))))) else (if pc < 71 then (if pc < 66 then (if pc < 63 then (if pc = 62 then some (.iload_n 1, 1) else none) else (if pc < 64 then (if pc = 63 then some (.aaload, 1) else none) else (if pc = 64 then some (.iload 4, 2) else none))) else (if pc < 67 then (if pc = 66 then some (.iaload, 1) else none) else (if pc < 68 then (if pc = 67 then some (.aload_n 0, 1) else none) else (if pc = 68 then some (.getfield 53, 3) else none)))) else (if pc < 80 then (if pc < 74 then (if pc = 71 then some (.invokevirtual 94, 3) else none) else (if pc < 77 then (if pc = 74 then some (.iinc 3 1, 3) else none) else (if pc = 77 then some (.goto (-53), 3) else none))) else (if pc < 83 then (if pc = 80 then some (.iinc 1 1, 3) else none) else (if pc < 86 then (if pc = 83 then some (.goto (-81), 3) else none) else (if pc = 86 then some (.return_, 1) else none))))))
set_option maxRecDepth 100000 in
theorem xo_51_c0 : ([0, 1, 2, 3, 4, 7, 8, 9, 12, 13, 16, 17, 20, 21, 22, 23, 24, 25, 26, 29, 30, 33, 34, 35, 38, 40, 42, 45, 48, 49, 52, 54, 55, 56, 59, 62, 63, 64, 66, 67, 68, 71, 74, 77, 80, 83, 86] : List Nat).all (fun pc => match xo_51 pc with | none => true | some r => decide (decode cX5_moveUp pc = .ok r)) = true := by decide +kernel
set_option maxRecDepth 100000 in
theorem xo_51_no : (List.range 87).all (fun pc => (xo_51 pc).isNone || (([0, 1, 2, 3, 4, 7, 8, 9, 12, 13, 16, 17, 20, 21, 22, 23, 24, 25, 26, 29, 30, 33, 34, 35, 38, 40, 42, 45, 48, 49, 52, 54, 55, 56, 59, 62, 63, 64, 66, 67, 68, 71, 74, 77, 80, 83, 86] : List Nat).contains pc)) = true := by decide +kernel
theorem xo_51_top (pc : Nat) (h : 87 ≤ pc) : xo_51 pc = none := if_pos h
theorem xo_51_ok (pc : Nat) (r : Instr × Nat) (h : xo_51 pc = some r) : decode cX5_moveUp pc = .ok r := by
  rcases Nat.lt_or_ge pc 87 with hl | hl
  · have h1 := List.all_eq_true.mp xo_51_no pc (List.mem_range.mpr hl)
    rw [h] at h1
    simp only [Option.isNone_some, Bool.false_or, Bool.or_eq_true, List.contains_iff_mem, or_assoc] at h1
    rcases h1 with h1
    · have h2 := List.all_eq_true.mp xo_51_c0 pc h1
      rw [h] at h2
      exact of_decide_eq_true h2
  · rw [show xo_51 pc = none from if_pos hl] at h; cases h
/-- X5_changeSetting -/
def xo_52 (pc : Nat) : Option (Instr × Nat) := if 49 ≤ pc then none else if pc < 28 then (if pc < 13 then (if pc < 3 then (if pc < 1 then (if pc = 0 then some (.iconst 0, 1) else none) else (if pc < 2 then (if pc = 1 then some (.iload_n 1, 1) else none) else (if pc = 2 then some (.iconst 3, 1) else none))) else (if pc < 9 then (if pc < 6 then (if pc = 3 then some (.invokestatic 57, 3) else none) else (if pc = 6 then some (.ifCond .eq 20, 3) else none)) else (if pc < 12 then (if pc = 9 then some (.getstatic 61, 3) else none) else (if pc = 12 then some (.iload_n 1, 1) else none)))) else (if pc < 19 then (if pc < 15 then (if pc < 14 then (if pc = 13 then some (.iaload, 1) else none) else (if pc = 14 then some (.iload_n 2, 1) else none)) else (if pc < 18 then (if pc = 15 then some (.getstatic 64, 3) else none) else (if pc = 18 then some (.iload_n 1, 1) else none))) else (if pc < 23 then (if pc < 20 then (if pc = 19 then some (.iaload, 1) else none) else (if pc = 20 then some (.invokestatic 57, 3) else none)) else (if pc < 26 then (if pc = 23 then some (.ifCond .ne 6, 3) else none) else (if pc = 26 then some (.bipush (-2), 2) else none))))) else (if pc < 37 then (if pc < 33 then (if pc < 29 then (if pc = 28 then some (.ireturn, 1) else none) else (if pc < 30 then (if pc = 29 then some (.aload_n 0, 1) else none) else (if pc = 30 then some (.getfield 18, 3) else none))) else (if pc < 35 then (if pc < 34 then (if pc = 33 then some (.iload_n 1, 1) else none) else (if pc = 34 then some (.iaload, 1) else none)) else (if pc < 36 then (if pc = 35 then some (.istore_n 3, 1) else none) else (if pc = 36 then some (.aload_n 0, 1) else none)))) else (if pc < 43 then (if pc < 41 then (if pc < 40 then (if pc = 37 then some (.getfield 18, 3) else none) else (if pc = 40 then some (.iload_n 1, 1) else none)) else (if pc < 42 then (if pc = 41 then some (.iload_n 2, 1) else none) else (if pc = 42 then some (.iastore, 1) else none))) else (if pc < 47 then (if pc < 44 then (if pc = 43 then some (.aload_n 0, 1) else none) else (if pc = 44 then some (.invokevirtual 67, 3) else none)) else (if pc < 48 then (if pc = 47 then some (.iload_n 3, 1) else none) else (if pc = 48 then some (.ireturn, 1) else none)))))
set_option maxRecDepth 100000 in
theorem xo_52_c0 : ([0, 1, 2, 3, 6, 9, 12, 13, 14, 15, 18, 19, 20, 23, 26, 28, 29, 30, 33, 34, 35, 36, 37, 40, 41, 42, 43, 44, 47, 48] : List Nat).all (fun pc => match xo_52 pc with | none => true | some r => decide (decode cX5_changeSetting pc = .ok r)) = true := by decide +kernel
set_option maxRecDepth 100000 in
theorem xo_52_no : (List.range 49).all (fun pc => (xo_52 pc).isNone || (([0, 1, 2, 3, 6, 9, 12, 13, 14, 15, 18, 19, 20, 23, 26, 28, 29, 30, 33, 34, 35, 36, 37, 40, 41, 42, 43, 44, 47, 48] : List Nat).contains pc)) = true := by decide +kernel
theorem xo_52_top (pc : Nat) (h : 49 ≤ pc) : xo_52 pc = none := if_pos h
theorem xo_52_ok (pc : Nat) (r : Instr × Nat) (h : xo_52 pc = some r) : decode cX5_changeSetting pc = .ok r := by
  rcases Nat.lt_or_ge pc 49 with hl | hl
  · have h1 := List.all_eq_true.mp xo_52_no pc (List.mem_range.mpr hl)
    rw [h] at h1
    simp only [Option.isNone_some, Bool.false_or, Bool.or_eq_true, List.contains_iff_mem, or_assoc] at h1
    rcases h1 with h1
    · have h2 := List.all_eq_true.mp xo_52_c0 pc h1
      rw [h] at h2
      exact of_decide_eq_true h2
  · rw [show xo_52 pc = none from if_pos hl] at h; cases h
/-- X5_askFor -/
def xo_53 (pc : Nat) : Option (Instr × Nat) := if 113 ≤ pc then none else if pc < 59 then (if pc < 29 then (if pc < 15 then (if pc < 7 then (if pc < 1 then (if pc = 0 then some (.iload_n 1, 1) else none) else (if pc < 4 then (if pc = 1 then some (.invokestatic 70, 3) else none) else (if pc = 4 then some (.ifCond .eq 10, 3) else none))) else (if pc < 11 then (if pc < 8 then (if pc = 7 then some (.iload_n 2, 1) else none) else (if pc = 8 then some (.invokestatic 74, 3) else none)) else (if pc < 14 then (if pc = 11 then some (.ifCond .ne 5, 3) else none) else (if pc = 14 then some (.iconst (-1), 1) else none)))) else (if pc < 20 then (if pc < 17 then (if pc < 16 then (if pc = 15 then some (.ireturn, 1) else none) else (if pc = 16 then some (.iconst 1, 1) else none)) else (if pc < 18 then (if pc = 17 then some (.iload_n 3, 1) else none) else (if pc = 18 then some (.bipush 99, 2) else none))) else (if pc < 26 then (if pc < 23 then (if pc = 20 then some (.invokestatic 57, 3) else none) else (if pc = 23 then some (.ifCond .ne 6, 3) else none)) else (if pc < 28 then (if pc = 26 then some (.bipush (-2), 2) else none) else (if pc = 28 then some (.ireturn, 1) else none))))) else (if pc < 44 then (if pc < 34 then (if pc < 30 then (if pc = 29 then some (.aload_n 0, 1) else none) else (if pc < 33 then (if pc = 30 then some (.getfield 29, 3) else none) else (if pc = 33 then some (.iload_n 1, 1) else none))) else (if pc < 40 then (if pc < 37 then (if pc = 34 then some (.invokevirtual 77, 3) else none) else (if pc = 37 then some (.ifCond .ne 15, 3) else none)) else (if pc < 41 then (if pc = 40 then some (.aload_n 0, 1) else none) else (if pc = 41 then some (.getfield 29, 3) else none)))) else (if pc < 52 then (if pc < 46 then (if pc < 45 then (if pc = 44 then some (.iload_n 1, 1) else none) else (if pc = 45 then some (.iload_n 2, 1) else none)) else (if pc < 49 then (if pc = 46 then some (.invokevirtual 80, 3) else none) else (if pc = 49 then some (.ifCond .eq 6, 3) else none))) else (if pc < 55 then (if pc < 54 then (if pc = 52 then some (.bipush (-5), 2) else none) else (if pc = 54 then some (.ireturn, 1) else none)) else (if pc < 56 then (if pc = 55 then some (.aload_n 0, 1) else none) else (if pc = 56 then some (.getfield 29, 3) else none)))))) else (if pc < 88 then (if pc < 72 then (if pc < 64 then (if pc < 60 then (if pc = 59 then some (.iload_n 2, 1) else none) else (if pc < 63 then (if pc = 60 then some (.invokevirtual 84, 3) else none) else (if pc = 63 then some (.aload_n 0, 1) else none))) else (if pc < 68 then (if pc < 65 then (if pc = 64 then some (.iload_n 2, 1) else none) else (if pc = 65 then some (.invokevirtual 88, 3) else none)) else (if pc < 71 then (if pc = 68 then some (.if_icmp .ge 30, 3) else none) else (if pc = 71 then some (.aload_n 0, 1) else none)))) else (if pc < 82 then (if pc < 76 then (if pc < 75 then (if pc = 72 then some (.getfield 29, 3) else none) else (if pc = 75 then some (.iload_n 2, 1) else none)) else (if pc < 79 then (if pc = 76 then some (.invokevirtual 91, 3) else none) else (if pc = 79 then some (.ifCond .ne 19, 3) else none))) else (if pc < 86 then (if pc < 83 then (if pc = 82 then some (.aload_n 0, 1) else none) else (if pc = 83 then some (.getfield 29, 3) else none)) else (if pc < 87 then (if pc = 86 then some (.iload_n 1, 1) else none) else (if pc = 87 then some (.iload_n 2, 1) else none))))) else (if pc < 99 then (if pc < 93 then (if pc < 89 then (if pc = 88 then some (.iload_n 3, 1) else none) else (if pc < 90 then (if pc = 89 then some (.aload_n 0, 1) else none) else (if pc = 90 then some (.getfield 53, 3) else none))) else (if pc < 97 then (if pc < 96 then (if pc = 93 then some (.invokevirtual 94, 3) else none) else (if pc = 96 then some (.iconst 0, 1) else none)) else (if pc < 98 then (if pc = 97 then some (.ireturn, 1) else none) else (if pc = 98 then some (.aload_n 0, 1) else none)))) else (if pc < 105 then (if pc < 103 then (if pc < 102 then (if pc = 99 then some (.getfield 29, 3) else none) else (if pc = 102 then some (.iload_n 1, 1) else none)) else (if pc < 104 then (if pc = 103 then some (.iload_n 2, 1) else none) else (if pc = 104 then some (.iload_n 3, 1) else none))) else (if pc < 109 then (if pc < 106 then (if pc = 105 then some (.aload_n 0, 1) else none) else (if pc = 106 then some (.getfield 53, 3) else none)) else (if pc < 112 then (if pc = 109 then some (.invokevirtual 98, 3) else none) else (if pc = 112 then some (.ireturn, 1) else none))))))
set_option maxRecDepth 100000 in
theorem xo_53_c0 : ([0, 1, 4, 7, 8, 11, 14, 15, 16, 17, 18, 20, 23, 26, 28, 29, 30, 33, 34, 37, 40, 41, 44, 45, 46, 49, 52, 54, 55, 56, 59, 60, 63, 64, 65, 68, 71, 72, 75, 76, 79, 82, 83, 86] : List Nat).all (fun pc => match xo_53 pc with | none => true | some r => decide (decode cX5_askFor pc = .ok r)) = true := by decide +kernel
set_option maxRecDepth 100000 in
theorem xo_53_c1 : ([87, 88, 89, 90, 93, 96, 97, 98, 99, 102, 103, 104, 105, 106, 109, 112] : List Nat).all (fun pc => match xo_53 pc with | none => true | some r => decide (decode cX5_askFor pc = .ok r)) = true := by decide +kernel
set_option maxRecDepth 100000 in
theorem xo_53_no : (List.range 113).all (fun pc => (xo_53 pc).isNone || (([0, 1, 4, 7, 8, 11, 14, 15, 16, 17, 18, 20, 23, 26, 28, 29, 30, 33, 34, 37, 40, 41, 44, 45, 46, 49, 52, 54, 55, 56, 59, 60, 63, 64, 65, 68, 71, 72, 75, 76, 79, 82, 83, 86] : List Nat).contains pc || ([87, 88, 89, 90, 93, 96, 97, 98, 99, 102, 103, 104, 105, 106, 109, 112] : List Nat).contains pc)) = true := by decide +kernel
theorem xo_53_top (pc : Nat) (h : 113 ≤ pc) : xo_53 pc = none := if_pos h
theorem xo_53_ok (pc : Nat) (r : Instr × Nat) (h : xo_53 pc = some r) : decode cX5_askFor pc = .ok r := by
  rcases Nat.lt_or_ge pc 113 with hl | hl
  · have h1 := List.all_eq_true.mp xo_53_no pc (List.mem_range.mpr hl)
    rw [h] at h1
    simp only [Option.isNone_some, Bool.false_or, Bool.or_eq_true, List.contains_iff_mem, or_assoc] at h1
    rcases h1 with h1 | h1
    · have h2 := List.all_eq_true.mp xo_53_c0 pc h1
      rw [h] at h2
      exact of_decide_eq_true h2
    · have h2 := List.all_eq_true.mp xo_53_c1 pc h1
      rw [h] at h2
      exact of_decide_eq_true h2
  · rw [show xo_53 pc = none from if_pos hl] at h; cases h
/-- X5_giveUpAll -/
def xo_54 (pc : Nat) : Option (Instr × Nat) := if 88 ≤ pc then none else if pc < 46 then (if pc < 21 then (if pc < 9 then (if pc < 4 then (if pc < 1 then (if pc = 0 then some (.iload_n 1, 1) else none) else (if pc = 1 then some (.invokestatic 70, 3) else none)) else (if pc < 7 then (if pc = 4 then some (.ifCond .ne 5, 3) else none) else (if pc < 8 then (if pc = 7 then some (.iconst (-1), 1) else none) else (if pc = 8 then some (.ireturn, 1) else none)))) else (if pc < 14 then (if pc < 10 then (if pc = 9 then some (.aload_n 0, 1) else none) else (if pc < 13 then (if pc = 10 then some (.getfield 29, 3) else none) else (if pc = 13 then some (.iload_n 1, 1) else none))) else (if pc < 17 then (if pc = 14 then some (.invokevirtual 77, 3) else none) else (if pc < 20 then (if pc = 17 then some (.ifCond .ne 17, 3) else none) else (if pc = 20 then some (.aload_n 0, 1) else none))))) else (if pc < 34 then (if pc < 28 then (if pc < 24 then (if pc = 21 then some (.getfield 29, 3) else none) else (if pc < 25 then (if pc = 24 then some (.iload_n 1, 1) else none) else (if pc = 25 then some (.invokevirtual 102, 3) else none))) else (if pc < 31 then (if pc = 28 then some (.ifCond .ne 6, 3) else none) else (if pc < 33 then (if pc = 31 then some (.bipush (-5), 2) else none) else (if pc = 33 then some (.ireturn, 1) else none)))) else (if pc < 39 then (if pc < 35 then (if pc = 34 then some (.aload_n 0, 1) else none) else (if pc < 38 then (if pc = 35 then some (.getfield 29, 3) else none) else (if pc = 38 then some (.iload_n 1, 1) else none))) else (if pc < 42 then (if pc = 39 then some (.invokevirtual 77, 3) else none) else (if pc < 45 then (if pc = 42 then some (.ifCond .eq 22, 3) else none) else (if pc = 45 then some (.aload_n 0, 1) else none)))))) else (if pc < 66 then (if pc < 58 then (if pc < 53 then (if pc < 49 then (if pc = 46 then some (.getfield 29, 3) else none) else (if pc < 52 then (if pc = 49 then some (.getfield 105, 3) else none) else (if pc = 52 then some (.iload_n 1, 1) else none))) else (if pc < 54 then (if pc = 53 then some (.iaload, 1) else none) else (if pc < 55 then (if pc = 54 then some (.aload_n 0, 1) else none) else (if pc = 55 then some (.getfield 53, 3) else none)))) else (if pc < 61 then (if pc < 59 then (if pc = 58 then some (.isub, 1) else none) else (if pc < 60 then (if pc = 59 then some (.iconst 1, 1) else none) else (if pc = 60 then some (.iadd, 1) else none))) else (if pc < 64 then (if pc = 61 then some (.goto 4, 3) else none) else (if pc < 65 then (if pc = 64 then some (.iconst 0, 1) else none) else (if pc = 65 then some (.istore_n 2, 1) else none))))) else (if pc < 78 then (if pc < 71 then (if pc < 67 then (if pc = 66 then some (.aload_n 0, 1) else none) else (if pc < 70 then (if pc = 67 then some (.getfield 29, 3) else none) else (if pc = 70 then some (.iload_n 1, 1) else none))) else (if pc < 74 then (if pc = 71 then some (.invokevirtual 108, 3) else none) else (if pc < 75 then (if pc = 74 then some (.aload_n 0, 1) else none) else (if pc = 75 then some (.getfield 29, 3) else none)))) else (if pc < 83 then (if pc < 79 then (if pc = 78 then some (.iload_n 1, 1) else none) else (if pc < 82 then (if pc = 79 then some (.invokevirtual 112, 3) else none) else (if pc = 82 then some (.aload_n 0, 1) else none))) else (if pc < 86 then (if pc = 83 then some (.invokevirtual 67, 3) else none) else (if pc < 87 then (if pc = 86 then some (.iload_n 2, 1) else none) else (if pc = 87 then some (.ireturn, 1) else none))))))
set_option maxRecDepth 100000 in
theorem xo_54_c0 : ([0, 1, 4, 7, 8, 9, 10, 13, 14, 17, 20, 21, 24, 25, 28, 31, 33, 34, 35, 38, 39, 42, 45, 46, 49, 52, 53, 54, 55, 58, 59, 60, 61, 64, 65, 66, 67, 70, 71, 74, 75, 78, 79, 82, 83, 86, 87] : List Nat).all (fun pc => match xo_54 pc with | none => true | some r => decide (decode cX5_giveUpAll pc = .ok r)) = true := by decide +kernel
set_option maxRecDepth 100000 in
theorem xo_54_no : (List.range 88).all (fun pc => (xo_54 pc).isNone || (([0, 1, 4, 7, 8, 9, 10, 13, 14, 17, 20, 21, 24, 25, 28, 31, 33, 34, 35, 38, 39, 42, 45, 46, 49, 52, 53, 54, 55, 58, 59, 60, 61, 64, 65, 66, 67, 70, 71, 74, 75, 78, 79, 82, 83, 86, 87] : List Nat).contains pc)) = true := by decide +kernel
theorem xo_54_top (pc : Nat) (h : 88 ≤ pc) : xo_54 pc = none := if_pos h
theorem xo_54_ok (pc : Nat) (r : Instr × Nat) (h : xo_54 pc = some r) : decode cX5_giveUpAll pc = .ok r := by
  rcases Nat.lt_or_ge pc 88 with hl | hl
  · have h1 := List.all_eq_true.mp xo_54_no pc (List.mem_range.mpr hl)
    rw [h] at h1
    simp only [Option.isNone_some, Bool.false_or, Bool.or_eq_true, List.contains_iff_mem, or_assoc] at h1
    rcases h1 with h1
    · have h2 := List.all_eq_true.mp xo_54_c0 pc h1
      rw [h] at h2
      exact of_decide_eq_true h2
  · rw [show xo_54 pc = none from if_pos hl] at h; cases h
/-- X5_lengthen -/
def xo_55 (pc : Nat) : Option (Instr × Nat) := if 78 ≤ pc then none else if pc < 41 then (if pc < 19 then (if pc < 9 then (if pc < 4 then (if pc < 1 then (if pc = 0 then some (.iload_n 1, 1) else none) else (if pc = 1 then some (.invokestatic 70, 3) else none)) else (if pc < 7 then (if pc = 4 then some (.ifCond .ne 5, 3) else none) else (if pc < 8 then (if pc = 7 then some (.iconst (-1), 1) else none) else (if pc = 8 then some (.ireturn, 1) else none)))) else (if pc < 11 then (if pc < 10 then (if pc = 9 then some (.iconst 1, 1) else none) else (if pc = 10 then some (.iload_n 2, 1) else none)) else (if pc < 13 then (if pc = 11 then some (.bipush 99, 2) else none) else (if pc < 16 then (if pc = 13 then some (.invokestatic 57, 3) else none) else (if pc = 16 then some (.ifCond .ne 6, 3) else none))))) else (if pc < 27 then (if pc < 22 then (if pc < 21 then (if pc = 19 then some (.bipush (-2), 2) else none) else (if pc = 21 then some (.ireturn, 1) else none)) else (if pc < 23 then (if pc = 22 then some (.aload_n 0, 1) else none) else (if pc < 26 then (if pc = 23 then some (.getfield 29, 3) else none) else (if pc = 26 then some (.iload_n 1, 1) else none)))) else (if pc < 34 then (if pc < 30 then (if pc = 27 then some (.invokevirtual 77, 3) else none) else (if pc < 33 then (if pc = 30 then some (.ifCond .eq 22, 3) else none) else (if pc = 33 then some (.aload_n 0, 1) else none))) else (if pc < 37 then (if pc = 34 then some (.getfield 29, 3) else none) else (if pc < 38 then (if pc = 37 then some (.aload_n 0, 1) else none) else (if pc = 38 then some (.getfield 29, 3) else none)))))) else (if pc < 63 then (if pc < 52 then (if pc < 45 then (if pc < 44 then (if pc = 41 then some (.getfield 115, 3) else none) else (if pc = 44 then some (.iload_n 1, 1) else none)) else (if pc < 46 then (if pc = 45 then some (.iaload, 1) else none) else (if pc < 49 then (if pc = 46 then some (.invokevirtual 91, 3) else none) else (if pc = 49 then some (.ifCond .le 6, 3) else none)))) else (if pc < 56 then (if pc < 54 then (if pc = 52 then some (.bipush (-5), 2) else none) else (if pc < 55 then (if pc = 54 then some (.ireturn, 1) else none) else (if pc = 55 then some (.aload_n 0, 1) else none))) else (if pc < 59 then (if pc = 56 then some (.getfield 29, 3) else none) else (if pc < 62 then (if pc = 59 then some (.getfield 105, 3) else none) else (if pc = 62 then some (.iload_n 1, 1) else none))))) else (if pc < 68 then (if pc < 65 then (if pc < 64 then (if pc = 63 then some (.dup2, 1) else none) else (if pc = 64 then some (.iaload, 1) else none)) else (if pc < 66 then (if pc = 65 then some (.iload_n 2, 1) else none) else (if pc < 67 then (if pc = 66 then some (.iadd, 1) else none) else (if pc = 67 then some (.iastore, 1) else none)))) else (if pc < 75 then (if pc < 69 then (if pc = 68 then some (.aload_n 0, 1) else none) else (if pc < 72 then (if pc = 69 then some (.getfield 29, 3) else none) else (if pc = 72 then some (.getfield 105, 3) else none))) else (if pc < 76 then (if pc = 75 then some (.iload_n 1, 1) else none) else (if pc < 77 then (if pc = 76 then some (.iaload, 1) else none) else (if pc = 77 then some (.ireturn, 1) else none))))))
set_option maxRecDepth 100000 in
theorem xo_55_c0 : ([0, 1, 4, 7, 8, 9, 10, 11, 13, 16, 19, 21, 22, 23, 26, 27, 30, 33, 34, 37, 38, 41, 44, 45, 46, 49, 52, 54, 55, 56, 59, 62, 63, 64, 65, 66, 67, 68, 69, 72, 75, 76, 77] : List Nat).all (fun pc => match xo_55 pc with | none => true | some r => decide (decode cX5_lengthen pc = .ok r)) = true := by decide +kernel
set_option maxRecDepth 100000 in
theorem xo_55_no : (List.range 78).all (fun pc => (xo_55 pc).isNone || (([0, 1, 4, 7, 8, 9, 10, 11, 13, 16, 19, 21, 22, 23, 26, 27, 30, 33, 34, 37, 38, 41, 44, 45, 46, 49, 52, 54, 55, 56, 59, 62, 63, 64, 65, 66, 67, 68, 69, 72, 75, 76, 77] : List Nat).contains pc)) = true := by decide +kernel
theorem xo_55_top (pc : Nat) (h : 78 ≤ pc) : xo_55 pc = none := if_pos h
theorem xo_55_ok (pc : Nat) (r : Instr × Nat) (h : xo_55 pc = some r) : decode cX5_lengthen pc = .ok r := by
  rcases Nat.lt_or_ge pc 78 with hl | hl
  · have h1 := List.all_eq_true.mp xo_55_no pc (List.mem_range.mpr hl)
    rw [h] at h1
    simp only [Option.isNone_some, Bool.false_or, Bool.or_eq_true, List.contains_iff_mem, or_assoc] at h1
    rcases h1 with h1
    · have h2 := List.all_eq_true.mp xo_55_c0 pc h1
      rw [h] at h2
      exact of_decide_eq_true h2
  · rw [show xo_55 pc = none from if_pos hl] at h; cases h
