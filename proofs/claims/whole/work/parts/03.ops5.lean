/-- X6_pass -/
def xo_100 (pc : Nat) : Option (Instr × Nat) := if 24 ≤ pc then none else if pc < 12 then (if pc < 5 then (if pc < 1 then (if pc = 0 then some (.aload_n 0, 1) else none) else (if pc < 4 then (if pc = 1 then some (.getfield 16, 3) else none) else (if pc = 4 then some (.aload_n 0, 1) else none))) else (if pc < 8 then (if pc = 5 then some (.getfield 12, 3) else none) else (if pc < 11 then (if pc = 8 then some (.invokevirtual 40, 3) else none) else (if pc = 11 then some (.aload_n 0, 1) else none)))) else (if pc < 17 then (if pc < 13 then (if pc = 12 then some (.aload_n 0, 1) else none) else (if pc < 16 then (if pc = 13 then some (.getfield 12, 3) else none) else (if pc = 16 then some (.iload_n 1, 1) else none))) else (if pc < 20 then (if pc = 17 then some (.invokevirtual 81, 3) else none) else (if pc < 23 then (if pc = 20 then some (.invokevirtual 48, 3) else none) else (if pc = 23 then some (.ireturn, 1) else none))))
set_option maxRecDepth 100000 in
theorem xo_100_c0 : ([0, 1, 4, 5, 8, 11, 12, 13, 16, 17, 20, 23] : List Nat).all (fun pc => match xo_100 pc with | none => true | some r => decide (decode cX6_pass pc = .ok r)) = true := by decide +kernel
set_option maxRecDepth 100000 in
theorem xo_100_no : (List.range 24).all (fun pc => (xo_100 pc).isNone || (([0, 1, 4, 5, 8, 11, 12, 13, 16, 17, 20, 23] : List Nat).contains pc)) = true := by decide +kernel
theorem xo_100_top (pc : Nat) (h : 24 ≤ pc) : xo_100 pc = none := if_pos h
theorem xo_100_ok (pc : Nat) (r : Instr × Nat) (h : xo_100 pc = some r) : decode cX6_pass pc = .ok r := by
  rcases Nat.lt_or_ge pc 24 with hl | hl
  · have h1 := List.all_eq_true.mp xo_100_no pc (List.mem_range.mpr hl)
    rw [h] at h1
    simp only [Option.isNone_some, Bool.false_or, Bool.or_eq_true, List.contains_iff_mem, or_assoc] at h1
    rcases h1 with h1
    · have h2 := List.all_eq_true.mp xo_100_c0 pc h1
      rw [h] at h2
      exact of_decide_eq_true h2
  · rw [show xo_100 pc = none from if_pos hl] at h; cases h
/-- X6_doDeed -/
def xo_101 (pc : Nat) : Option (Instr × Nat) := if 183 ≤ pc then none else if pc < 119 then (if pc < 86 then (if pc < 69 then (if pc < 7 then (if pc < 1 then (if pc = 0 then some (.aload_n 0, 1) else none) else (if pc < 4 then (if pc = 1 then some (.getfield 36, 3) else none) else (if pc = 4 then some (.getfield 186, 3) else none))) else (if pc < 65 then (if pc < 64 then (if pc = 7 then some (.lookupswitch 161 #[(63, 57), (97, 116), (102, 131), (112, 86), (114, 101), (115, 146)], 57) else none) else (if pc = 64 then some (.aload_n 0, 1) else none)) else (if pc < 68 then (if pc = 65 then some (.getfield 12, 3) else none) else (if pc = 68 then some (.aload_n 0, 1) else none)))) else (if pc < 76 then (if pc < 72 then (if pc = 69 then some (.getfield 36, 3) else none) else (if pc < 75 then (if pc = 72 then some (.getfield 189, 3) else none) else (if pc = 75 then some (.aload_n 0, 1) else none))) else (if pc < 82 then (if pc < 79 then (if pc = 76 then some (.getfield 36, 3) else none) else (if pc = 79 then some (.getfield 192, 3) else none)) else (if pc < 83 then (if pc = 82 then some (.aload_n 0, 1) else none) else (if pc = 83 then some (.getfield 36, 3) else none))))) else (if pc < 101 then (if pc < 93 then (if pc < 89 then (if pc = 86 then some (.getfield 195, 3) else none) else (if pc < 92 then (if pc = 89 then some (.invokevirtual 52, 3) else none) else (if pc = 92 then some (.ireturn, 1) else none))) else (if pc < 97 then (if pc < 94 then (if pc = 93 then some (.aload_n 0, 1) else none) else (if pc = 94 then some (.getfield 12, 3) else none)) else (if pc < 98 then (if pc = 97 then some (.aload_n 0, 1) else none) else (if pc = 98 then some (.getfield 36, 3) else none)))) else (if pc < 109 then (if pc < 107 then (if pc < 104 then (if pc = 101 then some (.getfield 189, 3) else none) else (if pc = 104 then some (.invokevirtual 62, 3) else none)) else (if pc < 108 then (if pc = 107 then some (.ireturn, 1) else none) else (if pc = 108 then some (.aload_n 0, 1) else none))) else (if pc < 113 then (if pc < 112 then (if pc = 109 then some (.getfield 12, 3) else none) else (if pc = 112 then some (.aload_n 0, 1) else none)) else (if pc < 116 then (if pc = 113 then some (.getfield 36, 3) else none) else (if pc = 116 then some (.getfield 189, 3) else none)))))) else (if pc < 152 then (if pc < 134 then (if pc < 124 then (if pc < 122 then (if pc = 119 then some (.invokevirtual 65, 3) else none) else (if pc < 123 then (if pc = 122 then some (.ireturn, 1) else none) else (if pc = 123 then some (.aload_n 0, 1) else none))) else (if pc < 128 then (if pc < 127 then (if pc = 124 then some (.getfield 12, 3) else none) else (if pc = 127 then some (.aload_n 0, 1) else none)) else (if pc < 131 then (if pc = 128 then some (.getfield 36, 3) else none) else (if pc = 131 then some (.getfield 189, 3) else none)))) else (if pc < 142 then (if pc < 138 then (if pc < 137 then (if pc = 134 then some (.invokevirtual 68, 3) else none) else (if pc = 137 then some (.ireturn, 1) else none)) else (if pc < 139 then (if pc = 138 then some (.aload_n 0, 1) else none) else (if pc = 139 then some (.getfield 12, 3) else none))) else (if pc < 146 then (if pc < 143 then (if pc = 142 then some (.aload_n 0, 1) else none) else (if pc = 143 then some (.getfield 36, 3) else none)) else (if pc < 149 then (if pc = 146 then some (.getfield 189, 3) else none) else (if pc = 149 then some (.invokevirtual 71, 3) else none))))) else (if pc < 167 then (if pc < 157 then (if pc < 153 then (if pc = 152 then some (.ireturn, 1) else none) else (if pc < 154 then (if pc = 153 then some (.aload_n 0, 1) else none) else (if pc = 154 then some (.getfield 12, 3) else none))) else (if pc < 161 then (if pc < 158 then (if pc = 157 then some (.aload_n 0, 1) else none) else (if pc = 158 then some (.getfield 36, 3) else none)) else (if pc < 164 then (if pc = 161 then some (.getfield 192, 3) else none) else (if pc = 164 then some (.invokevirtual 74, 3) else none)))) else (if pc < 173 then (if pc < 169 then (if pc < 168 then (if pc = 167 then some (.ireturn, 1) else none) else (if pc = 168 then some (.aload_n 0, 1) else none)) else (if pc < 172 then (if pc = 169 then some (.getfield 12, 3) else none) else (if pc = 172 then some (.aload_n 0, 1) else none))) else (if pc < 179 then (if pc < 176 then (if pc = 173 then some (.getfield 36, 3) else none) else (if pc = 176 then some (.getfield 195, 3) else none)) else (if pc < 182 then (if pc = 179 then some (.invokevirtual 81, 3) else none) else (if pc = 182 then some (.ireturn, 1) else none))))))
set_option maxRecDepth 100000 in
theorem xo_101_c0 : ([0, 1, 4, 7, 64, 65, 68, 69, 72, 75, 76, 79, 82, 83, 86, 89, 92, 93, 94, 97, 98, 101, 104, 107, 108, 109, 112] : List Nat).all (fun pc => match xo_101 pc with | none => true | some r => decide (decode cX6_doDeed pc = .ok r)) = true := by decide +kernel
set_option maxRecDepth 100000 in
theorem xo_101_c1 : ([113, 116, 119, 122, 123, 124, 127, 128, 131, 134, 137, 138, 139, 142, 143, 146, 149, 152, 153, 154, 157, 158, 161, 164, 167, 168, 169] : List Nat).all (fun pc => match xo_101 pc with | none => true | some r => decide (decode cX6_doDeed pc = .ok r)) = true := by decide +kernel
set_option maxRecDepth 100000 in
theorem xo_101_c2 : ([172, 173, 176, 179, 182] : List Nat).all (fun pc => match xo_101 pc with | none => true | some r => decide (decode cX6_doDeed pc = .ok r)) = true := by decide +kernel
set_option maxRecDepth 100000 in
theorem xo_101_no : (List.range 183).all (fun pc => (xo_101 pc).isNone || (([0, 1, 4, 7, 64, 65, 68, 69, 72, 75, 76, 79, 82, 83, 86, 89, 92, 93, 94, 97, 98, 101, 104, 107, 108, 109, 112] : List Nat).contains pc || ([113, 116, 119, 122, 123, 124, 127, 128, 131, 134, 137, 138, 139, 142, 143, 146, 149, 152, 153, 154, 157, 158, 161, 164, 167, 168, 169] : List Nat).contains pc || ([172, 173, 176, 179, 182] : List Nat).contains pc)) = true := by decide +kernel
theorem xo_101_top (pc : Nat) (h : 183 ≤ pc) : xo_101 pc = none := if_pos h
theorem xo_101_ok (pc : Nat) (r : Instr × Nat) (h : xo_101 pc = some r) : decode cX6_doDeed pc = .ok r := by
  rcases Nat.lt_or_ge pc 183 with hl | hl
  · have h1 := List.all_eq_true.mp xo_101_no pc (List.mem_range.mpr hl)
    rw [h] at h1
    simp only [Option.isNone_some, Bool.false_or, Bool.or_eq_true, List.contains_iff_mem, or_assoc] at h1
    rcases h1 with h1 | h1 | h1
    · have h2 := List.all_eq_true.mp xo_101_c0 pc h1
      rw [h] at h2
      exact of_decide_eq_true h2
    · have h2 := List.all_eq_true.mp xo_101_c1 pc h1
      rw [h] at h2
      exact of_decide_eq_true h2
    · have h2 := List.all_eq_true.mp xo_101_c2 pc h1
      rw [h] at h2
      exact of_decide_eq_true h2
  · rw [show xo_101 pc = none from if_pos hl] at h; cases h
/-- X6_run -/
def xo_102 (pc : Nat) : Option (Instr × Nat) := if 94 ≤ pc then none else if pc < 43 then (if pc < 23 then (if pc < 12 then (if pc < 4 then (if pc < 1 then (if pc = 0 then some (.aload_n 0, 1) else none) else (if pc = 1 then some (.getfield 36, 3) else none)) else (if pc < 7 then (if pc = 4 then some (.invokevirtual 84, 3) else none) else (if pc < 9 then (if pc = 7 then some (.bipush (-6), 2) else none) else (if pc = 9 then some (.if_icmp .eq 6, 3) else none)))) else (if pc < 16 then (if pc < 14 then (if pc = 12 then some (.bipush (-3), 2) else none) else (if pc < 15 then (if pc = 14 then some (.ireturn, 1) else none) else (if pc = 15 then some (.aload_n 0, 1) else none))) else (if pc < 19 then (if pc = 16 then some (.getfield 16, 3) else none) else (if pc < 20 then (if pc = 19 then some (.aload_n 0, 1) else none) else (if pc = 20 then some (.getfield 12, 3) else none))))) else (if pc < 34 then (if pc < 27 then (if pc < 26 then (if pc = 23 then some (.invokevirtual 40, 3) else none) else (if pc = 26 then some (.aload_n 0, 1) else none)) else (if pc < 30 then (if pc = 27 then some (.getfield 36, 3) else none) else (if pc < 33 then (if pc = 30 then some (.invokevirtual 88, 3) else none) else (if pc = 33 then some (.iconst 0, 1) else none)))) else (if pc < 37 then (if pc < 35 then (if pc = 34 then some (.istore_n 1, 1) else none) else (if pc < 36 then (if pc = 35 then some (.iconst 0, 1) else none) else (if pc = 36 then some (.istore_n 2, 1) else none))) else (if pc < 38 then (if pc = 37 then some (.iload_n 2, 1) else none) else (if pc < 40 then (if pc = 38 then some (.bipush 60, 2) else none) else (if pc = 40 then some (.if_icmp .ge 37, 3) else none)))))) else (if pc < 70 then (if pc < 54 then (if pc < 47 then (if pc < 44 then (if pc = 43 then some (.aload_n 0, 1) else none) else (if pc = 44 then some (.getfield 36, 3) else none)) else (if pc < 50 then (if pc = 47 then some (.invokevirtual 91, 3) else none) else (if pc < 53 then (if pc = 50 then some (.ifCond .eq 27, 3) else none) else (if pc = 53 then some (.aload_n 0, 1) else none)))) else (if pc < 63 then (if pc < 57 then (if pc = 54 then some (.invokevirtual 95, 3) else none) else (if pc < 60 then (if pc = 57 then some (.ifCond .lt 6, 3) else none) else (if pc = 60 then some (.iinc 1 1, 3) else none))) else (if pc < 64 then (if pc = 63 then some (.aload_n 0, 1) else none) else (if pc < 67 then (if pc = 64 then some (.getfield 36, 3) else none) else (if pc = 67 then some (.invokevirtual 98, 3) else none))))) else (if pc < 84 then (if pc < 77 then (if pc < 71 then (if pc = 70 then some (.pop, 1) else none) else (if pc < 74 then (if pc = 71 then some (.iinc 2 1, 3) else none) else (if pc = 74 then some (.goto (-37), 3) else none))) else (if pc < 78 then (if pc = 77 then some (.aload_n 0, 1) else none) else (if pc < 81 then (if pc = 78 then some (.getfield 36, 3) else none) else (if pc = 81 then some (.getfield 101, 3) else none)))) else (if pc < 89 then (if pc < 87 then (if pc = 84 then some (.invokevirtual 105, 3) else none) else (if pc < 88 then (if pc = 87 then some (.pop, 1) else none) else (if pc = 88 then some (.aload_n 0, 1) else none))) else (if pc < 90 then (if pc = 89 then some (.iload_n 1, 1) else none) else (if pc < 93 then (if pc = 90 then some (.invokevirtual 48, 3) else none) else (if pc = 93 then some (.ireturn, 1) else none))))))
set_option maxRecDepth 100000 in
theorem xo_102_c0 : ([0, 1, 4, 7, 9, 12, 14, 15, 16, 19, 20, 23, 26, 27, 30, 33, 34, 35, 36, 37, 38, 40, 43, 44, 47, 50, 53, 54, 57, 60, 63, 64, 67, 70, 71, 74, 77, 78, 81, 84, 87, 88, 89, 90, 93] : List Nat).all (fun pc => match xo_102 pc with | none => true | some r => decide (decode cX6_run pc = .ok r)) = true := by decide +kernel
set_option maxRecDepth 100000 in
theorem xo_102_no : (List.range 94).all (fun pc => (xo_102 pc).isNone || (([0, 1, 4, 7, 9, 12, 14, 15, 16, 19, 20, 23, 26, 27, 30, 33, 34, 35, 36, 37, 38, 40, 43, 44, 47, 50, 53, 54, 57, 60, 63, 64, 67, 70, 71, 74, 77, 78, 81, 84, 87, 88, 89, 90, 93] : List Nat).contains pc)) = true := by decide +kernel
theorem xo_102_top (pc : Nat) (h : 94 ≤ pc) : xo_102 pc = none := if_pos h
theorem xo_102_ok (pc : Nat) (r : Instr × Nat) (h : xo_102 pc = some r) : decode cX6_run pc = .ok r := by
  rcases Nat.lt_or_ge pc 94 with hl | hl
  · have h1 := List.all_eq_true.mp xo_102_no pc (List.mem_range.mpr hl)
    rw [h] at h1
    simp only [Option.isNone_some, Bool.false_or, Bool.or_eq_true, List.contains_iff_mem, or_assoc] at h1
    rcases h1 with h1
    · have h2 := List.all_eq_true.mp xo_102_c0 pc h1
      rw [h] at h2
      exact of_decide_eq_true h2
  · rw [show xo_102 pc = none from if_pos hl] at h; cases h
/-- X6_person -/
def xo_103 (pc : Nat) : Option (Instr × Nat) := if 19 ≤ pc then none else if pc < 9 then (if pc < 4 then (if pc < 1 then (if pc = 0 then some (.iload_n 1, 1) else none) else (if pc = 1 then some (.invokestatic 110, 3) else none)) else (if pc < 7 then (if pc = 4 then some (.ifCond .ne 5, 3) else none) else (if pc < 8 then (if pc = 7 then some (.iconst (-1), 1) else none) else (if pc = 8 then some (.ireturn, 1) else none)))) else (if pc < 14 then (if pc < 10 then (if pc = 9 then some (.aload_n 0, 1) else none) else (if pc < 13 then (if pc = 10 then some (.getfield 12, 3) else none) else (if pc = 13 then some (.iload_n 1, 1) else none))) else (if pc < 15 then (if pc = 14 then some (.iload_n 2, 1) else none) else (if pc < 18 then (if pc = 15 then some (.invokevirtual 114, 3) else none) else (if pc = 18 then some (.ireturn, 1) else none))))
set_option maxRecDepth 100000 in
theorem xo_103_c0 : ([0, 1, 4, 7, 8, 9, 10, 13, 14, 15, 18] : List Nat).all (fun pc => match xo_103 pc with | none => true | some r => decide (decode cX6_person pc = .ok r)) = true := by decide +kernel
set_option maxRecDepth 100000 in
theorem xo_103_no : (List.range 19).all (fun pc => (xo_103 pc).isNone || (([0, 1, 4, 7, 8, 9, 10, 13, 14, 15, 18] : List Nat).contains pc)) = true := by decide +kernel
theorem xo_103_top (pc : Nat) (h : 19 ≤ pc) : xo_103 pc = none := if_pos h
theorem xo_103_ok (pc : Nat) (r : Instr × Nat) (h : xo_103 pc = some r) : decode cX6_person pc = .ok r := by
  rcases Nat.lt_or_ge pc 19 with hl | hl
  · have h1 := List.all_eq_true.mp xo_103_no pc (List.mem_range.mpr hl)
    rw [h] at h1
    simp only [Option.isNone_some, Bool.false_or, Bool.or_eq_true, List.contains_iff_mem, or_assoc] at h1
    rcases h1 with h1
    · have h2 := List.all_eq_true.mp xo_103_c0 pc h1
      rw [h] at h2
      exact of_decide_eq_true h2
  · rw [show xo_103 pc = none from if_pos hl] at h; cases h
/-- X6_shed -/
def xo_104 (pc : Nat) : Option (Instr × Nat) := if 19 ≤ pc then none else if pc < 9 then (if pc < 4 then (if pc < 1 then (if pc = 0 then some (.iload_n 1, 1) else none) else (if pc = 1 then some (.invokestatic 117, 3) else none)) else (if pc < 7 then (if pc = 4 then some (.ifCond .ne 5, 3) else none) else (if pc < 8 then (if pc = 7 then some (.iconst (-1), 1) else none) else (if pc = 8 then some (.ireturn, 1) else none)))) else (if pc < 14 then (if pc < 10 then (if pc = 9 then some (.aload_n 0, 1) else none) else (if pc < 13 then (if pc = 10 then some (.getfield 12, 3) else none) else (if pc = 13 then some (.iload_n 1, 1) else none))) else (if pc < 15 then (if pc = 14 then some (.iload_n 2, 1) else none) else (if pc < 18 then (if pc = 15 then some (.invokevirtual 120, 3) else none) else (if pc = 18 then some (.ireturn, 1) else none))))
set_option maxRecDepth 100000 in
theorem xo_104_c0 : ([0, 1, 4, 7, 8, 9, 10, 13, 14, 15, 18] : List Nat).all (fun pc => match xo_104 pc with | none => true | some r => decide (decode cX6_shed pc = .ok r)) = true := by decide +kernel
set_option maxRecDepth 100000 in
theorem xo_104_no : (List.range 19).all (fun pc => (xo_104 pc).isNone || (([0, 1, 4, 7, 8, 9, 10, 13, 14, 15, 18] : List Nat).contains pc)) = true := by decide +kernel
theorem xo_104_top (pc : Nat) (h : 19 ≤ pc) : xo_104 pc = none := if_pos h
theorem xo_104_ok (pc : Nat) (r : Instr × Nat) (h : xo_104 pc = some r) : decode cX6_shed pc = .ok r := by
  rcases Nat.lt_or_ge pc 19 with hl | hl
  · have h1 := List.all_eq_true.mp xo_104_no pc (List.mem_range.mpr hl)
    rw [h] at h1
    simp only [Option.isNone_some, Bool.false_or, Bool.or_eq_true, List.contains_iff_mem, or_assoc] at h1
    rcases h1 with h1
    · have h2 := List.all_eq_true.mp xo_104_c0 pc h1
      rw [h] at h2
      exact of_decide_eq_true h2
  · rw [show xo_104 pc = none from if_pos hl] at h; cases h
/-- X6_waiting -/
def xo_105 (pc : Nat) : Option (Instr × Nat) := if 23 ≤ pc then none else if pc < 10 then (if pc < 7 then (if pc < 1 then (if pc = 0 then some (.iload_n 1, 1) else none) else (if pc < 4 then (if pc = 1 then some (.invokestatic 117, 3) else none) else (if pc = 4 then some (.ifCond .ne 5, 3) else none))) else (if pc < 8 then (if pc = 7 then some (.iconst (-1), 1) else none) else (if pc < 9 then (if pc = 8 then some (.ireturn, 1) else none) else (if pc = 9 then some (.aload_n 0, 1) else none)))) else (if pc < 17 then (if pc < 13 then (if pc = 10 then some (.getfield 12, 3) else none) else (if pc < 16 then (if pc = 13 then some (.getfield 123, 3) else none) else (if pc = 16 then some (.iload_n 1, 1) else none))) else (if pc < 19 then (if pc < 18 then (if pc = 17 then some (.iload_n 2, 1) else none) else (if pc = 18 then some (.iload_n 3, 1) else none)) else (if pc < 22 then (if pc = 19 then some (.invokevirtual 127, 3) else none) else (if pc = 22 then some (.ireturn, 1) else none))))
set_option maxRecDepth 100000 in
theorem xo_105_c0 : ([0, 1, 4, 7, 8, 9, 10, 13, 16, 17, 18, 19, 22] : List Nat).all (fun pc => match xo_105 pc with | none => true | some r => decide (decode cX6_waiting pc = .ok r)) = true := by decide +kernel
set_option maxRecDepth 100000 in
theorem xo_105_no : (List.range 23).all (fun pc => (xo_105 pc).isNone || (([0, 1, 4, 7, 8, 9, 10, 13, 16, 17, 18, 19, 22] : List Nat).contains pc)) = true := by decide +kernel
theorem xo_105_top (pc : Nat) (h : 23 ≤ pc) : xo_105 pc = none := if_pos h
theorem xo_105_ok (pc : Nat) (r : Instr × Nat) (h : xo_105 pc = some r) : decode cX6_waiting pc = .ok r := by
  rcases Nat.lt_or_ge pc 23 with hl | hl
  · have h1 := List.all_eq_true.mp xo_105_no pc (List.mem_range.mpr hl)
    rw [h] at h1
    simp only [Option.isNone_some, Bool.false_or, Bool.or_eq_true, List.contains_iff_mem, or_assoc] at h1
    rcases h1 with h1
    · have h2 := List.all_eq_true.mp xo_105_c0 pc h1
      rw [h] at h2
      exact of_decide_eq_true h2
  · rw [show xo_105 pc = none from if_pos hl] at h; cases h
/-- X6_count -/
def xo_106 (pc : Nat) : Option (Instr × Nat) := if 56 ≤ pc then none else if pc < 40 then (if pc < 32 then (if pc < 28 then (if pc < 1 then (if pc = 0 then some (.iload_n 1, 1) else none) else (if pc = 1 then some (.lookupswitch 46 #[(13, 27), (14, 38)], 27) else none)) else (if pc < 29 then (if pc = 28 then some (.aload_n 0, 1) else none) else (if pc = 29 then some (.getfield 36, 3) else none))) else (if pc < 38 then (if pc < 35 then (if pc = 32 then some (.getfield 101, 3) else none) else (if pc = 35 then some (.getfield 132, 3) else none)) else (if pc < 39 then (if pc = 38 then some (.ireturn, 1) else none) else (if pc = 39 then some (.aload_n 0, 1) else none)))) else (if pc < 48 then (if pc < 46 then (if pc < 43 then (if pc = 40 then some (.getfield 25, 3) else none) else (if pc = 43 then some (.getfield 136, 3) else none)) else (if pc < 47 then (if pc = 46 then some (.ireturn, 1) else none) else (if pc = 47 then some (.aload_n 0, 1) else none))) else (if pc < 52 then (if pc < 51 then (if pc = 48 then some (.getfield 12, 3) else none) else (if pc = 51 then some (.iload_n 1, 1) else none)) else (if pc < 55 then (if pc = 52 then some (.invokevirtual 137, 3) else none) else (if pc = 55 then some (.ireturn, 1) else none))))
set_option maxRecDepth 100000 in
theorem xo_106_c0 : ([0, 1, 28, 29, 32, 35, 38, 39, 40, 43, 46, 47, 48, 51, 52, 55] : List Nat).all (fun pc => match xo_106 pc with | none => true | some r => decide (decode cX6_count pc = .ok r)) = true := by decide +kernel
set_option maxRecDepth 100000 in
theorem xo_106_no : (List.range 56).all (fun pc => (xo_106 pc).isNone || (([0, 1, 28, 29, 32, 35, 38, 39, 40, 43, 46, 47, 48, 51, 52, 55] : List Nat).contains pc)) = true := by decide +kernel
theorem xo_106_top (pc : Nat) (h : 56 ≤ pc) : xo_106 pc = none := if_pos h
theorem xo_106_ok (pc : Nat) (r : Instr × Nat) (h : xo_106 pc = some r) : decode cX6_count pc = .ok r := by
  rcases Nat.lt_or_ge pc 56 with hl | hl
  · have h1 := List.all_eq_true.mp xo_106_no pc (List.mem_range.mpr hl)
    rw [h] at h1
    simp only [Option.isNone_some, Bool.false_or, Bool.or_eq_true, List.contains_iff_mem, or_assoc] at h1
    rcases h1 with h1
    · have h2 := List.all_eq_true.mp xo_106_c0 pc h1
      rw [h] at h2
      exact of_decide_eq_true h2
  · rw [show xo_106 pc = none from if_pos hl] at h; cases h
/-- X6_untilPermit -/
def xo_107 (pc : Nat) : Option (Instr × Nat) := if 46 ≤ pc then none else if pc < 23 then (if pc < 9 then (if pc < 4 then (if pc < 1 then (if pc = 0 then some (.iload_n 1, 1) else none) else (if pc = 1 then some (.invokestatic 110, 3) else none)) else (if pc < 7 then (if pc = 4 then some (.ifCond .ne 5, 3) else none) else (if pc < 8 then (if pc = 7 then some (.iconst (-1), 1) else none) else (if pc = 8 then some (.ireturn, 1) else none)))) else (if pc < 16 then (if pc < 10 then (if pc = 9 then some (.aload_n 0, 1) else none) else (if pc < 13 then (if pc = 10 then some (.getfield 12, 3) else none) else (if pc = 13 then some (.getfield 123, 3) else none))) else (if pc < 17 then (if pc = 16 then some (.iload_n 1, 1) else none) else (if pc < 20 then (if pc = 17 then some (.invokevirtual 140, 3) else none) else (if pc = 20 then some (.ifCond .ne 6, 3) else none))))) else (if pc < 34 then (if pc < 27 then (if pc < 25 then (if pc = 23 then some (.bipush (-5), 2) else none) else (if pc < 26 then (if pc = 25 then some (.ireturn, 1) else none) else (if pc = 26 then some (.aload_n 0, 1) else none))) else (if pc < 30 then (if pc = 27 then some (.getfield 19, 3) else none) else (if pc < 31 then (if pc = 30 then some (.aload_n 0, 1) else none) else (if pc = 31 then some (.getfield 12, 3) else none)))) else (if pc < 41 then (if pc < 37 then (if pc = 34 then some (.invokevirtual 40, 3) else none) else (if pc < 38 then (if pc = 37 then some (.aload_n 0, 1) else none) else (if pc = 38 then some (.getfield 19, 3) else none))) else (if pc < 42 then (if pc = 41 then some (.iload_n 1, 1) else none) else (if pc < 45 then (if pc = 42 then some (.invokevirtual 143, 3) else none) else (if pc = 45 then some (.ireturn, 1) else none)))))
set_option maxRecDepth 100000 in
theorem xo_107_c0 : ([0, 1, 4, 7, 8, 9, 10, 13, 16, 17, 20, 23, 25, 26, 27, 30, 31, 34, 37, 38, 41, 42, 45] : List Nat).all (fun pc => match xo_107 pc with | none => true | some r => decide (decode cX6_untilPermit pc = .ok r)) = true := by decide +kernel
set_option maxRecDepth 100000 in
theorem xo_107_no : (List.range 46).all (fun pc => (xo_107 pc).isNone || (([0, 1, 4, 7, 8, 9, 10, 13, 16, 17, 20, 23, 25, 26, 27, 30, 31, 34, 37, 38, 41, 42, 45] : List Nat).contains pc)) = true := by decide +kernel
theorem xo_107_top (pc : Nat) (h : 46 ≤ pc) : xo_107 pc = none := if_pos h
theorem xo_107_ok (pc : Nat) (r : Instr × Nat) (h : xo_107 pc = some r) : decode cX6_untilPermit pc = .ok r := by
  rcases Nat.lt_or_ge pc 46 with hl | hl
  · have h1 := List.all_eq_true.mp xo_107_no pc (List.mem_range.mpr hl)
    rw [h] at h1
    simp only [Option.isNone_some, Bool.false_or, Bool.or_eq_true, List.contains_iff_mem, or_assoc] at h1
    rcases h1 with h1
    · have h2 := List.all_eq_true.mp xo_107_c0 pc h1
      rw [h] at h2
      exact of_decide_eq_true h2
  · rw [show xo_107 pc = none from if_pos hl] at h; cases h
/-- X6_daysToWaitFor -/
def xo_108 (pc : Nat) : Option (Instr × Nat) := if 41 ≤ pc then none else if pc < 18 then (if pc < 11 then (if pc < 4 then (if pc < 1 then (if pc = 0 then some (.aload_n 0, 1) else none) else (if pc = 1 then some (.getfield 19, 3) else none)) else (if pc < 5 then (if pc = 4 then some (.aload_n 0, 1) else none) else (if pc < 8 then (if pc = 5 then some (.getfield 12, 3) else none) else (if pc = 8 then some (.invokevirtual 40, 3) else none)))) else (if pc < 15 then (if pc < 12 then (if pc = 11 then some (.aload_n 0, 1) else none) else (if pc = 12 then some (.getfield 19, 3) else none)) else (if pc < 16 then (if pc = 15 then some (.iload_n 1, 1) else none) else (if pc < 17 then (if pc = 16 then some (.iload_n 2, 1) else none) else (if pc = 17 then some (.iload_n 3, 1) else none))))) else (if pc < 29 then (if pc < 23 then (if pc < 21 then (if pc = 18 then some (.invokevirtual 52, 3) else none) else (if pc = 21 then some (.istore 4, 2) else none)) else (if pc < 25 then (if pc = 23 then some (.iload 4, 2) else none) else (if pc < 28 then (if pc = 25 then some (.ifCond .ne 7, 3) else none) else (if pc = 28 then some (.iconst 0, 1) else none)))) else (if pc < 36 then (if pc < 32 then (if pc = 29 then some (.goto 11, 3) else none) else (if pc < 33 then (if pc = 32 then some (.aload_n 0, 1) else none) else (if pc = 33 then some (.getfield 19, 3) else none))) else (if pc < 37 then (if pc = 36 then some (.iload_n 1, 1) else none) else (if pc < 40 then (if pc = 37 then some (.invokevirtual 143, 3) else none) else (if pc = 40 then some (.ireturn, 1) else none)))))
set_option maxRecDepth 100000 in
theorem xo_108_c0 : ([0, 1, 4, 5, 8, 11, 12, 15, 16, 17, 18, 21, 23, 25, 28, 29, 32, 33, 36, 37, 40] : List Nat).all (fun pc => match xo_108 pc with | none => true | some r => decide (decode cX6_daysToWaitFor pc = .ok r)) = true := by decide +kernel
set_option maxRecDepth 100000 in
theorem xo_108_no : (List.range 41).all (fun pc => (xo_108 pc).isNone || (([0, 1, 4, 5, 8, 11, 12, 15, 16, 17, 18, 21, 23, 25, 28, 29, 32, 33, 36, 37, 40] : List Nat).contains pc)) = true := by decide +kernel
theorem xo_108_top (pc : Nat) (h : 41 ≤ pc) : xo_108 pc = none := if_pos h
theorem xo_108_ok (pc : Nat) (r : Instr × Nat) (h : xo_108 pc = some r) : decode cX6_daysToWaitFor pc = .ok r := by
  rcases Nat.lt_or_ge pc 41 with hl | hl
  · have h1 := List.all_eq_true.mp xo_108_no pc (List.mem_range.mpr hl)
    rw [h] at h1
    simp only [Option.isNone_some, Bool.false_or, Bool.or_eq_true, List.contains_iff_mem, or_assoc] at h1
    rcases h1 with h1
    · have h2 := List.all_eq_true.mp xo_108_c0 pc h1
      rw [h] at h2
      exact of_decide_eq_true h2
  · rw [show xo_108 pc = none from if_pos hl] at h; cases h
/-- X6_bestShed -/
def xo_109 (pc : Nat) : Option (Instr × Nat) := if 136 ≤ pc then none else if pc < 66 then (if pc < 30 then (if pc < 13 then (if pc < 8 then (if pc < 4 then (if pc < 1 then (if pc = 0 then some (.iload_n 1, 1) else none) else (if pc = 1 then some (.invokestatic 110, 3) else none)) else (if pc < 7 then (if pc = 4 then some (.ifCond .ne 5, 3) else none) else (if pc = 7 then some (.iconst (-1), 1) else none))) else (if pc < 10 then (if pc < 9 then (if pc = 8 then some (.ireturn, 1) else none) else (if pc = 9 then some (.iconst 1, 1) else none)) else (if pc < 11 then (if pc = 10 then some (.iload_n 2, 1) else none) else (if pc = 11 then some (.bipush 99, 2) else none)))) else (if pc < 21 then (if pc < 19 then (if pc < 16 then (if pc = 13 then some (.invokestatic 146, 3) else none) else (if pc = 16 then some (.ifCond .eq 12, 3) else none)) else (if pc < 20 then (if pc = 19 then some (.iconst 0, 1) else none) else (if pc = 20 then some (.iload_n 3, 1) else none))) else (if pc < 25 then (if pc < 22 then (if pc = 21 then some (.iconst 1, 1) else none) else (if pc = 22 then some (.invokestatic 146, 3) else none)) else (if pc < 28 then (if pc = 25 then some (.ifCond .ne 6, 3) else none) else (if pc = 28 then some (.bipush (-2), 2) else none))))) else (if pc < 46 then (if pc < 38 then (if pc < 32 then (if pc < 31 then (if pc = 30 then some (.ireturn, 1) else none) else (if pc = 31 then some (.aload_n 0, 1) else none)) else (if pc < 35 then (if pc = 32 then some (.getfield 12, 3) else none) else (if pc = 35 then some (.getfield 123, 3) else none))) else (if pc < 42 then (if pc < 39 then (if pc = 38 then some (.iload_n 1, 1) else none) else (if pc = 39 then some (.invokevirtual 150, 3) else none)) else (if pc < 45 then (if pc = 42 then some (.ifCond .ne 17, 3) else none) else (if pc = 45 then some (.aload_n 0, 1) else none)))) else (if pc < 56 then (if pc < 52 then (if pc < 49 then (if pc = 46 then some (.getfield 12, 3) else none) else (if pc = 49 then some (.getfield 123, 3) else none)) else (if pc < 53 then (if pc = 52 then some (.iload_n 1, 1) else none) else (if pc = 53 then some (.invokevirtual 140, 3) else none))) else (if pc < 61 then (if pc < 59 then (if pc = 56 then some (.ifCond .eq 6, 3) else none) else (if pc = 59 then some (.bipush (-5), 2) else none)) else (if pc < 62 then (if pc = 61 then some (.ireturn, 1) else none) else (if pc < 64 then (if pc = 62 then some (.bipush (-6), 2) else none) else (if pc = 64 then some (.istore 4, 2) else none))))))) else (if pc < 98 then (if pc < 80 then (if pc < 73 then (if pc < 70 then (if pc < 68 then (if pc = 66 then some (.bipush (-6), 2) else none) else (if pc = 68 then some (.istore 5, 2) else none)) else (if pc < 71 then (if pc = 70 then some (.iconst 0, 1) else none) else (if pc = 71 then some (.istore 6, 2) else none))) else (if pc < 76 then (if pc < 75 then (if pc = 73 then some (.iload 6, 2) else none) else (if pc = 75 then some (.iconst 3, 1) else none)) else (if pc < 79 then (if pc = 76 then some (.if_icmp .ge 48, 3) else none) else (if pc = 79 then some (.aload_n 0, 1) else none)))) else (if pc < 87 then (if pc < 83 then (if pc < 81 then (if pc = 80 then some (.iload_n 1, 1) else none) else (if pc = 81 then some (.iload 6, 2) else none)) else (if pc < 84 then (if pc = 83 then some (.iload_n 2, 1) else none) else (if pc = 84 then some (.invokevirtual 153, 3) else none))) else (if pc < 91 then (if pc < 89 then (if pc = 87 then some (.istore 7, 2) else none) else (if pc = 89 then some (.iload 7, 2) else none)) else (if pc < 93 then (if pc = 91 then some (.bipush (-6), 2) else none) else (if pc < 96 then (if pc = 93 then some (.if_icmp .eq 25, 3) else none) else (if pc = 96 then some (.iload 4, 2) else none)))))) else (if pc < 116 then (if pc < 107 then (if pc < 103 then (if pc < 100 then (if pc = 98 then some (.bipush (-6), 2) else none) else (if pc = 100 then some (.if_icmp .eq 10, 3) else none)) else (if pc < 105 then (if pc = 103 then some (.iload 7, 2) else none) else (if pc = 105 then some (.iload 5, 2) else none))) else (if pc < 112 then (if pc < 110 then (if pc = 107 then some (.if_icmp .ge 11, 3) else none) else (if pc = 110 then some (.iload 6, 2) else none)) else (if pc < 114 then (if pc = 112 then some (.istore 4, 2) else none) else (if pc = 114 then some (.iload 7, 2) else none)))) else (if pc < 125 then (if pc < 121 then (if pc < 118 then (if pc = 116 then some (.istore 5, 2) else none) else (if pc = 118 then some (.iinc 6 1, 3) else none)) else (if pc < 124 then (if pc = 121 then some (.goto (-48), 3) else none) else (if pc = 124 then some (.iload_n 3, 1) else none))) else (if pc < 130 then (if pc < 128 then (if pc = 125 then some (.ifCond .ne 8, 3) else none) else (if pc = 128 then some (.iload 4, 2) else none)) else (if pc < 133 then (if pc = 130 then some (.goto 5, 3) else none) else (if pc < 135 then (if pc = 133 then some (.iload 5, 2) else none) else (if pc = 135 then some (.ireturn, 1) else none)))))))
set_option maxRecDepth 100000 in
theorem xo_109_c0 : ([0, 1, 4, 7, 8, 9, 10, 11, 13, 16, 19, 20, 21, 22, 25, 28, 30, 31, 32, 35, 38, 39, 42, 45, 46, 49, 52, 53, 56, 59, 61, 62, 64, 66, 68, 70] : List Nat).all (fun pc => match xo_109 pc with | none => true | some r => decide (decode cX6_bestShed pc = .ok r)) = true := by decide +kernel
set_option maxRecDepth 100000 in
theorem xo_109_c1 : ([71, 73, 75, 76, 79, 80, 81, 83, 84, 87, 89, 91, 93, 96, 98, 100, 103, 105, 107, 110, 112, 114, 116, 118, 121, 124, 125, 128, 130, 133, 135] : List Nat).all (fun pc => match xo_109 pc with | none => true | some r => decide (decode cX6_bestShed pc = .ok r)) = true := by decide +kernel
set_option maxRecDepth 100000 in
theorem xo_109_no : (List.range 136).all (fun pc => (xo_109 pc).isNone || (([0, 1, 4, 7, 8, 9, 10, 11, 13, 16, 19, 20, 21, 22, 25, 28, 30, 31, 32, 35, 38, 39, 42, 45, 46, 49, 52, 53, 56, 59, 61, 62, 64, 66, 68, 70] : List Nat).contains pc || ([71, 73, 75, 76, 79, 80, 81, 83, 84, 87, 89, 91, 93, 96, 98, 100, 103, 105, 107, 110, 112, 114, 116, 118, 121, 124, 125, 128, 130, 133, 135] : List Nat).contains pc)) = true := by decide +kernel
theorem xo_109_top (pc : Nat) (h : 136 ≤ pc) : xo_109 pc = none := if_pos h
theorem xo_109_ok (pc : Nat) (r : Instr × Nat) (h : xo_109 pc = some r) : decode cX6_bestShed pc = .ok r := by
  rcases Nat.lt_or_ge pc 136 with hl | hl
  · have h1 := List.all_eq_true.mp xo_109_no pc (List.mem_range.mpr hl)
    rw [h] at h1
    simp only [Option.isNone_some, Bool.false_or, Bool.or_eq_true, List.contains_iff_mem, or_assoc] at h1
    rcases h1 with h1 | h1
    · have h2 := List.all_eq_true.mp xo_109_c0 pc h1
      rw [h] at h2
      exact of_decide_eq_true h2
    · have h2 := List.all_eq_true.mp xo_109_c1 pc h1
      rw [h] at h2
      exact of_decide_eq_true h2
  · rw [show xo_109 pc = none from if_pos hl] at h; cases h
/-- X6_ifSwept -/
def xo_110 (pc : Nat) : Option (Instr × Nat) := if 42 ≤ pc then none else if pc < 21 then (if pc < 9 then (if pc < 4 then (if pc < 1 then (if pc = 0 then some (.iload_n 1, 1) else none) else (if pc = 1 then some (.invokestatic 117, 3) else none)) else (if pc < 7 then (if pc = 4 then some (.ifCond .ne 5, 3) else none) else (if pc < 8 then (if pc = 7 then some (.iconst (-1), 1) else none) else (if pc = 8 then some (.ireturn, 1) else none)))) else (if pc < 13 then (if pc < 10 then (if pc = 9 then some (.iconst 0, 1) else none) else (if pc < 11 then (if pc = 10 then some (.iload_n 2, 1) else none) else (if pc = 11 then some (.bipush 99, 2) else none))) else (if pc < 16 then (if pc = 13 then some (.invokestatic 146, 3) else none) else (if pc < 19 then (if pc = 16 then some (.ifCond .ne 6, 3) else none) else (if pc = 19 then some (.bipush (-2), 2) else none))))) else (if pc < 30 then (if pc < 23 then (if pc < 22 then (if pc = 21 then some (.ireturn, 1) else none) else (if pc = 22 then some (.aload_n 0, 1) else none)) else (if pc < 26 then (if pc = 23 then some (.getfield 12, 3) else none) else (if pc < 29 then (if pc = 26 then some (.getfield 156, 3) else none) else (if pc = 29 then some (.iload_n 1, 1) else none)))) else (if pc < 35 then (if pc < 31 then (if pc = 30 then some (.aload_n 0, 1) else none) else (if pc < 34 then (if pc = 31 then some (.getfield 12, 3) else none) else (if pc = 34 then some (.iload_n 2, 1) else none))) else (if pc < 38 then (if pc = 35 then some (.invokevirtual 160, 3) else none) else (if pc < 41 then (if pc = 38 then some (.invokevirtual 163, 3) else none) else (if pc = 41 then some (.ireturn, 1) else none)))))
set_option maxRecDepth 100000 in
theorem xo_110_c0 : ([0, 1, 4, 7, 8, 9, 10, 11, 13, 16, 19, 21, 22, 23, 26, 29, 30, 31, 34, 35, 38, 41] : List Nat).all (fun pc => match xo_110 pc with | none => true | some r => decide (decode cX6_ifSwept pc = .ok r)) = true := by decide +kernel
set_option maxRecDepth 100000 in
theorem xo_110_no : (List.range 42).all (fun pc => (xo_110 pc).isNone || (([0, 1, 4, 7, 8, 9, 10, 11, 13, 16, 19, 21, 22, 23, 26, 29, 30, 31, 34, 35, 38, 41] : List Nat).contains pc)) = true := by decide +kernel
theorem xo_110_top (pc : Nat) (h : 42 ≤ pc) : xo_110 pc = none := if_pos h
theorem xo_110_ok (pc : Nat) (r : Instr × Nat) (h : xo_110 pc = some r) : decode cX6_ifSwept pc = .ok r := by
  rcases Nat.lt_or_ge pc 42 with hl | hl
  · have h1 := List.all_eq_true.mp xo_110_no pc (List.mem_range.mpr hl)
    rw [h] at h1
    simp only [Option.isNone_some, Bool.false_or, Bool.or_eq_true, List.contains_iff_mem, or_assoc] at h1
    rcases h1 with h1
    · have h2 := List.all_eq_true.mp xo_110_c0 pc h1
      rw [h] at h2
      exact of_decide_eq_true h2
  · rw [show xo_110 pc = none from if_pos hl] at h; cases h
/-- X6_put -/
def xo_111 (pc : Nat) : Option (Instr × Nat) := if 12 ≤ pc then none else if pc < 7 then (if pc < 1 then (if pc = 0 then some (.aload_n 0, 1) else none) else (if pc < 4 then (if pc = 1 then some (.getfield 36, 3) else none) else (if pc = 4 then some (.getfield 101, 3) else none))) else (if pc < 8 then (if pc = 7 then some (.lload_n 1, 1) else none) else (if pc < 11 then (if pc = 8 then some (.invokevirtual 168, 3) else none) else (if pc = 11 then some (.ireturn, 1) else none)))
set_option maxRecDepth 100000 in
theorem xo_111_c0 : ([0, 1, 4, 7, 8, 11] : List Nat).all (fun pc => match xo_111 pc with | none => true | some r => decide (decode cX6_put pc = .ok r)) = true := by decide +kernel
set_option maxRecDepth 100000 in
theorem xo_111_no : (List.range 12).all (fun pc => (xo_111 pc).isNone || (([0, 1, 4, 7, 8, 11] : List Nat).contains pc)) = true := by decide +kernel
theorem xo_111_top (pc : Nat) (h : 12 ≤ pc) : xo_111 pc = none := if_pos h
theorem xo_111_ok (pc : Nat) (r : Instr × Nat) (h : xo_111 pc = some r) : decode cX6_put pc = .ok r := by
  rcases Nat.lt_or_ge pc 12 with hl | hl
  · have h1 := List.all_eq_true.mp xo_111_no pc (List.mem_range.mpr hl)
    rw [h] at h1
    simp only [Option.isNone_some, Bool.false_or, Bool.or_eq_true, List.contains_iff_mem, or_assoc] at h1
    rcases h1 with h1
    · have h2 := List.all_eq_true.mp xo_111_c0 pc h1
      rw [h] at h2
      exact of_decide_eq_true h2
  · rw [show xo_111 pc = none from if_pos hl] at h; cases h
/-- X6_wipe -/
def xo_112 (pc : Nat) : Option (Instr × Nat) := if 11 ≤ pc then none else if pc < 4 then (if pc < 1 then (if pc = 0 then some (.aload_n 0, 1) else none) else (if pc = 1 then some (.getfield 36, 3) else none)) else (if pc < 7 then (if pc = 4 then some (.getfield 101, 3) else none) else (if pc < 10 then (if pc = 7 then some (.invokevirtual 105, 3) else none) else (if pc = 10 then some (.ireturn, 1) else none)))
set_option maxRecDepth 100000 in
theorem xo_112_c0 : ([0, 1, 4, 7, 10] : List Nat).all (fun pc => match xo_112 pc with | none => true | some r => decide (decode cX6_wipe pc = .ok r)) = true := by decide +kernel
set_option maxRecDepth 100000 in
theorem xo_112_no : (List.range 11).all (fun pc => (xo_112 pc).isNone || (([0, 1, 4, 7, 10] : List Nat).contains pc)) = true := by decide +kernel
theorem xo_112_top (pc : Nat) (h : 11 ≤ pc) : xo_112 pc = none := if_pos h
theorem xo_112_ok (pc : Nat) (r : Instr × Nat) (h : xo_112 pc = some r) : decode cX6_wipe pc = .ok r := by
  rcases Nat.lt_or_ge pc 11 with hl | hl
  · have h1 := List.all_eq_true.mp xo_112_no pc (List.mem_range.mpr hl)
    rw [h] at h1
    simp only [Option.isNone_some, Bool.false_or, Bool.or_eq_true, List.contains_iff_mem, or_assoc] at h1
    rcases h1 with h1
    · have h2 := List.all_eq_true.mp xo_112_c0 pc h1
      rw [h] at h2
      exact of_decide_eq_true h2
  · rw [show xo_112 pc = none from if_pos hl] at h; cases h
/-- X6_fault -/
def xo_113 (pc : Nat) : Option (Instr × Nat) := if 8 ≤ pc then none else if pc < 4 then (if pc < 1 then (if pc = 0 then some (.aload_n 0, 1) else none) else (if pc = 1 then some (.getfield 36, 3) else none)) else (if pc < 7 then (if pc = 4 then some (.invokevirtual 84, 3) else none) else (if pc = 7 then some (.ireturn, 1) else none))
set_option maxRecDepth 100000 in
theorem xo_113_c0 : ([0, 1, 4, 7] : List Nat).all (fun pc => match xo_113 pc with | none => true | some r => decide (decode cX6_fault pc = .ok r)) = true := by decide +kernel
set_option maxRecDepth 100000 in
theorem xo_113_no : (List.range 8).all (fun pc => (xo_113 pc).isNone || (([0, 1, 4, 7] : List Nat).contains pc)) = true := by decide +kernel
theorem xo_113_top (pc : Nat) (h : 8 ≤ pc) : xo_113 pc = none := if_pos h
theorem xo_113_ok (pc : Nat) (r : Instr × Nat) (h : xo_113 pc = some r) : decode cX6_fault pc = .ok r := by
  rcases Nat.lt_or_ge pc 8 with hl | hl
  · have h1 := List.all_eq_true.mp xo_113_no pc (List.mem_range.mpr hl)
    rw [h] at h1
    simp only [Option.isNone_some, Bool.false_or, Bool.or_eq_true, List.contains_iff_mem, or_assoc] at h1
    rcases h1 with h1
    · have h2 := List.all_eq_true.mp xo_113_c0 pc h1
      rw [h] at h2
      exact of_decide_eq_true h2
  · rw [show xo_113 pc = none from if_pos hl] at h; cases h
/-- X6_undo -/
def xo_114 (pc : Nat) : Option (Instr × Nat) := if 25 ≤ pc then none else if pc < 14 then (if pc < 5 then (if pc < 1 then (if pc = 0 then some (.aload_n 0, 1) else none) else (if pc < 4 then (if pc = 1 then some (.getfield 25, 3) else none) else (if pc = 4 then some (.aload_n 0, 1) else none))) else (if pc < 8 then (if pc = 5 then some (.getfield 12, 3) else none) else (if pc < 11 then (if pc = 8 then some (.invokevirtual 172, 3) else none) else (if pc = 11 then some (.ifCond .ne 6, 3) else none)))) else (if pc < 18 then (if pc < 16 then (if pc = 14 then some (.bipush (-5), 2) else none) else (if pc < 17 then (if pc = 16 then some (.ireturn, 1) else none) else (if pc = 17 then some (.aload_n 0, 1) else none))) else (if pc < 21 then (if pc = 18 then some (.getfield 25, 3) else none) else (if pc < 24 then (if pc = 21 then some (.getfield 136, 3) else none) else (if pc = 24 then some (.ireturn, 1) else none))))
set_option maxRecDepth 100000 in
theorem xo_114_c0 : ([0, 1, 4, 5, 8, 11, 14, 16, 17, 18, 21, 24] : List Nat).all (fun pc => match xo_114 pc with | none => true | some r => decide (decode cX6_undo pc = .ok r)) = true := by decide +kernel
set_option maxRecDepth 100000 in
theorem xo_114_no : (List.range 25).all (fun pc => (xo_114 pc).isNone || (([0, 1, 4, 5, 8, 11, 14, 16, 17, 18, 21, 24] : List Nat).contains pc)) = true := by decide +kernel
theorem xo_114_top (pc : Nat) (h : 25 ≤ pc) : xo_114 pc = none := if_pos h
theorem xo_114_ok (pc : Nat) (r : Instr × Nat) (h : xo_114 pc = some r) : decode cX6_undo pc = .ok r := by
  rcases Nat.lt_or_ge pc 25 with hl | hl
  · have h1 := List.all_eq_true.mp xo_114_no pc (List.mem_range.mpr hl)
    rw [h] at h1
    simp only [Option.isNone_some, Bool.false_or, Bool.or_eq_true, List.contains_iff_mem, or_assoc] at h1
    rcases h1 with h1
    · have h2 := List.all_eq_true.mp xo_114_c0 pc h1
      rw [h] at h2
      exact of_decide_eq_true h2
  · rw [show xo_114 pc = none from if_pos hl] at h; cases h
/-- X6_save -/
def xo_115 (pc : Nat) : Option (Instr × Nat) := if 39 ≤ pc then none else if pc < 18 then (if pc < 9 then (if pc < 2 then (if pc < 1 then (if pc = 0 then some (.iconst 0, 1) else none) else (if pc = 1 then some (.iload_n 1, 1) else none)) else (if pc < 3 then (if pc = 2 then some (.iconst 1, 1) else none) else (if pc < 6 then (if pc = 3 then some (.invokestatic 146, 3) else none) else (if pc = 6 then some (.ifCond .ne 6, 3) else none)))) else (if pc < 13 then (if pc < 11 then (if pc = 9 then some (.bipush (-2), 2) else none) else (if pc < 12 then (if pc = 11 then some (.ireturn, 1) else none) else (if pc = 12 then some (.aload_n 0, 1) else none))) else (if pc < 16 then (if pc = 13 then some (.getfield 29, 3) else none) else (if pc < 17 then (if pc = 16 then some (.iload_n 1, 1) else none) else (if pc = 17 then some (.aload_n 0, 1) else none))))) else (if pc < 27 then (if pc < 22 then (if pc < 21 then (if pc = 18 then some (.getfield 29, 3) else none) else (if pc = 21 then some (.iload_n 1, 1) else none)) else (if pc < 23 then (if pc = 22 then some (.aaload, 1) else none) else (if pc < 24 then (if pc = 23 then some (.aload_n 0, 1) else none) else (if pc = 24 then some (.getfield 12, 3) else none)))) else (if pc < 32 then (if pc < 30 then (if pc = 27 then some (.invokestatic 176, 3) else none) else (if pc < 31 then (if pc = 30 then some (.aastore, 1) else none) else (if pc = 31 then some (.aload_n 0, 1) else none))) else (if pc < 35 then (if pc = 32 then some (.getfield 12, 3) else none) else (if pc < 38 then (if pc = 35 then some (.getfield 180, 3) else none) else (if pc = 38 then some (.ireturn, 1) else none)))))
set_option maxRecDepth 100000 in
theorem xo_115_c0 : ([0, 1, 2, 3, 6, 9, 11, 12, 13, 16, 17, 18, 21, 22, 23, 24, 27, 30, 31, 32, 35, 38] : List Nat).all (fun pc => match xo_115 pc with | none => true | some r => decide (decode cX6_save pc = .ok r)) = true := by decide +kernel
set_option maxRecDepth 100000 in
theorem xo_115_no : (List.range 39).all (fun pc => (xo_115 pc).isNone || (([0, 1, 2, 3, 6, 9, 11, 12, 13, 16, 17, 18, 21, 22, 23, 24, 27, 30, 31, 32, 35, 38] : List Nat).contains pc)) = true := by decide +kernel
theorem xo_115_top (pc : Nat) (h : 39 ≤ pc) : xo_115 pc = none := if_pos h
theorem xo_115_ok (pc : Nat) (r : Instr × Nat) (h : xo_115 pc = some r) : decode cX6_save pc = .ok r := by
  rcases Nat.lt_or_ge pc 39 with hl | hl
  · have h1 := List.all_eq_true.mp xo_115_no pc (List.mem_range.mpr hl)
    rw [h] at h1
    simp only [Option.isNone_some, Bool.false_or, Bool.or_eq_true, List.contains_iff_mem, or_assoc] at h1
    rcases h1 with h1
    · have h2 := List.all_eq_true.mp xo_115_c0 pc h1
      rw [h] at h2
      exact of_decide_eq_true h2
  · rw [show xo_115 pc = none from if_pos hl] at h; cases h
/-- X6_restore -/
def xo_116 (pc : Nat) : Option (Instr × Nat) := if 57 ≤ pc then none else if pc < 25 then (if pc < 12 then (if pc < 3 then (if pc < 1 then (if pc = 0 then some (.iconst 0, 1) else none) else (if pc < 2 then (if pc = 1 then some (.iload_n 1, 1) else none) else (if pc = 2 then some (.iconst 1, 1) else none))) else (if pc < 9 then (if pc < 6 then (if pc = 3 then some (.invokestatic 146, 3) else none) else (if pc = 6 then some (.ifCond .ne 6, 3) else none)) else (if pc < 11 then (if pc = 9 then some (.bipush (-2), 2) else none) else (if pc = 11 then some (.ireturn, 1) else none)))) else (if pc < 18 then (if pc < 16 then (if pc < 13 then (if pc = 12 then some (.aload_n 0, 1) else none) else (if pc = 13 then some (.getfield 29, 3) else none)) else (if pc < 17 then (if pc = 16 then some (.iload_n 1, 1) else none) else (if pc = 17 then some (.aaload, 1) else none))) else (if pc < 20 then (if pc < 19 then (if pc = 18 then some (.astore_n 2, 1) else none) else (if pc = 19 then some (.aload_n 2, 1) else none)) else (if pc < 23 then (if pc = 20 then some (.ifnonnull 6, 3) else none) else (if pc = 23 then some (.bipush (-5), 2) else none))))) else (if pc < 41 then (if pc < 31 then (if pc < 27 then (if pc < 26 then (if pc = 25 then some (.ireturn, 1) else none) else (if pc = 26 then some (.aload_n 0, 1) else none)) else (if pc < 30 then (if pc = 27 then some (.getfield 16, 3) else none) else (if pc = 30 then some (.aload_n 0, 1) else none))) else (if pc < 37 then (if pc < 34 then (if pc = 31 then some (.getfield 12, 3) else none) else (if pc = 34 then some (.invokevirtual 40, 3) else none)) else (if pc < 38 then (if pc = 37 then some (.aload_n 0, 1) else none) else (if pc = 38 then some (.getfield 12, 3) else none)))) else (if pc < 47 then (if pc < 45 then (if pc < 42 then (if pc = 41 then some (.aload_n 2, 1) else none) else (if pc = 42 then some (.invokevirtual 40, 3) else none)) else (if pc < 46 then (if pc = 45 then some (.aload_n 0, 1) else none) else (if pc = 46 then some (.aload_n 0, 1) else none))) else (if pc < 53 then (if pc < 50 then (if pc = 47 then some (.getfield 12, 3) else none) else (if pc = 50 then some (.getfield 180, 3) else none)) else (if pc < 56 then (if pc = 53 then some (.invokevirtual 48, 3) else none) else (if pc = 56 then some (.ireturn, 1) else none)))))
set_option maxRecDepth 100000 in
theorem xo_116_c0 : ([0, 1, 2, 3, 6, 9, 11, 12, 13, 16, 17, 18, 19, 20, 23, 25, 26, 27, 30, 31, 34, 37, 38, 41, 42, 45, 46, 47, 50, 53, 56] : List Nat).all (fun pc => match xo_116 pc with | none => true | some r => decide (decode cX6_restore pc = .ok r)) = true := by decide +kernel
set_option maxRecDepth 100000 in
theorem xo_116_no : (List.range 57).all (fun pc => (xo_116 pc).isNone || (([0, 1, 2, 3, 6, 9, 11, 12, 13, 16, 17, 18, 19, 20, 23, 25, 26, 27, 30, 31, 34, 37, 38, 41, 42, 45, 46, 47, 50, 53, 56] : List Nat).contains pc)) = true := by decide +kernel
theorem xo_116_top (pc : Nat) (h : 57 ≤ pc) : xo_116 pc = none := if_pos h
theorem xo_116_ok (pc : Nat) (r : Instr × Nat) (h : xo_116 pc = some r) : decode cX6_restore pc = .ok r := by
  rcases Nat.lt_or_ge pc 57 with hl | hl
  · have h1 := List.all_eq_true.mp xo_116_no pc (List.mem_range.mpr hl)
    rw [h] at h1
    simp only [Option.isNone_some, Bool.false_or, Bool.or_eq_true, List.contains_iff_mem, or_assoc] at h1
    rcases h1 with h1
    · have h2 := List.all_eq_true.mp xo_116_c0 pc h1
      rw [h] at h2
      exact of_decide_eq_true h2
  · rw [show xo_116 pc = none from if_pos hl] at h; cases h
/-- X7_personAt -/
def xo_117 (pc : Nat) : Option (Instr × Nat) := if 10 ≤ pc then none else if pc < 6 then (if pc < 3 then (if pc < 1 then (if pc = 0 then some (.iload_n 0, 1) else none) else (if pc = 1 then some (.bipush 14, 2) else none)) else (if pc < 4 then (if pc = 3 then some (.iadd, 1) else none) else (if pc = 4 then some (.bipush 8, 2) else none))) else (if pc < 8 then (if pc < 7 then (if pc = 6 then some (.iload_n 1, 1) else none) else (if pc = 7 then some (.imul, 1) else none)) else (if pc < 9 then (if pc = 8 then some (.iadd, 1) else none) else (if pc = 9 then some (.ireturn, 1) else none)))
set_option maxRecDepth 100000 in
theorem xo_117_c0 : ([0, 1, 3, 4, 6, 7, 8, 9] : List Nat).all (fun pc => match xo_117 pc with | none => true | some r => decide (decode cX7_personAt pc = .ok r)) = true := by decide +kernel
set_option maxRecDepth 100000 in
theorem xo_117_no : (List.range 10).all (fun pc => (xo_117 pc).isNone || (([0, 1, 3, 4, 6, 7, 8, 9] : List Nat).contains pc)) = true := by decide +kernel
theorem xo_117_top (pc : Nat) (h : 10 ≤ pc) : xo_117 pc = none := if_pos h
theorem xo_117_ok (pc : Nat) (r : Instr × Nat) (h : xo_117 pc = some r) : decode cX7_personAt pc = .ok r := by
  rcases Nat.lt_or_ge pc 10 with hl | hl
  · have h1 := List.all_eq_true.mp xo_117_no pc (List.mem_range.mpr hl)
    rw [h] at h1
    simp only [Option.isNone_some, Bool.false_or, Bool.or_eq_true, List.contains_iff_mem, or_assoc] at h1
    rcases h1 with h1
    · have h2 := List.all_eq_true.mp xo_117_c0 pc h1
      rw [h] at h2
      exact of_decide_eq_true h2
  · rw [show xo_117 pc = none from if_pos hl] at h; cases h
/-- X7_init -/
def xo_118 (pc : Nat) : Option (Instr × Nat) := if 111 ≤ pc then none else if pc < 54 then (if pc < 29 then (if pc < 14 then (if pc < 5 then (if pc < 1 then (if pc = 0 then some (.aload_n 0, 1) else none) else (if pc < 4 then (if pc = 1 then some (.invokespecial 1, 3) else none) else (if pc = 4 then some (.aload_n 0, 1) else none))) else (if pc < 10 then (if pc < 8 then (if pc = 5 then some (.sipush 3540, 3) else none) else (if pc = 8 then some (.newarray .int, 2) else none)) else (if pc < 13 then (if pc = 10 then some (.putfield 7, 3) else none) else (if pc = 13 then some (.aload_n 0, 1) else none)))) else (if pc < 21 then (if pc < 17 then (if pc < 15 then (if pc = 14 then some (.iconst 2, 1) else none) else (if pc = 15 then some (.newarray .boolean, 2) else none)) else (if pc < 20 then (if pc = 17 then some (.putfield 13, 3) else none) else (if pc = 20 then some (.aload_n 0, 1) else none))) else (if pc < 25 then (if pc < 23 then (if pc = 21 then some (.bipush 60, 2) else none) else (if pc = 23 then some (.newarray .int, 2) else none)) else (if pc < 28 then (if pc = 25 then some (.putfield 17, 3) else none) else (if pc = 28 then some (.aload_n 0, 1) else none))))) else (if pc < 42 then (if pc < 35 then (if pc < 33 then (if pc < 32 then (if pc = 29 then some (.getfield 7, 3) else none) else (if pc = 32 then some (.iconst 0, 1) else none)) else (if pc < 34 then (if pc = 33 then some (.iconst 1, 1) else none) else (if pc = 34 then some (.iastore, 1) else none))) else (if pc < 39 then (if pc < 36 then (if pc = 35 then some (.aload_n 0, 1) else none) else (if pc = 36 then some (.getfield 7, 3) else none)) else (if pc < 40 then (if pc = 39 then some (.iconst 1, 1) else none) else (if pc = 40 then some (.bipush 10, 2) else none)))) else (if pc < 48 then (if pc < 44 then (if pc < 43 then (if pc = 42 then some (.iastore, 1) else none) else (if pc = 43 then some (.aload_n 0, 1) else none)) else (if pc < 47 then (if pc = 44 then some (.getfield 7, 3) else none) else (if pc = 47 then some (.iconst 2, 1) else none))) else (if pc < 50 then (if pc < 49 then (if pc = 48 then some (.iconst 5, 1) else none) else (if pc = 49 then some (.iastore, 1) else none)) else (if pc < 51 then (if pc = 50 then some (.aload_n 0, 1) else none) else (if pc = 51 then some (.getfield 7, 3) else none)))))) else (if pc < 79 then (if pc < 66 then (if pc < 59 then (if pc < 57 then (if pc < 55 then (if pc = 54 then some (.iconst 3, 1) else none) else (if pc = 55 then some (.bipush 20, 2) else none)) else (if pc < 58 then (if pc = 57 then some (.iastore, 1) else none) else (if pc = 58 then some (.iconst 0, 1) else none))) else (if pc < 61 then (if pc < 60 then (if pc = 59 then some (.istore_n 1, 1) else none) else (if pc = 60 then some (.iload_n 1, 1) else none)) else (if pc < 63 then (if pc = 61 then some (.bipush 20, 2) else none) else (if pc = 63 then some (.if_icmp .ge 47, 3) else none)))) else (if pc < 71 then (if pc < 68 then (if pc < 67 then (if pc = 66 then some (.iconst 0, 1) else none) else (if pc = 67 then some (.istore_n 2, 1) else none)) else (if pc < 69 then (if pc = 68 then some (.iload_n 2, 1) else none) else (if pc = 69 then some (.bipush 8, 2) else none))) else (if pc < 75 then (if pc < 74 then (if pc = 71 then some (.if_icmp .ge 33, 3) else none) else (if pc = 74 then some (.aload_n 0, 1) else none)) else (if pc < 78 then (if pc = 75 then some (.getfield 7, 3) else none) else (if pc = 78 then some (.iconst 0, 1) else none))))) else (if pc < 92 then (if pc < 85 then (if pc < 83 then (if pc < 80 then (if pc = 79 then some (.iload_n 1, 1) else none) else (if pc = 80 then some (.invokestatic 20, 3) else none)) else (if pc < 84 then (if pc = 83 then some (.iload_n 2, 1) else none) else (if pc = 84 then some (.iadd, 1) else none))) else (if pc < 88 then (if pc < 86 then (if pc = 85 then some (.iload_n 2, 1) else none) else (if pc = 86 then some (.bipush 7, 2) else none)) else (if pc < 91 then (if pc = 88 then some (.if_icmp .ne 7, 3) else none) else (if pc = 91 then some (.iconst 0, 1) else none)))) else (if pc < 101 then (if pc < 97 then (if pc < 95 then (if pc = 92 then some (.goto 5, 3) else none) else (if pc = 95 then some (.bipush (-6), 2) else none)) else (if pc < 98 then (if pc = 97 then some (.iastore, 1) else none) else (if pc = 98 then some (.iinc 2 1, 3) else none))) else (if pc < 107 then (if pc < 104 then (if pc = 101 then some (.goto (-33), 3) else none) else (if pc = 104 then some (.iinc 1 1, 3) else none)) else (if pc < 110 then (if pc = 107 then some (.goto (-47), 3) else none) else (if pc = 110 then some (.return_, 1) else none))))))
set_option maxRecDepth 100000 in
theorem xo_118_c0 : ([0, 1, 4, 5, 8, 10, 13, 14, 15, 17, 20, 21, 23, 25, 28, 29, 32, 33, 34, 35, 36, 39, 40, 42, 43, 44, 47, 48, 49, 50, 51, 54, 55, 57, 58, 59, 60, 61, 63, 66, 67, 68, 69, 71, 74] : List Nat).all (fun pc => match xo_118 pc with | none => true | some r => decide (decode cX7_init pc = .ok r)) = true := by decide +kernel
set_option maxRecDepth 100000 in
theorem xo_118_c1 : ([75, 78, 79, 80, 83, 84, 85, 86, 88, 91, 92, 95, 97, 98, 101, 104, 107, 110] : List Nat).all (fun pc => match xo_118 pc with | none => true | some r => decide (decode cX7_init pc = .ok r)) = true := by decide +kernel
set_option maxRecDepth 100000 in
theorem xo_118_no : (List.range 111).all (fun pc => (xo_118 pc).isNone || (([0, 1, 4, 5, 8, 10, 13, 14, 15, 17, 20, 21, 23, 25, 28, 29, 32, 33, 34, 35, 36, 39, 40, 42, 43, 44, 47, 48, 49, 50, 51, 54, 55, 57, 58, 59, 60, 61, 63, 66, 67, 68, 69, 71, 74] : List Nat).contains pc || ([75, 78, 79, 80, 83, 84, 85, 86, 88, 91, 92, 95, 97, 98, 101, 104, 107, 110] : List Nat).contains pc)) = true := by decide +kernel
theorem xo_118_top (pc : Nat) (h : 111 ≤ pc) : xo_118 pc = none := if_pos h
theorem xo_118_ok (pc : Nat) (r : Instr × Nat) (h : xo_118 pc = some r) : decode cX7_init pc = .ok r := by
  rcases Nat.lt_or_ge pc 111 with hl | hl
  · have h1 := List.all_eq_true.mp xo_118_no pc (List.mem_range.mpr hl)
    rw [h] at h1
    simp only [Option.isNone_some, Bool.false_or, Bool.or_eq_true, List.contains_iff_mem, or_assoc] at h1
    rcases h1 with h1 | h1
    · have h2 := List.all_eq_true.mp xo_118_c0 pc h1
      rw [h] at h2
      exact of_decide_eq_true h2
    · have h2 := List.all_eq_true.mp xo_118_c1 pc h1
      rw [h] at h2
      exact of_decide_eq_true h2
  · rw [show xo_118 pc = none from if_pos hl] at h; cases h
/-- X7_in -/
def xo_119 (pc : Nat) : Option (Instr × Nat) := if 19 ≤ pc then none else if pc < 9 then (if pc < 3 then (if pc < 1 then (if pc = 0 then some (.lload_n 0, 1) else none) else (if pc < 2 then (if pc = 1 then some (.lload_n 2, 1) else none) else (if pc = 2 then some (.lcmp, 1) else none))) else (if pc < 6 then (if pc = 3 then some (.ifCond .lt 14, 3) else none) else (if pc < 7 then (if pc = 6 then some (.lload_n 0, 1) else none) else (if pc = 7 then some (.lload 4, 2) else none)))) else (if pc < 14 then (if pc < 10 then (if pc = 9 then some (.lcmp, 1) else none) else (if pc < 13 then (if pc = 10 then some (.ifCond .gt 7, 3) else none) else (if pc = 13 then some (.iconst 1, 1) else none))) else (if pc < 17 then (if pc = 14 then some (.goto 4, 3) else none) else (if pc < 18 then (if pc = 17 then some (.iconst 0, 1) else none) else (if pc = 18 then some (.ireturn, 1) else none))))
set_option maxRecDepth 100000 in
theorem xo_119_c0 : ([0, 1, 2, 3, 6, 7, 9, 10, 13, 14, 17, 18] : List Nat).all (fun pc => match xo_119 pc with | none => true | some r => decide (decode cX7_in pc = .ok r)) = true := by decide +kernel
set_option maxRecDepth 100000 in
theorem xo_119_no : (List.range 19).all (fun pc => (xo_119 pc).isNone || (([0, 1, 2, 3, 6, 7, 9, 10, 13, 14, 17, 18] : List Nat).contains pc)) = true := by decide +kernel
theorem xo_119_top (pc : Nat) (h : 19 ≤ pc) : xo_119 pc = none := if_pos h
theorem xo_119_ok (pc : Nat) (r : Instr × Nat) (h : xo_119 pc = some r) : decode cX7_in pc = .ok r := by
  rcases Nat.lt_or_ge pc 19 with hl | hl
  · have h1 := List.all_eq_true.mp xo_119_no pc (List.mem_range.mpr hl)
    rw [h] at h1
    simp only [Option.isNone_some, Bool.false_or, Bool.or_eq_true, List.contains_iff_mem, or_assoc] at h1
    rcases h1 with h1
    · have h2 := List.all_eq_true.mp xo_119_c0 pc h1
      rw [h] at h2
      exact of_decide_eq_true h2
  · rw [show xo_119 pc = none from if_pos hl] at h; cases h
/-- X7_flag -/
def xo_120 (pc : Nat) : Option (Instr × Nat) := if 10 ≤ pc then none else if pc < 5 then (if pc < 1 then (if pc = 0 then some (.iload_n 0, 1) else none) else (if pc < 4 then (if pc = 1 then some (.ifCond .eq 7, 3) else none) else (if pc = 4 then some (.iconst 1, 1) else none))) else (if pc < 8 then (if pc = 5 then some (.goto 4, 3) else none) else (if pc < 9 then (if pc = 8 then some (.iconst 0, 1) else none) else (if pc = 9 then some (.ireturn, 1) else none)))
set_option maxRecDepth 100000 in
theorem xo_120_c0 : ([0, 1, 4, 5, 8, 9] : List Nat).all (fun pc => match xo_120 pc with | none => true | some r => decide (decode cX7_flag pc = .ok r)) = true := by decide +kernel
set_option maxRecDepth 100000 in
theorem xo_120_no : (List.range 10).all (fun pc => (xo_120 pc).isNone || (([0, 1, 4, 5, 8, 9] : List Nat).contains pc)) = true := by decide +kernel
theorem xo_120_top (pc : Nat) (h : 10 ≤ pc) : xo_120 pc = none := if_pos h
theorem xo_120_ok (pc : Nat) (r : Instr × Nat) (h : xo_120 pc = some r) : decode cX7_flag pc = .ok r := by
  rcases Nat.lt_or_ge pc 10 with hl | hl
  · have h1 := List.all_eq_true.mp xo_120_no pc (List.mem_range.mpr hl)
    rw [h] at h1
    simp only [Option.isNone_some, Bool.false_or, Bool.or_eq_true, List.contains_iff_mem, or_assoc] at h1
    rcases h1 with h1
    · have h2 := List.all_eq_true.mp xo_120_c0 pc h1
      rw [h] at h2
      exact of_decide_eq_true h2
  · rw [show xo_120 pc = none from if_pos hl] at h; cases h
/-- X7_copies -/
def xo_121 (pc : Nat) : Option (Instr × Nat) := if 40 ≤ pc then none else if pc < 20 then (if pc < 10 then (if pc < 3 then (if pc < 1 then (if pc = 0 then some (.iconst 0, 1) else none) else (if pc < 2 then (if pc = 1 then some (.istore_n 3, 1) else none) else (if pc = 2 then some (.iload_n 3, 1) else none))) else (if pc < 6 then (if pc = 3 then some (.sipush 354, 3) else none) else (if pc < 9 then (if pc = 6 then some (.if_icmp .ge 33, 3) else none) else (if pc = 9 then some (.aload_n 0, 1) else none)))) else (if pc < 17 then (if pc < 13 then (if pc = 10 then some (.getfield 7, 3) else none) else (if pc < 16 then (if pc = 13 then some (.sipush 354, 3) else none) else (if pc = 16 then some (.iload_n 2, 1) else none))) else (if pc < 18 then (if pc = 17 then some (.imul, 1) else none) else (if pc < 19 then (if pc = 18 then some (.iload_n 3, 1) else none) else (if pc = 19 then some (.iadd, 1) else none))))) else (if pc < 30 then (if pc < 27 then (if pc < 21 then (if pc = 20 then some (.aload_n 0, 1) else none) else (if pc < 24 then (if pc = 21 then some (.getfield 7, 3) else none) else (if pc = 24 then some (.sipush 354, 3) else none))) else (if pc < 28 then (if pc = 27 then some (.iload_n 1, 1) else none) else (if pc < 29 then (if pc = 28 then some (.imul, 1) else none) else (if pc = 29 then some (.iload_n 3, 1) else none)))) else (if pc < 33 then (if pc < 31 then (if pc = 30 then some (.iadd, 1) else none) else (if pc < 32 then (if pc = 31 then some (.iaload, 1) else none) else (if pc = 32 then some (.iastore, 1) else none))) else (if pc < 36 then (if pc = 33 then some (.iinc 3 1, 3) else none) else (if pc < 39 then (if pc = 36 then some (.goto (-34), 3) else none) else (if pc = 39 then some (.return_, 1) else none)))))
set_option maxRecDepth 100000 in
theorem xo_121_c0 : ([0, 1, 2, 3, 6, 9, 10, 13, 16, 17, 18, 19, 20, 21, 24, 27, 28, 29, 30, 31, 32, 33, 36, 39] : List Nat).all (fun pc => match xo_121 pc with | none => true | some r => decide (decode cX7_copies pc = .ok r)) = true := by decide +kernel
set_option maxRecDepth 100000 in
theorem xo_121_no : (List.range 40).all (fun pc => (xo_121 pc).isNone || (([0, 1, 2, 3, 6, 9, 10, 13, 16, 17, 18, 19, 20, 21, 24, 27, 28, 29, 30, 31, 32, 33, 36, 39] : List Nat).contains pc)) = true := by decide +kernel
theorem xo_121_top (pc : Nat) (h : 40 ≤ pc) : xo_121 pc = none := if_pos h
theorem xo_121_ok (pc : Nat) (r : Instr × Nat) (h : xo_121 pc = some r) : decode cX7_copies pc = .ok r := by
  rcases Nat.lt_or_ge pc 40 with hl | hl
  · have h1 := List.all_eq_true.mp xo_121_no pc (List.mem_range.mpr hl)
    rw [h] at h1
    simp only [Option.isNone_some, Bool.false_or, Bool.or_eq_true, List.contains_iff_mem, or_assoc] at h1
    rcases h1 with h1
    · have h2 := List.all_eq_true.mp xo_121_c0 pc h1
      rw [h] at h2
      exact of_decide_eq_true h2
  · rw [show xo_121 pc = none from if_pos hl] at h; cases h
/-- X7_changes -/
def xo_122 (pc : Nat) : Option (Instr × Nat) := if 61 ≤ pc then none else if pc < 31 then (if pc < 14 then (if pc < 9 then (if pc < 4 then (if pc < 1 then (if pc = 0 then some (.aload_n 0, 1) else none) else (if pc = 1 then some (.getfield 24, 3) else none)) else (if pc < 6 then (if pc = 4 then some (.bipush 6, 2) else none) else (if pc = 6 then some (.if_icmp .ne 35, 3) else none))) else (if pc < 11 then (if pc < 10 then (if pc = 9 then some (.iconst 1, 1) else none) else (if pc = 10 then some (.istore_n 1, 1) else none)) else (if pc < 12 then (if pc = 11 then some (.iload_n 1, 1) else none) else (if pc = 12 then some (.bipush 6, 2) else none)))) else (if pc < 20 then (if pc < 18 then (if pc < 17 then (if pc = 14 then some (.if_icmp .ge 17, 3) else none) else (if pc = 17 then some (.aload_n 0, 1) else none)) else (if pc < 19 then (if pc = 18 then some (.iload_n 1, 1) else none) else (if pc = 19 then some (.iconst 1, 1) else none))) else (if pc < 22 then (if pc < 21 then (if pc = 20 then some (.iadd, 1) else none) else (if pc = 21 then some (.iload_n 1, 1) else none)) else (if pc < 25 then (if pc = 22 then some (.invokevirtual 28, 3) else none) else (if pc < 28 then (if pc = 25 then some (.iinc 1 1, 3) else none) else (if pc = 28 then some (.goto (-17), 3) else none)))))) else (if pc < 46 then (if pc < 37 then (if pc < 33 then (if pc < 32 then (if pc = 31 then some (.aload_n 0, 1) else none) else (if pc = 32 then some (.dup, 1) else none)) else (if pc < 36 then (if pc = 33 then some (.getfield 24, 3) else none) else (if pc = 36 then some (.iconst 1, 1) else none))) else (if pc < 41 then (if pc < 38 then (if pc = 37 then some (.isub, 1) else none) else (if pc = 38 then some (.putfield 24, 3) else none)) else (if pc < 42 then (if pc = 41 then some (.aload_n 0, 1) else none) else (if pc < 43 then (if pc = 42 then some (.dup, 1) else none) else (if pc = 43 then some (.getfield 24, 3) else none))))) else (if pc < 52 then (if pc < 48 then (if pc < 47 then (if pc = 46 then some (.iconst 1, 1) else none) else (if pc = 47 then some (.iadd, 1) else none)) else (if pc < 51 then (if pc = 48 then some (.putfield 24, 3) else none) else (if pc = 51 then some (.aload_n 0, 1) else none))) else (if pc < 54 then (if pc < 53 then (if pc = 52 then some (.iconst 0, 1) else none) else (if pc = 53 then some (.aload_n 0, 1) else none)) else (if pc < 57 then (if pc = 54 then some (.getfield 24, 3) else none) else (if pc < 60 then (if pc = 57 then some (.invokevirtual 28, 3) else none) else (if pc = 60 then some (.return_, 1) else none))))))
set_option maxRecDepth 100000 in
theorem xo_122_c0 : ([0, 1, 4, 6, 9, 10, 11, 12, 14, 17, 18, 19, 20, 21, 22, 25, 28, 31, 32, 33, 36, 37, 38, 41, 42, 43, 46, 47, 48, 51, 52, 53, 54, 57, 60] : List Nat).all (fun pc => match xo_122 pc with | none => true | some r => decide (decode cX7_changes pc = .ok r)) = true := by decide +kernel
set_option maxRecDepth 100000 in
theorem xo_122_no : (List.range 61).all (fun pc => (xo_122 pc).isNone || (([0, 1, 4, 6, 9, 10, 11, 12, 14, 17, 18, 19, 20, 21, 22, 25, 28, 31, 32, 33, 36, 37, 38, 41, 42, 43, 46, 47, 48, 51, 52, 53, 54, 57, 60] : List Nat).contains pc)) = true := by decide +kernel
theorem xo_122_top (pc : Nat) (h : 61 ≤ pc) : xo_122 pc = none := if_pos h
theorem xo_122_ok (pc : Nat) (r : Instr × Nat) (h : xo_122 pc = some r) : decode cX7_changes pc = .ok r := by
  rcases Nat.lt_or_ge pc 61 with hl | hl
  · have h1 := List.all_eq_true.mp xo_122_no pc (List.mem_range.mpr hl)
    rw [h] at h1
    simp only [Option.isNone_some, Bool.false_or, Bool.or_eq_true, List.contains_iff_mem, or_assoc] at h1
    rcases h1 with h1
    · have h2 := List.all_eq_true.mp xo_122_c0 pc h1
      rw [h] at h2
      exact of_decide_eq_true h2
  · rw [show xo_122 pc = none from if_pos hl] at h; cases h
/-- X7_placeAt -/
def xo_123 (pc : Nat) : Option (Instr × Nat) := if 15 ≤ pc then none else if pc < 9 then (if pc < 5 then (if pc < 1 then (if pc = 0 then some (.iload_n 0, 1) else none) else (if pc < 4 then (if pc = 1 then some (.sipush 174, 3) else none) else (if pc = 4 then some (.iadd, 1) else none))) else (if pc < 6 then (if pc = 5 then some (.iconst 3, 1) else none) else (if pc < 8 then (if pc = 6 then some (.bipush 20, 2) else none) else (if pc = 8 then some (.iload_n 1, 1) else none)))) else (if pc < 12 then (if pc < 10 then (if pc = 9 then some (.imul, 1) else none) else (if pc < 11 then (if pc = 10 then some (.iload_n 2, 1) else none) else (if pc = 11 then some (.iadd, 1) else none))) else (if pc < 13 then (if pc = 12 then some (.imul, 1) else none) else (if pc < 14 then (if pc = 13 then some (.iadd, 1) else none) else (if pc = 14 then some (.ireturn, 1) else none))))
set_option maxRecDepth 100000 in
theorem xo_123_c0 : ([0, 1, 4, 5, 6, 8, 9, 10, 11, 12, 13, 14] : List Nat).all (fun pc => match xo_123 pc with | none => true | some r => decide (decode cX7_placeAt pc = .ok r)) = true := by decide +kernel
set_option maxRecDepth 100000 in
theorem xo_123_no : (List.range 15).all (fun pc => (xo_123 pc).isNone || (([0, 1, 4, 5, 6, 8, 9, 10, 11, 12, 13, 14] : List Nat).contains pc)) = true := by decide +kernel
theorem xo_123_top (pc : Nat) (h : 15 ≤ pc) : xo_123 pc = none := if_pos h
theorem xo_123_ok (pc : Nat) (r : Instr × Nat) (h : xo_123 pc = some r) : decode cX7_placeAt pc = .ok r := by
  rcases Nat.lt_or_ge pc 15 with hl | hl
  · have h1 := List.all_eq_true.mp xo_123_no pc (List.mem_range.mpr hl)
    rw [h] at h1
    simp only [Option.isNone_some, Bool.false_or, Bool.or_eq_true, List.contains_iff_mem, or_assoc] at h1
    rcases h1 with h1
    · have h2 := List.all_eq_true.mp xo_123_c0 pc h1
      rw [h] at h2
      exact of_decide_eq_true h2
  · rw [show xo_123 pc = none from if_pos hl] at h; cases h
/-- X7_racksInUse -/
def xo_124 (pc : Nat) : Option (Instr × Nat) := if 41 ≤ pc then none else if pc < 22 then (if pc < 12 then (if pc < 3 then (if pc < 1 then (if pc = 0 then some (.iconst 0, 1) else none) else (if pc < 2 then (if pc = 1 then some (.istore_n 3, 1) else none) else (if pc = 2 then some (.iconst 0, 1) else none))) else (if pc < 7 then (if pc < 5 then (if pc = 3 then some (.istore 4, 2) else none) else (if pc = 5 then some (.iload 4, 2) else none)) else (if pc < 9 then (if pc = 7 then some (.bipush 8, 2) else none) else (if pc = 9 then some (.if_icmp .ge 30, 3) else none)))) else (if pc < 15 then (if pc < 13 then (if pc = 12 then some (.iload_n 3, 1) else none) else (if pc < 14 then (if pc = 13 then some (.iconst 1, 1) else none) else (if pc = 14 then some (.aload_n 0, 1) else none))) else (if pc < 19 then (if pc < 18 then (if pc = 15 then some (.getfield 7, 3) else none) else (if pc = 18 then some (.iload_n 1, 1) else none)) else (if pc < 21 then (if pc = 19 then some (.bipush 8, 2) else none) else (if pc = 21 then some (.iadd, 1) else none))))) else (if pc < 30 then (if pc < 25 then (if pc < 23 then (if pc = 22 then some (.iload_n 2, 1) else none) else (if pc < 24 then (if pc = 23 then some (.iadd, 1) else none) else (if pc = 24 then some (.iaload, 1) else none))) else (if pc < 28 then (if pc < 27 then (if pc = 25 then some (.iload 4, 2) else none) else (if pc = 27 then some (.ishr, 1) else none)) else (if pc < 29 then (if pc = 28 then some (.iconst 1, 1) else none) else (if pc = 29 then some (.iand, 1) else none)))) else (if pc < 33 then (if pc < 31 then (if pc = 30 then some (.isub, 1) else none) else (if pc < 32 then (if pc = 31 then some (.iadd, 1) else none) else (if pc = 32 then some (.istore_n 3, 1) else none))) else (if pc < 39 then (if pc < 36 then (if pc = 33 then some (.iinc 4 1, 3) else none) else (if pc = 36 then some (.goto (-31), 3) else none)) else (if pc < 40 then (if pc = 39 then some (.iload_n 3, 1) else none) else (if pc = 40 then some (.ireturn, 1) else none)))))
set_option maxRecDepth 100000 in
theorem xo_124_c0 : ([0, 1, 2, 3, 5, 7, 9, 12, 13, 14, 15, 18, 19, 21, 22, 23, 24, 25, 27, 28, 29, 30, 31, 32, 33, 36, 39, 40] : List Nat).all (fun pc => match xo_124 pc with | none => true | some r => decide (decode cX7_racksInUse pc = .ok r)) = true := by decide +kernel
set_option maxRecDepth 100000 in
theorem xo_124_no : (List.range 41).all (fun pc => (xo_124 pc).isNone || (([0, 1, 2, 3, 5, 7, 9, 12, 13, 14, 15, 18, 19, 21, 22, 23, 24, 25, 27, 28, 29, 30, 31, 32, 33, 36, 39, 40] : List Nat).contains pc)) = true := by decide +kernel
theorem xo_124_top (pc : Nat) (h : 41 ≤ pc) : xo_124 pc = none := if_pos h
theorem xo_124_ok (pc : Nat) (r : Instr × Nat) (h : xo_124 pc = some r) : decode cX7_racksInUse pc = .ok r := by
  rcases Nat.lt_or_ge pc 41 with hl | hl
  · have h1 := List.all_eq_true.mp xo_124_no pc (List.mem_range.mpr hl)
    rw [h] at h1
    simp only [Option.isNone_some, Bool.false_or, Bool.or_eq_true, List.contains_iff_mem, or_assoc] at h1
    rcases h1 with h1
    · have h2 := List.all_eq_true.mp xo_124_c0 pc h1
      rw [h] at h2
      exact of_decide_eq_true h2
  · rw [show xo_124 pc = none from if_pos hl] at h; cases h
