/-- X5_aboutPerson -/
def xo_70 (pc : Nat) : Option (Instr × Nat) := if 186 ≤ pc then none else if pc < 116 then (if pc < 81 then (if pc < 63 then (if pc < 56 then (if pc < 52 then (if pc < 1 then (if pc = 0 then some (.iload_n 2, 1) else none) else (if pc = 1 then some (.tableswitch 182 0 8 #[51, 61, 71, 80, 90, 100, 131, 141, 172], 51) else none)) else (if pc < 53 then (if pc = 52 then some (.aload_n 0, 1) else none) else (if pc = 53 then some (.getfield 29, 3) else none))) else (if pc < 60 then (if pc < 59 then (if pc = 56 then some (.getfield 115, 3) else none) else (if pc = 59 then some (.iload_n 1, 1) else none)) else (if pc < 61 then (if pc = 60 then some (.iaload, 1) else none) else (if pc < 62 then (if pc = 61 then some (.ireturn, 1) else none) else (if pc = 62 then some (.aload_n 0, 1) else none))))) else (if pc < 72 then (if pc < 69 then (if pc < 66 then (if pc = 63 then some (.getfield 29, 3) else none) else (if pc = 66 then some (.getfield 105, 3) else none)) else (if pc < 70 then (if pc = 69 then some (.iload_n 1, 1) else none) else (if pc < 71 then (if pc = 70 then some (.iaload, 1) else none) else (if pc = 71 then some (.ireturn, 1) else none)))) else (if pc < 76 then (if pc < 73 then (if pc = 72 then some (.aload_n 0, 1) else none) else (if pc = 73 then some (.getfield 29, 3) else none)) else (if pc < 77 then (if pc = 76 then some (.iload_n 1, 1) else none) else (if pc < 80 then (if pc = 77 then some (.invokevirtual 190, 3) else none) else (if pc = 80 then some (.ireturn, 1) else none)))))) else (if pc < 98 then (if pc < 89 then (if pc < 85 then (if pc < 82 then (if pc = 81 then some (.aload_n 0, 1) else none) else (if pc = 82 then some (.getfield 36, 3) else none)) else (if pc < 88 then (if pc = 85 then some (.getfield 145, 3) else none) else (if pc = 88 then some (.iload_n 1, 1) else none))) else (if pc < 91 then (if pc < 90 then (if pc = 89 then some (.iaload, 1) else none) else (if pc = 90 then some (.ireturn, 1) else none)) else (if pc < 92 then (if pc = 91 then some (.aload_n 0, 1) else none) else (if pc < 95 then (if pc = 92 then some (.getfield 36, 3) else none) else (if pc = 95 then some (.getfield 193, 3) else none))))) else (if pc < 105 then (if pc < 100 then (if pc < 99 then (if pc = 98 then some (.iload_n 1, 1) else none) else (if pc = 99 then some (.iaload, 1) else none)) else (if pc < 101 then (if pc = 100 then some (.ireturn, 1) else none) else (if pc < 102 then (if pc = 101 then some (.aload_n 0, 1) else none) else (if pc = 102 then some (.getfield 36, 3) else none)))) else (if pc < 109 then (if pc < 106 then (if pc = 105 then some (.iload_n 1, 1) else none) else (if pc = 106 then some (.invokevirtual 118, 3) else none)) else (if pc < 112 then (if pc = 109 then some (.ifCond .eq 20, 3) else none) else (if pc < 113 then (if pc = 112 then some (.aload_n 0, 1) else none) else (if pc = 113 then some (.getfield 53, 3) else none))))))) else (if pc < 150 then (if pc < 132 then (if pc < 124 then (if pc < 120 then (if pc < 117 then (if pc = 116 then some (.aload_n 0, 1) else none) else (if pc = 117 then some (.getfield 36, 3) else none)) else (if pc < 123 then (if pc = 120 then some (.getfield 130, 3) else none) else (if pc = 123 then some (.iload_n 1, 1) else none))) else (if pc < 126 then (if pc < 125 then (if pc = 124 then some (.iaload, 1) else none) else (if pc = 125 then some (.isub, 1) else none)) else (if pc < 129 then (if pc = 126 then some (.goto 5, 3) else none) else (if pc < 131 then (if pc = 129 then some (.bipush (-6), 2) else none) else (if pc = 131 then some (.ireturn, 1) else none))))) else (if pc < 141 then (if pc < 136 then (if pc < 133 then (if pc = 132 then some (.aload_n 0, 1) else none) else (if pc = 133 then some (.getfield 36, 3) else none)) else (if pc < 139 then (if pc = 136 then some (.getfield 139, 3) else none) else (if pc < 140 then (if pc = 139 then some (.iload_n 1, 1) else none) else (if pc = 140 then some (.iaload, 1) else none)))) else (if pc < 143 then (if pc < 142 then (if pc = 141 then some (.ireturn, 1) else none) else (if pc = 142 then some (.aload_n 0, 1) else none)) else (if pc < 146 then (if pc = 143 then some (.getfield 36, 3) else none) else (if pc < 147 then (if pc = 146 then some (.iload_n 1, 1) else none) else (if pc = 147 then some (.invokevirtual 121, 3) else none)))))) else (if pc < 170 then (if pc < 161 then (if pc < 154 then (if pc < 153 then (if pc = 150 then some (.ifCond .eq 20, 3) else none) else (if pc = 153 then some (.aload_n 0, 1) else none)) else (if pc < 157 then (if pc = 154 then some (.getfield 53, 3) else none) else (if pc < 158 then (if pc = 157 then some (.aload_n 0, 1) else none) else (if pc = 158 then some (.getfield 36, 3) else none)))) else (if pc < 165 then (if pc < 164 then (if pc = 161 then some (.getfield 142, 3) else none) else (if pc = 164 then some (.iload_n 1, 1) else none)) else (if pc < 166 then (if pc = 165 then some (.iaload, 1) else none) else (if pc < 167 then (if pc = 166 then some (.isub, 1) else none) else (if pc = 167 then some (.goto 5, 3) else none))))) else (if pc < 180 then (if pc < 173 then (if pc < 172 then (if pc = 170 then some (.bipush (-6), 2) else none) else (if pc = 172 then some (.ireturn, 1) else none)) else (if pc < 174 then (if pc = 173 then some (.aload_n 0, 1) else none) else (if pc < 177 then (if pc = 174 then some (.getfield 36, 3) else none) else (if pc = 177 then some (.getfield 196, 3) else none)))) else (if pc < 182 then (if pc < 181 then (if pc = 180 then some (.iload_n 1, 1) else none) else (if pc = 181 then some (.iaload, 1) else none)) else (if pc < 183 then (if pc = 182 then some (.ireturn, 1) else none) else (if pc < 185 then (if pc = 183 then some (.bipush (-2), 2) else none) else (if pc = 185 then some (.ireturn, 1) else none)))))))
set_option maxRecDepth 100000 in
theorem xo_70_c0 : ([0, 1, 52, 53, 56, 59, 60, 61, 62, 63, 66, 69, 70, 71, 72, 73, 76, 77, 80, 81, 82, 85, 88, 89, 90, 91] : List Nat).all (fun pc => match xo_70 pc with | none => true | some r => decide (decode cX5_aboutPerson pc = .ok r)) = true := by decide +kernel
set_option maxRecDepth 100000 in
theorem xo_70_c1 : ([92, 95, 98, 99, 100, 101, 102, 105, 106, 109, 112, 113, 116, 117, 120, 123, 124, 125, 126, 129, 131, 132, 133, 136, 139, 140] : List Nat).all (fun pc => match xo_70 pc with | none => true | some r => decide (decode cX5_aboutPerson pc = .ok r)) = true := by decide +kernel
set_option maxRecDepth 100000 in
theorem xo_70_c2 : ([141, 142, 143, 146, 147, 150, 153, 154, 157, 158, 161, 164, 165, 166, 167, 170, 172, 173, 174, 177, 180, 181, 182, 183, 185] : List Nat).all (fun pc => match xo_70 pc with | none => true | some r => decide (decode cX5_aboutPerson pc = .ok r)) = true := by decide +kernel
set_option maxRecDepth 100000 in
theorem xo_70_no : (List.range 186).all (fun pc => (xo_70 pc).isNone || (([0, 1, 52, 53, 56, 59, 60, 61, 62, 63, 66, 69, 70, 71, 72, 73, 76, 77, 80, 81, 82, 85, 88, 89, 90, 91] : List Nat).contains pc || ([92, 95, 98, 99, 100, 101, 102, 105, 106, 109, 112, 113, 116, 117, 120, 123, 124, 125, 126, 129, 131, 132, 133, 136, 139, 140] : List Nat).contains pc || ([141, 142, 143, 146, 147, 150, 153, 154, 157, 158, 161, 164, 165, 166, 167, 170, 172, 173, 174, 177, 180, 181, 182, 183, 185] : List Nat).contains pc)) = true := by decide +kernel
theorem xo_70_top (pc : Nat) (h : 186 ≤ pc) : xo_70 pc = none := if_pos h
theorem xo_70_ok (pc : Nat) (r : Instr × Nat) (h : xo_70 pc = some r) : decode cX5_aboutPerson pc = .ok r := by
  rcases Nat.lt_or_ge pc 186 with hl | hl
  · have h1 := List.all_eq_true.mp xo_70_no pc (List.mem_range.mpr hl)
    rw [h] at h1
    simp only [Option.isNone_some, Bool.false_or, Bool.or_eq_true, List.contains_iff_mem, or_assoc] at h1
    rcases h1 with h1 | h1 | h1
    · have h2 := List.all_eq_true.mp xo_70_c0 pc h1
      rw [h] at h2
      exact of_decide_eq_true h2
    · have h2 := List.all_eq_true.mp xo_70_c1 pc h1
      rw [h] at h2
      exact of_decide_eq_true h2
    · have h2 := List.all_eq_true.mp xo_70_c2 pc h1
      rw [h] at h2
      exact of_decide_eq_true h2
  · rw [show xo_70 pc = none from if_pos hl] at h; cases h
/-- X5_racksWithoutPermit -/
def xo_71 (pc : Nat) : Option (Instr × Nat) := if 53 ≤ pc then none else if pc < 25 then (if pc < 11 then (if pc < 4 then (if pc < 2 then (if pc < 1 then (if pc = 0 then some (.iconst 0, 1) else none) else (if pc = 1 then some (.istore_n 2, 1) else none)) else (if pc < 3 then (if pc = 2 then some (.iconst 0, 1) else none) else (if pc = 3 then some (.istore_n 3, 1) else none))) else (if pc < 7 then (if pc < 5 then (if pc = 4 then some (.iload_n 3, 1) else none) else (if pc = 5 then some (.bipush 20, 2) else none)) else (if pc < 10 then (if pc = 7 then some (.if_icmp .ge 44, 3) else none) else (if pc = 10 then some (.aload_n 0, 1) else none)))) else (if pc < 19 then (if pc < 17 then (if pc < 14 then (if pc = 11 then some (.getfield 36, 3) else none) else (if pc = 14 then some (.getfield 145, 3) else none)) else (if pc < 18 then (if pc = 17 then some (.iload_n 3, 1) else none) else (if pc = 18 then some (.iaload, 1) else none))) else (if pc < 23 then (if pc < 20 then (if pc = 19 then some (.iload_n 1, 1) else none) else (if pc = 20 then some (.if_icmp .ne 25, 3) else none)) else (if pc < 24 then (if pc = 23 then some (.aload_n 0, 1) else none) else (if pc = 24 then some (.iload_n 3, 1) else none))))) else (if pc < 41 then (if pc < 33 then (if pc < 31 then (if pc < 28 then (if pc = 25 then some (.invokevirtual 187, 3) else none) else (if pc = 28 then some (.ifCond .eq 17, 3) else none)) else (if pc < 32 then (if pc = 31 then some (.iload_n 2, 1) else none) else (if pc = 32 then some (.iconst 1, 1) else none))) else (if pc < 37 then (if pc < 34 then (if pc = 33 then some (.aload_n 0, 1) else none) else (if pc = 34 then some (.getfield 36, 3) else none)) else (if pc < 40 then (if pc = 37 then some (.getfield 193, 3) else none) else (if pc = 40 then some (.iload_n 3, 1) else none)))) else (if pc < 45 then (if pc < 43 then (if pc < 42 then (if pc = 41 then some (.iaload, 1) else none) else (if pc = 42 then some (.ishl, 1) else none)) else (if pc < 44 then (if pc = 43 then some (.ior, 1) else none) else (if pc = 44 then some (.istore_n 2, 1) else none))) else (if pc < 51 then (if pc < 48 then (if pc = 45 then some (.iinc 3 1, 3) else none) else (if pc = 48 then some (.goto (-44), 3) else none)) else (if pc < 52 then (if pc = 51 then some (.iload_n 2, 1) else none) else (if pc = 52 then some (.ireturn, 1) else none)))))
set_option maxRecDepth 100000 in
theorem xo_71_c0 : ([0, 1, 2, 3, 4, 5, 7, 10, 11, 14, 17, 18, 19, 20, 23, 24, 25, 28, 31, 32, 33, 34, 37, 40, 41, 42, 43, 44, 45, 48, 51, 52] : List Nat).all (fun pc => match xo_71 pc with | none => true | some r => decide (decode cX5_racksWithoutPermit pc = .ok r)) = true := by decide +kernel
set_option maxRecDepth 100000 in
theorem xo_71_no : (List.range 53).all (fun pc => (xo_71 pc).isNone || (([0, 1, 2, 3, 4, 5, 7, 10, 11, 14, 17, 18, 19, 20, 23, 24, 25, 28, 31, 32, 33, 34, 37, 40, 41, 42, 43, 44, 45, 48, 51, 52] : List Nat).contains pc)) = true := by decide +kernel
theorem xo_71_top (pc : Nat) (h : 53 ≤ pc) : xo_71 pc = none := if_pos h
theorem xo_71_ok (pc : Nat) (r : Instr × Nat) (h : xo_71 pc = some r) : decode cX5_racksWithoutPermit pc = .ok r := by
  rcases Nat.lt_or_ge pc 53 with hl | hl
  · have h1 := List.all_eq_true.mp xo_71_no pc (List.mem_range.mpr hl)
    rw [h] at h1
    simp only [Option.isNone_some, Bool.false_or, Bool.or_eq_true, List.contains_iff_mem, or_assoc] at h1
    rcases h1 with h1
    · have h2 := List.all_eq_true.mp xo_71_c0 pc h1
      rw [h] at h2
      exact of_decide_eq_true h2
  · rw [show xo_71 pc = none from if_pos hl] at h; cases h
/-- X5_aboutShed -/
def xo_72 (pc : Nat) : Option (Instr × Nat) := if 102 ≤ pc then none else if pc < 70 then (if pc < 53 then (if pc < 48 then (if pc < 44 then (if pc < 1 then (if pc = 0 then some (.iload_n 2, 1) else none) else (if pc = 1 then some (.tableswitch 98 0 6 #[43, 50, 56, 65, 74, 83, 92], 43) else none)) else (if pc < 45 then (if pc = 44 then some (.aload_n 0, 1) else none) else (if pc = 45 then some (.getfield 23, 3) else none))) else (if pc < 50 then (if pc < 49 then (if pc = 48 then some (.iload_n 1, 1) else none) else (if pc = 49 then some (.iaload, 1) else none)) else (if pc < 51 then (if pc = 50 then some (.ireturn, 1) else none) else (if pc < 52 then (if pc = 51 then some (.aload_n 0, 1) else none) else (if pc = 52 then some (.iload_n 1, 1) else none))))) else (if pc < 61 then (if pc < 57 then (if pc < 56 then (if pc = 53 then some (.invokevirtual 88, 3) else none) else (if pc = 56 then some (.ireturn, 1) else none)) else (if pc < 58 then (if pc = 57 then some (.aload_n 0, 1) else none) else (if pc = 58 then some (.getfield 29, 3) else none))) else (if pc < 65 then (if pc < 62 then (if pc = 61 then some (.iload_n 1, 1) else none) else (if pc = 62 then some (.invokevirtual 84, 3) else none)) else (if pc < 66 then (if pc = 65 then some (.ireturn, 1) else none) else (if pc < 67 then (if pc = 66 then some (.aload_n 0, 1) else none) else (if pc = 67 then some (.getfield 29, 3) else none)))))) else (if pc < 85 then (if pc < 76 then (if pc < 74 then (if pc < 71 then (if pc = 70 then some (.iload_n 1, 1) else none) else (if pc = 71 then some (.invokevirtual 91, 3) else none)) else (if pc < 75 then (if pc = 74 then some (.ireturn, 1) else none) else (if pc = 75 then some (.aload_n 0, 1) else none))) else (if pc < 80 then (if pc < 79 then (if pc = 76 then some (.getfield 36, 3) else none) else (if pc = 79 then some (.iload_n 1, 1) else none)) else (if pc < 83 then (if pc = 80 then some (.invokevirtual 184, 3) else none) else (if pc < 84 then (if pc = 83 then some (.ireturn, 1) else none) else (if pc = 84 then some (.aload_n 0, 1) else none))))) else (if pc < 94 then (if pc < 89 then (if pc < 88 then (if pc = 85 then some (.getfield 36, 3) else none) else (if pc = 88 then some (.iload_n 1, 1) else none)) else (if pc < 92 then (if pc = 89 then some (.invokevirtual 199, 3) else none) else (if pc < 93 then (if pc = 92 then some (.ireturn, 1) else none) else (if pc = 93 then some (.aload_n 0, 1) else none)))) else (if pc < 98 then (if pc < 95 then (if pc = 94 then some (.iload_n 1, 1) else none) else (if pc = 95 then some (.invokevirtual 202, 3) else none)) else (if pc < 99 then (if pc = 98 then some (.ireturn, 1) else none) else (if pc < 101 then (if pc = 99 then some (.bipush (-2), 2) else none) else (if pc = 101 then some (.ireturn, 1) else none))))))
set_option maxRecDepth 100000 in
theorem xo_72_c0 : ([0, 1, 44, 45, 48, 49, 50, 51, 52, 53, 56, 57, 58, 61, 62, 65, 66, 67, 70, 71, 74, 75, 76, 79, 80, 83, 84, 85, 88, 89, 92, 93, 94, 95, 98, 99, 101] : List Nat).all (fun pc => match xo_72 pc with | none => true | some r => decide (decode cX5_aboutShed pc = .ok r)) = true := by decide +kernel
set_option maxRecDepth 100000 in
theorem xo_72_no : (List.range 102).all (fun pc => (xo_72 pc).isNone || (([0, 1, 44, 45, 48, 49, 50, 51, 52, 53, 56, 57, 58, 61, 62, 65, 66, 67, 70, 71, 74, 75, 76, 79, 80, 83, 84, 85, 88, 89, 92, 93, 94, 95, 98, 99, 101] : List Nat).contains pc)) = true := by decide +kernel
theorem xo_72_top (pc : Nat) (h : 102 ≤ pc) : xo_72 pc = none := if_pos h
theorem xo_72_ok (pc : Nat) (r : Instr × Nat) (h : xo_72 pc = some r) : decode cX5_aboutShed pc = .ok r := by
  rcases Nat.lt_or_ge pc 102 with hl | hl
  · have h1 := List.all_eq_true.mp xo_72_no pc (List.mem_range.mpr hl)
    rw [h] at h1
    simp only [Option.isNone_some, Bool.false_or, Bool.or_eq_true, List.contains_iff_mem, or_assoc] at h1
    rcases h1 with h1
    · have h2 := List.all_eq_true.mp xo_72_c0 pc h1
      rw [h] at h2
      exact of_decide_eq_true h2
  · rw [show xo_72 pc = none from if_pos hl] at h; cases h
/-- X5_aboutAll -/
def xo_73 (pc : Nat) : Option (Instr × Nat) := if 147 ≤ pc then none else if pc < 104 then (if pc < 81 then (if pc < 73 then (if pc < 68 then (if pc < 1 then (if pc = 0 then some (.iload_n 1, 1) else none) else (if pc = 1 then some (.tableswitch 143 0 12 #[67, 67, 67, 67, 74, 79, 87, 95, 103, 111, 119, 127, 135], 67) else none)) else (if pc < 69 then (if pc = 68 then some (.aload_n 0, 1) else none) else (if pc < 72 then (if pc = 69 then some (.getfield 18, 3) else none) else (if pc = 72 then some (.iload_n 1, 1) else none)))) else (if pc < 76 then (if pc < 74 then (if pc = 73 then some (.iaload, 1) else none) else (if pc < 75 then (if pc = 74 then some (.ireturn, 1) else none) else (if pc = 75 then some (.aload_n 0, 1) else none))) else (if pc < 79 then (if pc = 76 then some (.getfield 53, 3) else none) else (if pc < 80 then (if pc = 79 then some (.ireturn, 1) else none) else (if pc = 80 then some (.aload_n 0, 1) else none))))) else (if pc < 92 then (if pc < 87 then (if pc < 84 then (if pc = 81 then some (.getfield 29, 3) else none) else (if pc = 84 then some (.invokevirtual 205, 3) else none)) else (if pc < 88 then (if pc = 87 then some (.ireturn, 1) else none) else (if pc < 89 then (if pc = 88 then some (.aload_n 0, 1) else none) else (if pc = 89 then some (.getfield 29, 3) else none)))) else (if pc < 97 then (if pc < 95 then (if pc = 92 then some (.invokevirtual 209, 3) else none) else (if pc < 96 then (if pc = 95 then some (.ireturn, 1) else none) else (if pc = 96 then some (.aload_n 0, 1) else none))) else (if pc < 100 then (if pc = 97 then some (.getfield 36, 3) else none) else (if pc < 103 then (if pc = 100 then some (.invokevirtual 212, 3) else none) else (if pc = 103 then some (.ireturn, 1) else none)))))) else (if pc < 127 then (if pc < 113 then (if pc < 108 then (if pc < 105 then (if pc = 104 then some (.aload_n 0, 1) else none) else (if pc = 105 then some (.getfield 36, 3) else none)) else (if pc < 111 then (if pc = 108 then some (.invokevirtual 215, 3) else none) else (if pc < 112 then (if pc = 111 then some (.ireturn, 1) else none) else (if pc = 112 then some (.aload_n 0, 1) else none)))) else (if pc < 120 then (if pc < 116 then (if pc = 113 then some (.getfield 36, 3) else none) else (if pc < 119 then (if pc = 116 then some (.invokevirtual 218, 3) else none) else (if pc = 119 then some (.ireturn, 1) else none))) else (if pc < 121 then (if pc = 120 then some (.aload_n 0, 1) else none) else (if pc < 124 then (if pc = 121 then some (.getfield 36, 3) else none) else (if pc = 124 then some (.invokevirtual 221, 3) else none))))) else (if pc < 136 then (if pc < 129 then (if pc < 128 then (if pc = 127 then some (.ireturn, 1) else none) else (if pc = 128 then some (.aload_n 0, 1) else none)) else (if pc < 132 then (if pc = 129 then some (.getfield 36, 3) else none) else (if pc < 135 then (if pc = 132 then some (.getfield 224, 3) else none) else (if pc = 135 then some (.ireturn, 1) else none)))) else (if pc < 143 then (if pc < 137 then (if pc = 136 then some (.aload_n 0, 1) else none) else (if pc < 140 then (if pc = 137 then some (.getfield 29, 3) else none) else (if pc = 140 then some (.getfield 164, 3) else none))) else (if pc < 144 then (if pc = 143 then some (.ireturn, 1) else none) else (if pc < 146 then (if pc = 144 then some (.bipush (-2), 2) else none) else (if pc = 146 then some (.ireturn, 1) else none))))))
set_option maxRecDepth 100000 in
theorem xo_73_c0 : ([0, 1, 68, 69, 72, 73, 74, 75, 76, 79, 80, 81, 84, 87, 88, 89, 92, 95, 96, 97, 100, 103, 104, 105, 108, 111, 112, 113, 116, 119, 120, 121, 124, 127] : List Nat).all (fun pc => match xo_73 pc with | none => true | some r => decide (decode cX5_aboutAll pc = .ok r)) = true := by decide +kernel
set_option maxRecDepth 100000 in
theorem xo_73_c1 : ([128, 129, 132, 135, 136, 137, 140, 143, 144, 146] : List Nat).all (fun pc => match xo_73 pc with | none => true | some r => decide (decode cX5_aboutAll pc = .ok r)) = true := by decide +kernel
set_option maxRecDepth 100000 in
theorem xo_73_no : (List.range 147).all (fun pc => (xo_73 pc).isNone || (([0, 1, 68, 69, 72, 73, 74, 75, 76, 79, 80, 81, 84, 87, 88, 89, 92, 95, 96, 97, 100, 103, 104, 105, 108, 111, 112, 113, 116, 119, 120, 121, 124, 127] : List Nat).contains pc || ([128, 129, 132, 135, 136, 137, 140, 143, 144, 146] : List Nat).contains pc)) = true := by decide +kernel
theorem xo_73_top (pc : Nat) (h : 147 ≤ pc) : xo_73 pc = none := if_pos h
theorem xo_73_ok (pc : Nat) (r : Instr × Nat) (h : xo_73 pc = some r) : decode cX5_aboutAll pc = .ok r := by
  rcases Nat.lt_or_ge pc 147 with hl | hl
  · have h1 := List.all_eq_true.mp xo_73_no pc (List.mem_range.mpr hl)
    rw [h] at h1
    simp only [Option.isNone_some, Bool.false_or, Bool.or_eq_true, List.contains_iff_mem, or_assoc] at h1
    rcases h1 with h1 | h1
    · have h2 := List.all_eq_true.mp xo_73_c0 pc h1
      rw [h] at h2
      exact of_decide_eq_true h2
    · have h2 := List.all_eq_true.mp xo_73_c1 pc h1
      rw [h] at h2
      exact of_decide_eq_true h2
  · rw [show xo_73 pc = none from if_pos hl] at h; cases h
/-- X6_init -/
def xo_74 (pc : Nat) : Option (Instr × Nat) := if 68 ≤ pc then none else if pc < 34 then (if pc < 16 then (if pc < 8 then (if pc < 4 then (if pc < 1 then (if pc = 0 then some (.aload_n 0, 1) else none) else (if pc = 1 then some (.invokespecial 3, 3) else none)) else (if pc < 5 then (if pc = 4 then some (.aload_n 0, 1) else none) else (if pc = 5 then some (.new 9, 3) else none))) else (if pc < 12 then (if pc < 9 then (if pc = 8 then some (.dup, 1) else none) else (if pc = 9 then some (.invokespecial 11, 3) else none)) else (if pc < 15 then (if pc = 12 then some (.putfield 12, 3) else none) else (if pc = 15 then some (.aload_n 0, 1) else none)))) else (if pc < 26 then (if pc < 20 then (if pc < 19 then (if pc = 16 then some (.new 9, 3) else none) else (if pc = 19 then some (.dup, 1) else none)) else (if pc < 23 then (if pc = 20 then some (.invokespecial 11, 3) else none) else (if pc = 23 then some (.putfield 16, 3) else none))) else (if pc < 30 then (if pc < 27 then (if pc = 26 then some (.aload_n 0, 1) else none) else (if pc = 27 then some (.new 9, 3) else none)) else (if pc < 31 then (if pc = 30 then some (.dup, 1) else none) else (if pc = 31 then some (.invokespecial 11, 3) else none))))) else (if pc < 50 then (if pc < 42 then (if pc < 38 then (if pc < 37 then (if pc = 34 then some (.putfield 19, 3) else none) else (if pc = 37 then some (.aload_n 0, 1) else none)) else (if pc < 41 then (if pc = 38 then some (.new 22, 3) else none) else (if pc = 41 then some (.dup, 1) else none))) else (if pc < 48 then (if pc < 45 then (if pc = 42 then some (.invokespecial 24, 3) else none) else (if pc = 45 then some (.putfield 25, 3) else none)) else (if pc < 49 then (if pc = 48 then some (.aload_n 0, 1) else none) else (if pc = 49 then some (.iconst 2, 1) else none)))) else (if pc < 60 then (if pc < 56 then (if pc < 53 then (if pc = 50 then some (.anewarray 9, 3) else none) else (if pc = 53 then some (.putfield 29, 3) else none)) else (if pc < 57 then (if pc = 56 then some (.aload_n 0, 1) else none) else (if pc = 57 then some (.new 33, 3) else none))) else (if pc < 64 then (if pc < 61 then (if pc = 60 then some (.dup, 1) else none) else (if pc = 61 then some (.invokespecial 35, 3) else none)) else (if pc < 67 then (if pc = 64 then some (.putfield 36, 3) else none) else (if pc = 67 then some (.return_, 1) else none)))))
set_option maxRecDepth 100000 in
theorem xo_74_c0 : ([0, 1, 4, 5, 8, 9, 12, 15, 16, 19, 20, 23, 26, 27, 30, 31, 34, 37, 38, 41, 42, 45, 48, 49, 50, 53, 56, 57, 60, 61, 64, 67] : List Nat).all (fun pc => match xo_74 pc with | none => true | some r => decide (decode cX6_init pc = .ok r)) = true := by decide +kernel
set_option maxRecDepth 100000 in
theorem xo_74_no : (List.range 68).all (fun pc => (xo_74 pc).isNone || (([0, 1, 4, 5, 8, 9, 12, 15, 16, 19, 20, 23, 26, 27, 30, 31, 34, 37, 38, 41, 42, 45, 48, 49, 50, 53, 56, 57, 60, 61, 64, 67] : List Nat).contains pc)) = true := by decide +kernel
theorem xo_74_top (pc : Nat) (h : 68 ≤ pc) : xo_74 pc = none := if_pos h
theorem xo_74_ok (pc : Nat) (r : Instr × Nat) (h : xo_74 pc = some r) : decode cX6_init pc = .ok r := by
  rcases Nat.lt_or_ge pc 68 with hl | hl
  · have h1 := List.all_eq_true.mp xo_74_no pc (List.mem_range.mpr hl)
    rw [h] at h1
    simp only [Option.isNone_some, Bool.false_or, Bool.or_eq_true, List.contains_iff_mem, or_assoc] at h1
    rcases h1 with h1
    · have h2 := List.all_eq_true.mp xo_74_c0 pc h1
      rw [h] at h2
      exact of_decide_eq_true h2
  · rw [show xo_74 pc = none from if_pos hl] at h; cases h
/-- X6_recorded -/
def xo_75 (pc : Nat) : Option (Instr × Nat) := if 17 ≤ pc then none else if pc < 8 then (if pc < 4 then (if pc < 1 then (if pc = 0 then some (.iload_n 1, 1) else none) else (if pc = 1 then some (.ifCond .lt 14, 3) else none)) else (if pc < 5 then (if pc = 4 then some (.aload_n 0, 1) else none) else (if pc = 5 then some (.getfield 25, 3) else none))) else (if pc < 12 then (if pc < 9 then (if pc = 8 then some (.aload_n 0, 1) else none) else (if pc = 9 then some (.getfield 16, 3) else none)) else (if pc < 15 then (if pc = 12 then some (.invokevirtual 183, 3) else none) else (if pc < 16 then (if pc = 15 then some (.iload_n 1, 1) else none) else (if pc = 16 then some (.ireturn, 1) else none))))
set_option maxRecDepth 100000 in
theorem xo_75_c0 : ([0, 1, 4, 5, 8, 9, 12, 15, 16] : List Nat).all (fun pc => match xo_75 pc with | none => true | some r => decide (decode cX6_recorded pc = .ok r)) = true := by decide +kernel
set_option maxRecDepth 100000 in
theorem xo_75_no : (List.range 17).all (fun pc => (xo_75 pc).isNone || (([0, 1, 4, 5, 8, 9, 12, 15, 16] : List Nat).contains pc)) = true := by decide +kernel
theorem xo_75_top (pc : Nat) (h : 17 ≤ pc) : xo_75 pc = none := if_pos h
theorem xo_75_ok (pc : Nat) (r : Instr × Nat) (h : xo_75 pc = some r) : decode cX6_recorded pc = .ok r := by
  rcases Nat.lt_or_ge pc 17 with hl | hl
  · have h1 := List.all_eq_true.mp xo_75_no pc (List.mem_range.mpr hl)
    rw [h] at h1
    simp only [Option.isNone_some, Bool.false_or, Bool.or_eq_true, List.contains_iff_mem, or_assoc] at h1
    rcases h1 with h1
    · have h2 := List.all_eq_true.mp xo_75_c0 pc h1
      rw [h] at h2
      exact of_decide_eq_true h2
  · rw [show xo_75 pc = none from if_pos hl] at h; cases h
/-- X6_set -/
def xo_76 (pc : Nat) : Option (Instr × Nat) := if 25 ≤ pc then none else if pc < 12 then (if pc < 5 then (if pc < 1 then (if pc = 0 then some (.aload_n 0, 1) else none) else (if pc < 4 then (if pc = 1 then some (.getfield 16, 3) else none) else (if pc = 4 then some (.aload_n 0, 1) else none))) else (if pc < 8 then (if pc = 5 then some (.getfield 12, 3) else none) else (if pc < 11 then (if pc = 8 then some (.invokevirtual 40, 3) else none) else (if pc = 11 then some (.aload_n 0, 1) else none)))) else (if pc < 17 then (if pc < 13 then (if pc = 12 then some (.aload_n 0, 1) else none) else (if pc < 16 then (if pc = 13 then some (.getfield 12, 3) else none) else (if pc = 16 then some (.iload_n 1, 1) else none))) else (if pc < 21 then (if pc < 18 then (if pc = 17 then some (.iload_n 2, 1) else none) else (if pc = 18 then some (.invokevirtual 44, 3) else none)) else (if pc < 24 then (if pc = 21 then some (.invokevirtual 48, 3) else none) else (if pc = 24 then some (.ireturn, 1) else none))))
set_option maxRecDepth 100000 in
theorem xo_76_c0 : ([0, 1, 4, 5, 8, 11, 12, 13, 16, 17, 18, 21, 24] : List Nat).all (fun pc => match xo_76 pc with | none => true | some r => decide (decode cX6_set pc = .ok r)) = true := by decide +kernel
set_option maxRecDepth 100000 in
theorem xo_76_no : (List.range 25).all (fun pc => (xo_76 pc).isNone || (([0, 1, 4, 5, 8, 11, 12, 13, 16, 17, 18, 21, 24] : List Nat).contains pc)) = true := by decide +kernel
theorem xo_76_top (pc : Nat) (h : 25 ≤ pc) : xo_76 pc = none := if_pos h
theorem xo_76_ok (pc : Nat) (r : Instr × Nat) (h : xo_76 pc = some r) : decode cX6_set pc = .ok r := by
  rcases Nat.lt_or_ge pc 25 with hl | hl
  · have h1 := List.all_eq_true.mp xo_76_no pc (List.mem_range.mpr hl)
    rw [h] at h1
    simp only [Option.isNone_some, Bool.false_or, Bool.or_eq_true, List.contains_iff_mem, or_assoc] at h1
    rcases h1 with h1
    · have h2 := List.all_eq_true.mp xo_76_c0 pc h1
      rw [h] at h2
      exact of_decide_eq_true h2
  · rw [show xo_76 pc = none from if_pos hl] at h; cases h
/-- X6_ask -/
def xo_77 (pc : Nat) : Option (Instr × Nat) := if 26 ≤ pc then none else if pc < 13 then (if pc < 5 then (if pc < 1 then (if pc = 0 then some (.aload_n 0, 1) else none) else (if pc < 4 then (if pc = 1 then some (.getfield 16, 3) else none) else (if pc = 4 then some (.aload_n 0, 1) else none))) else (if pc < 11 then (if pc < 8 then (if pc = 5 then some (.getfield 12, 3) else none) else (if pc = 8 then some (.invokevirtual 40, 3) else none)) else (if pc < 12 then (if pc = 11 then some (.aload_n 0, 1) else none) else (if pc = 12 then some (.aload_n 0, 1) else none)))) else (if pc < 18 then (if pc < 16 then (if pc = 13 then some (.getfield 12, 3) else none) else (if pc < 17 then (if pc = 16 then some (.iload_n 1, 1) else none) else (if pc = 17 then some (.iload_n 2, 1) else none))) else (if pc < 22 then (if pc < 19 then (if pc = 18 then some (.iload_n 3, 1) else none) else (if pc = 19 then some (.invokevirtual 52, 3) else none)) else (if pc < 25 then (if pc = 22 then some (.invokevirtual 48, 3) else none) else (if pc = 25 then some (.ireturn, 1) else none))))
set_option maxRecDepth 100000 in
theorem xo_77_c0 : ([0, 1, 4, 5, 8, 11, 12, 13, 16, 17, 18, 19, 22, 25] : List Nat).all (fun pc => match xo_77 pc with | none => true | some r => decide (decode cX6_ask pc = .ok r)) = true := by decide +kernel
set_option maxRecDepth 100000 in
theorem xo_77_no : (List.range 26).all (fun pc => (xo_77 pc).isNone || (([0, 1, 4, 5, 8, 11, 12, 13, 16, 17, 18, 19, 22, 25] : List Nat).contains pc)) = true := by decide +kernel
theorem xo_77_top (pc : Nat) (h : 26 ≤ pc) : xo_77 pc = none := if_pos h
theorem xo_77_ok (pc : Nat) (r : Instr × Nat) (h : xo_77 pc = some r) : decode cX6_ask pc = .ok r := by
  rcases Nat.lt_or_ge pc 26 with hl | hl
  · have h1 := List.all_eq_true.mp xo_77_no pc (List.mem_range.mpr hl)
    rw [h] at h1
    simp only [Option.isNone_some, Bool.false_or, Bool.or_eq_true, List.contains_iff_mem, or_assoc] at h1
    rcases h1 with h1
    · have h2 := List.all_eq_true.mp xo_77_c0 pc h1
      rw [h] at h2
      exact of_decide_eq_true h2
  · rw [show xo_77 pc = none from if_pos hl] at h; cases h
/-- X6_giveUp -/
def xo_78 (pc : Nat) : Option (Instr × Nat) := if 24 ≤ pc then none else if pc < 12 then (if pc < 5 then (if pc < 1 then (if pc = 0 then some (.aload_n 0, 1) else none) else (if pc < 4 then (if pc = 1 then some (.getfield 16, 3) else none) else (if pc = 4 then some (.aload_n 0, 1) else none))) else (if pc < 8 then (if pc = 5 then some (.getfield 12, 3) else none) else (if pc < 11 then (if pc = 8 then some (.invokevirtual 40, 3) else none) else (if pc = 11 then some (.aload_n 0, 1) else none)))) else (if pc < 17 then (if pc < 13 then (if pc = 12 then some (.aload_n 0, 1) else none) else (if pc < 16 then (if pc = 13 then some (.getfield 12, 3) else none) else (if pc = 16 then some (.iload_n 1, 1) else none))) else (if pc < 20 then (if pc = 17 then some (.invokevirtual 56, 3) else none) else (if pc < 23 then (if pc = 20 then some (.invokevirtual 48, 3) else none) else (if pc = 23 then some (.ireturn, 1) else none))))
set_option maxRecDepth 100000 in
theorem xo_78_c0 : ([0, 1, 4, 5, 8, 11, 12, 13, 16, 17, 20, 23] : List Nat).all (fun pc => match xo_78 pc with | none => true | some r => decide (decode cX6_giveUp pc = .ok r)) = true := by decide +kernel
set_option maxRecDepth 100000 in
theorem xo_78_no : (List.range 24).all (fun pc => (xo_78 pc).isNone || (([0, 1, 4, 5, 8, 11, 12, 13, 16, 17, 20, 23] : List Nat).contains pc)) = true := by decide +kernel
theorem xo_78_top (pc : Nat) (h : 24 ≤ pc) : xo_78 pc = none := if_pos h
theorem xo_78_ok (pc : Nat) (r : Instr × Nat) (h : xo_78 pc = some r) : decode cX6_giveUp pc = .ok r := by
  rcases Nat.lt_or_ge pc 24 with hl | hl
  · have h1 := List.all_eq_true.mp xo_78_no pc (List.mem_range.mpr hl)
    rw [h] at h1
    simp only [Option.isNone_some, Bool.false_or, Bool.or_eq_true, List.contains_iff_mem, or_assoc] at h1
    rcases h1 with h1
    · have h2 := List.all_eq_true.mp xo_78_c0 pc h1
      rw [h] at h2
      exact of_decide_eq_true h2
  · rw [show xo_78 pc = none from if_pos hl] at h; cases h
/-- X6_prolong -/
def xo_79 (pc : Nat) : Option (Instr × Nat) := if 25 ≤ pc then none else if pc < 12 then (if pc < 5 then (if pc < 1 then (if pc = 0 then some (.aload_n 0, 1) else none) else (if pc < 4 then (if pc = 1 then some (.getfield 16, 3) else none) else (if pc = 4 then some (.aload_n 0, 1) else none))) else (if pc < 8 then (if pc = 5 then some (.getfield 12, 3) else none) else (if pc < 11 then (if pc = 8 then some (.invokevirtual 40, 3) else none) else (if pc = 11 then some (.aload_n 0, 1) else none)))) else (if pc < 17 then (if pc < 13 then (if pc = 12 then some (.aload_n 0, 1) else none) else (if pc < 16 then (if pc = 13 then some (.getfield 12, 3) else none) else (if pc = 16 then some (.iload_n 1, 1) else none))) else (if pc < 21 then (if pc < 18 then (if pc = 17 then some (.iload_n 2, 1) else none) else (if pc = 18 then some (.invokevirtual 59, 3) else none)) else (if pc < 24 then (if pc = 21 then some (.invokevirtual 48, 3) else none) else (if pc = 24 then some (.ireturn, 1) else none))))
set_option maxRecDepth 100000 in
theorem xo_79_c0 : ([0, 1, 4, 5, 8, 11, 12, 13, 16, 17, 18, 21, 24] : List Nat).all (fun pc => match xo_79 pc with | none => true | some r => decide (decode cX6_prolong pc = .ok r)) = true := by decide +kernel
set_option maxRecDepth 100000 in
theorem xo_79_no : (List.range 25).all (fun pc => (xo_79 pc).isNone || (([0, 1, 4, 5, 8, 11, 12, 13, 16, 17, 18, 21, 24] : List Nat).contains pc)) = true := by decide +kernel
theorem xo_79_top (pc : Nat) (h : 25 ≤ pc) : xo_79 pc = none := if_pos h
theorem xo_79_ok (pc : Nat) (r : Instr × Nat) (h : xo_79 pc = some r) : decode cX6_prolong pc = .ok r := by
  rcases Nat.lt_or_ge pc 25 with hl | hl
  · have h1 := List.all_eq_true.mp xo_79_no pc (List.mem_range.mpr hl)
    rw [h] at h1
    simp only [Option.isNone_some, Bool.false_or, Bool.or_eq_true, List.contains_iff_mem, or_assoc] at h1
    rcases h1 with h1
    · have h2 := List.all_eq_true.mp xo_79_c0 pc h1
      rw [h] at h2
      exact of_decide_eq_true h2
  · rw [show xo_79 pc = none from if_pos hl] at h; cases h
/-- X6_park -/
def xo_80 (pc : Nat) : Option (Instr × Nat) := if 24 ≤ pc then none else if pc < 12 then (if pc < 5 then (if pc < 1 then (if pc = 0 then some (.aload_n 0, 1) else none) else (if pc < 4 then (if pc = 1 then some (.getfield 16, 3) else none) else (if pc = 4 then some (.aload_n 0, 1) else none))) else (if pc < 8 then (if pc = 5 then some (.getfield 12, 3) else none) else (if pc < 11 then (if pc = 8 then some (.invokevirtual 40, 3) else none) else (if pc = 11 then some (.aload_n 0, 1) else none)))) else (if pc < 17 then (if pc < 13 then (if pc = 12 then some (.aload_n 0, 1) else none) else (if pc < 16 then (if pc = 13 then some (.getfield 12, 3) else none) else (if pc = 16 then some (.iload_n 1, 1) else none))) else (if pc < 20 then (if pc = 17 then some (.invokevirtual 62, 3) else none) else (if pc < 23 then (if pc = 20 then some (.invokevirtual 48, 3) else none) else (if pc = 23 then some (.ireturn, 1) else none))))
set_option maxRecDepth 100000 in
theorem xo_80_c0 : ([0, 1, 4, 5, 8, 11, 12, 13, 16, 17, 20, 23] : List Nat).all (fun pc => match xo_80 pc with | none => true | some r => decide (decode cX6_park pc = .ok r)) = true := by decide +kernel
set_option maxRecDepth 100000 in
theorem xo_80_no : (List.range 24).all (fun pc => (xo_80 pc).isNone || (([0, 1, 4, 5, 8, 11, 12, 13, 16, 17, 20, 23] : List Nat).contains pc)) = true := by decide +kernel
theorem xo_80_top (pc : Nat) (h : 24 ≤ pc) : xo_80 pc = none := if_pos h
theorem xo_80_ok (pc : Nat) (r : Instr × Nat) (h : xo_80 pc = some r) : decode cX6_park pc = .ok r := by
  rcases Nat.lt_or_ge pc 24 with hl | hl
  · have h1 := List.all_eq_true.mp xo_80_no pc (List.mem_range.mpr hl)
    rw [h] at h1
    simp only [Option.isNone_some, Bool.false_or, Bool.or_eq_true, List.contains_iff_mem, or_assoc] at h1
    rcases h1 with h1
    · have h2 := List.all_eq_true.mp xo_80_c0 pc h1
      rw [h] at h2
      exact of_decide_eq_true h2
  · rw [show xo_80 pc = none from if_pos hl] at h; cases h
/-- X6_ride -/
def xo_81 (pc : Nat) : Option (Instr × Nat) := if 24 ≤ pc then none else if pc < 12 then (if pc < 5 then (if pc < 1 then (if pc = 0 then some (.aload_n 0, 1) else none) else (if pc < 4 then (if pc = 1 then some (.getfield 16, 3) else none) else (if pc = 4 then some (.aload_n 0, 1) else none))) else (if pc < 8 then (if pc = 5 then some (.getfield 12, 3) else none) else (if pc < 11 then (if pc = 8 then some (.invokevirtual 40, 3) else none) else (if pc = 11 then some (.aload_n 0, 1) else none)))) else (if pc < 17 then (if pc < 13 then (if pc = 12 then some (.aload_n 0, 1) else none) else (if pc < 16 then (if pc = 13 then some (.getfield 12, 3) else none) else (if pc = 16 then some (.iload_n 1, 1) else none))) else (if pc < 20 then (if pc = 17 then some (.invokevirtual 65, 3) else none) else (if pc < 23 then (if pc = 20 then some (.invokevirtual 48, 3) else none) else (if pc = 23 then some (.ireturn, 1) else none))))
set_option maxRecDepth 100000 in
theorem xo_81_c0 : ([0, 1, 4, 5, 8, 11, 12, 13, 16, 17, 20, 23] : List Nat).all (fun pc => match xo_81 pc with | none => true | some r => decide (decode cX6_ride pc = .ok r)) = true := by decide +kernel
set_option maxRecDepth 100000 in
theorem xo_81_no : (List.range 24).all (fun pc => (xo_81 pc).isNone || (([0, 1, 4, 5, 8, 11, 12, 13, 16, 17, 20, 23] : List Nat).contains pc)) = true := by decide +kernel
theorem xo_81_top (pc : Nat) (h : 24 ≤ pc) : xo_81 pc = none := if_pos h
theorem xo_81_ok (pc : Nat) (r : Instr × Nat) (h : xo_81 pc = some r) : decode cX6_ride pc = .ok r := by
  rcases Nat.lt_or_ge pc 24 with hl | hl
  · have h1 := List.all_eq_true.mp xo_81_no pc (List.mem_range.mpr hl)
    rw [h] at h1
    simp only [Option.isNone_some, Bool.false_or, Bool.or_eq_true, List.contains_iff_mem, or_assoc] at h1
    rcases h1 with h1
    · have h2 := List.all_eq_true.mp xo_81_c0 pc h1
      rw [h] at h2
      exact of_decide_eq_true h2
  · rw [show xo_81 pc = none from if_pos hl] at h; cases h
/-- X6_answer -/
def xo_82 (pc : Nat) : Option (Instr × Nat) := if 24 ≤ pc then none else if pc < 12 then (if pc < 5 then (if pc < 1 then (if pc = 0 then some (.aload_n 0, 1) else none) else (if pc < 4 then (if pc = 1 then some (.getfield 16, 3) else none) else (if pc = 4 then some (.aload_n 0, 1) else none))) else (if pc < 8 then (if pc = 5 then some (.getfield 12, 3) else none) else (if pc < 11 then (if pc = 8 then some (.invokevirtual 40, 3) else none) else (if pc = 11 then some (.aload_n 0, 1) else none)))) else (if pc < 17 then (if pc < 13 then (if pc = 12 then some (.aload_n 0, 1) else none) else (if pc < 16 then (if pc = 13 then some (.getfield 12, 3) else none) else (if pc = 16 then some (.iload_n 1, 1) else none))) else (if pc < 20 then (if pc = 17 then some (.invokevirtual 68, 3) else none) else (if pc < 23 then (if pc = 20 then some (.invokevirtual 48, 3) else none) else (if pc = 23 then some (.ireturn, 1) else none))))
set_option maxRecDepth 100000 in
theorem xo_82_c0 : ([0, 1, 4, 5, 8, 11, 12, 13, 16, 17, 20, 23] : List Nat).all (fun pc => match xo_82 pc with | none => true | some r => decide (decode cX6_answer pc = .ok r)) = true := by decide +kernel
set_option maxRecDepth 100000 in
theorem xo_82_no : (List.range 24).all (fun pc => (xo_82 pc).isNone || (([0, 1, 4, 5, 8, 11, 12, 13, 16, 17, 20, 23] : List Nat).contains pc)) = true := by decide +kernel
theorem xo_82_top (pc : Nat) (h : 24 ≤ pc) : xo_82 pc = none := if_pos h
theorem xo_82_ok (pc : Nat) (r : Instr × Nat) (h : xo_82 pc = some r) : decode cX6_answer pc = .ok r := by
  rcases Nat.lt_or_ge pc 24 with hl | hl
  · have h1 := List.all_eq_true.mp xo_82_no pc (List.mem_range.mpr hl)
    rw [h] at h1
    simp only [Option.isNone_some, Bool.false_or, Bool.or_eq_true, List.contains_iff_mem, or_assoc] at h1
    rcases h1 with h1
    · have h2 := List.all_eq_true.mp xo_82_c0 pc h1
      rw [h] at h2
      exact of_decide_eq_true h2
  · rw [show xo_82 pc = none from if_pos hl] at h; cases h
/-- X6_fetch -/
def xo_83 (pc : Nat) : Option (Instr × Nat) := if 24 ≤ pc then none else if pc < 12 then (if pc < 5 then (if pc < 1 then (if pc = 0 then some (.aload_n 0, 1) else none) else (if pc < 4 then (if pc = 1 then some (.getfield 16, 3) else none) else (if pc = 4 then some (.aload_n 0, 1) else none))) else (if pc < 8 then (if pc = 5 then some (.getfield 12, 3) else none) else (if pc < 11 then (if pc = 8 then some (.invokevirtual 40, 3) else none) else (if pc = 11 then some (.aload_n 0, 1) else none)))) else (if pc < 17 then (if pc < 13 then (if pc = 12 then some (.aload_n 0, 1) else none) else (if pc < 16 then (if pc = 13 then some (.getfield 12, 3) else none) else (if pc = 16 then some (.iload_n 1, 1) else none))) else (if pc < 20 then (if pc = 17 then some (.invokevirtual 71, 3) else none) else (if pc < 23 then (if pc = 20 then some (.invokevirtual 48, 3) else none) else (if pc = 23 then some (.ireturn, 1) else none))))
set_option maxRecDepth 100000 in
theorem xo_83_c0 : ([0, 1, 4, 5, 8, 11, 12, 13, 16, 17, 20, 23] : List Nat).all (fun pc => match xo_83 pc with | none => true | some r => decide (decode cX6_fetch pc = .ok r)) = true := by decide +kernel
set_option maxRecDepth 100000 in
theorem xo_83_no : (List.range 24).all (fun pc => (xo_83 pc).isNone || (([0, 1, 4, 5, 8, 11, 12, 13, 16, 17, 20, 23] : List Nat).contains pc)) = true := by decide +kernel
theorem xo_83_top (pc : Nat) (h : 24 ≤ pc) : xo_83 pc = none := if_pos h
theorem xo_83_ok (pc : Nat) (r : Instr × Nat) (h : xo_83 pc = some r) : decode cX6_fetch pc = .ok r := by
  rcases Nat.lt_or_ge pc 24 with hl | hl
  · have h1 := List.all_eq_true.mp xo_83_no pc (List.mem_range.mpr hl)
    rw [h] at h1
    simp only [Option.isNone_some, Bool.false_or, Bool.or_eq_true, List.contains_iff_mem, or_assoc] at h1
    rcases h1 with h1
    · have h2 := List.all_eq_true.mp xo_83_c0 pc h1
      rw [h] at h2
      exact of_decide_eq_true h2
  · rw [show xo_83 pc = none from if_pos hl] at h; cases h
