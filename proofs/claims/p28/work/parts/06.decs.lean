/-! the abstract machine's core steps are the machine's -/
def xm_len : Instr → Nat → Bool
  | .tableswitch _ _ _ _, _ => true
  | .lookupswitch _ _, _ => true
  | .bipush _, n => n == 2
  | .newarray _, n => n == 2
  | .iload _, n => n == 2
  | .lload _, n => n == 2
  | .aload _, n => n == 2
  | .istore _, n => n == 2
  | .lstore _, n => n == 2
  | .astore _, n => n == 2
  | .sipush _, n => n == 3
  | .iinc _ _, n => n == 3
  | .goto _, n => n == 3
  | .ifCond _ _, n => n == 3
  | .if_icmp _ _, n => n == 3
  | .ifnonnull _, n => n == 3
  | .getfield _, n => n == 3
  | .putfield _, n => n == 3
  | .getstatic _, n => n == 3
  | .invokestatic _, n => n == 3
  | .invokevirtual _, n => n == 3
  | .invokespecial _, n => n == 3
  | .new _, n => n == 3
  | .anewarray _, n => n == 3
  | .checkcast _, n => n == 3
  | .ldc_w _, n => n == 3
  | .ldc2_w _, n => n == 3
  | .ldc _, n => n == 2
  | .multianewarray _ _, n => n == 4
  | _, n => n == 1
set_option maxRecDepth 100000 in
theorem xt_len_all : (List.range 108).all (fun i => (List.range (xt_M i)).all (fun pc => match xt_ops i pc with | none => true | some r => xm_len r.1 r.2)) = true := by decide +kernel
theorem xt_dec_top (i pc : Nat) (h : 108 ≤ i) : xt_ops i pc = none := by
  unfold xt_ops
  repeat (first | rw [if_neg (by omega)] | rfl)
set_option maxRecDepth 100000 in
set_option maxHeartbeats 4000000 in
theorem xt_dec (i pc : Nat) (r : Instr × Nat) (h : xt_ops i pc = some r) : decode (xt_C i) pc = .ok r := by
  by_cases hi : 108 ≤ i
  · rw [xt_dec_top i pc hi] at h; cases h
  · match i, hi, h with
    | 0, _, h => exact xo_0_ok pc r h
    | 1, _, h => exact xo_1_ok pc r h
    | 2, _, h => exact xo_2_ok pc r h
    | 3, _, h => exact xo_3_ok pc r h
    | 4, _, h => exact xo_4_ok pc r h
    | 5, _, h => exact xo_5_ok pc r h
    | 6, _, h => exact xo_6_ok pc r h
    | 7, _, h => exact xo_7_ok pc r h
    | 8, _, h => exact xo_8_ok pc r h
    | 9, _, h => exact xo_9_ok pc r h
    | 10, _, h => exact xo_10_ok pc r h
    | 11, _, h => exact xo_11_ok pc r h
    | 12, _, h => exact xo_12_ok pc r h
    | 13, _, h => exact xo_13_ok pc r h
    | 14, _, h => exact xo_14_ok pc r h
    | 15, _, h => exact xo_15_ok pc r h
    | 16, _, h => exact xo_16_ok pc r h
    | 17, _, h => exact xo_17_ok pc r h
    | 18, _, h => exact xo_18_ok pc r h
    | 19, _, h => exact xo_19_ok pc r h
    | 20, _, h => exact xo_20_ok pc r h
    | 21, _, h => exact xo_21_ok pc r h
    | 22, _, h => exact xo_22_ok pc r h
    | 23, _, h => exact xo_23_ok pc r h
    | 24, _, h => exact xo_24_ok pc r h
    | 25, _, h => exact xo_25_ok pc r h
    | 26, _, h => exact xo_26_ok pc r h
    | 27, _, h => exact xo_27_ok pc r h
    | 28, _, h => exact xo_28_ok pc r h
    | 29, _, h => exact xo_29_ok pc r h
    | 30, _, h => exact xo_30_ok pc r h
    | 31, _, h => exact xo_31_ok pc r h
    | 32, _, h => exact xo_32_ok pc r h
    | 33, _, h => exact xo_33_ok pc r h
    | 34, _, h => exact xo_34_ok pc r h
    | 35, _, h => exact xo_35_ok pc r h
    | 36, _, h => exact xo_36_ok pc r h
    | 37, _, h => exact xo_37_ok pc r h
    | 38, _, h => exact xo_38_ok pc r h
    | 39, _, h => exact xo_39_ok pc r h
    | 40, _, h => exact xo_40_ok pc r h
    | 41, _, h => exact xo_41_ok pc r h
    | 42, _, h => exact xo_42_ok pc r h
    | 43, _, h => exact xo_43_ok pc r h
    | 44, _, h => exact xo_44_ok pc r h
    | 45, _, h => exact xo_45_ok pc r h
    | 46, _, h => exact xo_46_ok pc r h
    | 47, _, h => exact xo_47_ok pc r h
    | 48, _, h => exact xo_48_ok pc r h
    | 49, _, h => exact xo_49_ok pc r h
    | 50, _, h => exact xo_50_ok pc r h
    | 51, _, h => exact xo_51_ok pc r h
    | 52, _, h => exact xo_52_ok pc r h
    | 53, _, h => exact xo_53_ok pc r h
    | 54, _, h => exact xo_54_ok pc r h
    | 55, _, h => exact xo_55_ok pc r h
    | 56, _, h => exact xo_56_ok pc r h
    | 57, _, h => exact xo_57_ok pc r h
    | 58, _, h => exact xo_58_ok pc r h
    | 59, _, h => exact xo_59_ok pc r h
    | 60, _, h => exact xo_60_ok pc r h
    | 61, _, h => exact xo_61_ok pc r h
    | 62, _, h => exact xo_62_ok pc r h
    | 63, _, h => exact xo_63_ok pc r h
    | 64, _, h => exact xo_64_ok pc r h
    | 65, _, h => exact xo_65_ok pc r h
    | 66, _, h => exact xo_66_ok pc r h
    | 67, _, h => exact xo_67_ok pc r h
    | 68, _, h => exact xo_68_ok pc r h
    | 69, _, h => exact xo_69_ok pc r h
    | 70, _, h => exact xo_70_ok pc r h
    | 71, _, h => exact xo_71_ok pc r h
    | 72, _, h => exact xo_72_ok pc r h
    | 73, _, h => exact xo_73_ok pc r h
    | 74, _, h => exact xo_74_ok pc r h
    | 75, _, h => exact xo_75_ok pc r h
    | 76, _, h => exact xo_76_ok pc r h
    | 77, _, h => exact xo_77_ok pc r h
    | 78, _, h => exact xo_78_ok pc r h
    | 79, _, h => exact xo_79_ok pc r h
    | 80, _, h => exact xo_80_ok pc r h
    | 81, _, h => exact xo_81_ok pc r h
    | 82, _, h => exact xo_82_ok pc r h
    | 83, _, h => exact xo_83_ok pc r h
    | 84, _, h => exact xo_84_ok pc r h
    | 85, _, h => exact xo_85_ok pc r h
    | 86, _, h => exact xo_86_ok pc r h
    | 87, _, h => exact xo_87_ok pc r h
    | 88, _, h => exact xo_88_ok pc r h
    | 89, _, h => exact xo_89_ok pc r h
    | 90, _, h => exact xo_90_ok pc r h
    | 91, _, h => exact xo_91_ok pc r h
    | 92, _, h => exact xo_92_ok pc r h
    | 93, _, h => exact xo_93_ok pc r h
    | 94, _, h => exact xo_94_ok pc r h
    | 95, _, h => exact xo_95_ok pc r h
    | 96, _, h => exact xo_96_ok pc r h
    | 97, _, h => exact xo_97_ok pc r h
    | 98, _, h => exact xo_98_ok pc r h
    | 99, _, h => exact xo_99_ok pc r h
    | 100, _, h => exact xo_100_ok pc r h
    | 101, _, h => exact xo_101_ok pc r h
    | 102, _, h => exact xo_102_ok pc r h
    | 103, _, h => exact xo_103_ok pc r h
    | 104, _, h => exact xo_104_ok pc r h
    | 105, _, h => exact xo_105_ok pc r h
    | 106, _, h => exact xo_106_ok pc r h
    | 107, _, h => exact xo_107_ok pc r h
    | n + 108, hi, _ => exact absurd (Nat.le_add_left 108 n) hi
set_option maxRecDepth 100000 in
set_option maxHeartbeats 4000000 in
theorem xt_len (i pc : Nat) (r : Instr × Nat) (h : xt_ops i pc = some r) : xm_len r.1 r.2 = true := by
  by_cases hi : 108 ≤ i
  · rw [xt_dec_top i pc hi] at h; cases h
  · by_cases hp : pc < xt_M i
    · have h1 := List.all_eq_true.mp (List.all_eq_true.mp xt_len_all i (List.mem_range.mpr (by omega))) pc (List.mem_range.mpr hp)
      rw [h] at h1; exact h1
    · exfalso
      match i, hi, h, hp with
      | 0, _, h, hp => have h2 := xo_0_top pc (Nat.not_lt.mp hp); exact absurd (h2.symm.trans h) (by simp)
      | 1, _, h, hp => have h2 := xo_1_top pc (Nat.not_lt.mp hp); exact absurd (h2.symm.trans h) (by simp)
      | 2, _, h, hp => have h2 := xo_2_top pc (Nat.not_lt.mp hp); exact absurd (h2.symm.trans h) (by simp)
      | 3, _, h, hp => have h2 := xo_3_top pc (Nat.not_lt.mp hp); exact absurd (h2.symm.trans h) (by simp)
      | 4, _, h, hp => have h2 := xo_4_top pc (Nat.not_lt.mp hp); exact absurd (h2.symm.trans h) (by simp)
      | 5, _, h, hp => have h2 := xo_5_top pc (Nat.not_lt.mp hp); exact absurd (h2.symm.trans h) (by simp)
      | 6, _, h, hp => have h2 := xo_6_top pc (Nat.not_lt.mp hp); exact absurd (h2.symm.trans h) (by simp)
      | 7, _, h, hp => have h2 := xo_7_top pc (Nat.not_lt.mp hp); exact absurd (h2.symm.trans h) (by simp)
      | 8, _, h, hp => have h2 := xo_8_top pc (Nat.not_lt.mp hp); exact absurd (h2.symm.trans h) (by simp)
      | 9, _, h, hp => have h2 := xo_9_top pc (Nat.not_lt.mp hp); exact absurd (h2.symm.trans h) (by simp)
      | 10, _, h, hp => have h2 := xo_10_top pc (Nat.not_lt.mp hp); exact absurd (h2.symm.trans h) (by simp)
      | 11, _, h, hp => have h2 := xo_11_top pc (Nat.not_lt.mp hp); exact absurd (h2.symm.trans h) (by simp)
      | 12, _, h, hp => have h2 := xo_12_top pc (Nat.not_lt.mp hp); exact absurd (h2.symm.trans h) (by simp)
      | 13, _, h, hp => have h2 := xo_13_top pc (Nat.not_lt.mp hp); exact absurd (h2.symm.trans h) (by simp)
      | 14, _, h, hp => have h2 := xo_14_top pc (Nat.not_lt.mp hp); exact absurd (h2.symm.trans h) (by simp)
      | 15, _, h, hp => have h2 := xo_15_top pc (Nat.not_lt.mp hp); exact absurd (h2.symm.trans h) (by simp)
      | 16, _, h, hp => have h2 := xo_16_top pc (Nat.not_lt.mp hp); exact absurd (h2.symm.trans h) (by simp)
      | 17, _, h, hp => have h2 := xo_17_top pc (Nat.not_lt.mp hp); exact absurd (h2.symm.trans h) (by simp)
      | 18, _, h, hp => have h2 := xo_18_top pc (Nat.not_lt.mp hp); exact absurd (h2.symm.trans h) (by simp)
      | 19, _, h, hp => have h2 := xo_19_top pc (Nat.not_lt.mp hp); exact absurd (h2.symm.trans h) (by simp)
      | 20, _, h, hp => have h2 := xo_20_top pc (Nat.not_lt.mp hp); exact absurd (h2.symm.trans h) (by simp)
      | 21, _, h, hp => have h2 := xo_21_top pc (Nat.not_lt.mp hp); exact absurd (h2.symm.trans h) (by simp)
      | 22, _, h, hp => have h2 := xo_22_top pc (Nat.not_lt.mp hp); exact absurd (h2.symm.trans h) (by simp)
      | 23, _, h, hp => have h2 := xo_23_top pc (Nat.not_lt.mp hp); exact absurd (h2.symm.trans h) (by simp)
      | 24, _, h, hp => have h2 := xo_24_top pc (Nat.not_lt.mp hp); exact absurd (h2.symm.trans h) (by simp)
      | 25, _, h, hp => have h2 := xo_25_top pc (Nat.not_lt.mp hp); exact absurd (h2.symm.trans h) (by simp)
      | 26, _, h, hp => have h2 := xo_26_top pc (Nat.not_lt.mp hp); exact absurd (h2.symm.trans h) (by simp)
      | 27, _, h, hp => have h2 := xo_27_top pc (Nat.not_lt.mp hp); exact absurd (h2.symm.trans h) (by simp)
      | 28, _, h, hp => have h2 := xo_28_top pc (Nat.not_lt.mp hp); exact absurd (h2.symm.trans h) (by simp)
      | 29, _, h, hp => have h2 := xo_29_top pc (Nat.not_lt.mp hp); exact absurd (h2.symm.trans h) (by simp)
      | 30, _, h, hp => have h2 := xo_30_top pc (Nat.not_lt.mp hp); exact absurd (h2.symm.trans h) (by simp)
      | 31, _, h, hp => have h2 := xo_31_top pc (Nat.not_lt.mp hp); exact absurd (h2.symm.trans h) (by simp)
      | 32, _, h, hp => have h2 := xo_32_top pc (Nat.not_lt.mp hp); exact absurd (h2.symm.trans h) (by simp)
      | 33, _, h, hp => have h2 := xo_33_top pc (Nat.not_lt.mp hp); exact absurd (h2.symm.trans h) (by simp)
      | 34, _, h, hp => have h2 := xo_34_top pc (Nat.not_lt.mp hp); exact absurd (h2.symm.trans h) (by simp)
      | 35, _, h, hp => have h2 := xo_35_top pc (Nat.not_lt.mp hp); exact absurd (h2.symm.trans h) (by simp)
      | 36, _, h, hp => have h2 := xo_36_top pc (Nat.not_lt.mp hp); exact absurd (h2.symm.trans h) (by simp)
      | 37, _, h, hp => have h2 := xo_37_top pc (Nat.not_lt.mp hp); exact absurd (h2.symm.trans h) (by simp)
      | 38, _, h, hp => have h2 := xo_38_top pc (Nat.not_lt.mp hp); exact absurd (h2.symm.trans h) (by simp)
      | 39, _, h, hp => have h2 := xo_39_top pc (Nat.not_lt.mp hp); exact absurd (h2.symm.trans h) (by simp)
      | 40, _, h, hp => have h2 := xo_40_top pc (Nat.not_lt.mp hp); exact absurd (h2.symm.trans h) (by simp)
      | 41, _, h, hp => have h2 := xo_41_top pc (Nat.not_lt.mp hp); exact absurd (h2.symm.trans h) (by simp)
      | 42, _, h, hp => have h2 := xo_42_top pc (Nat.not_lt.mp hp); exact absurd (h2.symm.trans h) (by simp)
      | 43, _, h, hp => have h2 := xo_43_top pc (Nat.not_lt.mp hp); exact absurd (h2.symm.trans h) (by simp)
      | 44, _, h, hp => have h2 := xo_44_top pc (Nat.not_lt.mp hp); exact absurd (h2.symm.trans h) (by simp)
      | 45, _, h, hp => have h2 := xo_45_top pc (Nat.not_lt.mp hp); exact absurd (h2.symm.trans h) (by simp)
      | 46, _, h, hp => have h2 := xo_46_top pc (Nat.not_lt.mp hp); exact absurd (h2.symm.trans h) (by simp)
      | 47, _, h, hp => have h2 := xo_47_top pc (Nat.not_lt.mp hp); exact absurd (h2.symm.trans h) (by simp)
      | 48, _, h, hp => have h2 := xo_48_top pc (Nat.not_lt.mp hp); exact absurd (h2.symm.trans h) (by simp)
      | 49, _, h, hp => have h2 := xo_49_top pc (Nat.not_lt.mp hp); exact absurd (h2.symm.trans h) (by simp)
      | 50, _, h, hp => have h2 := xo_50_top pc (Nat.not_lt.mp hp); exact absurd (h2.symm.trans h) (by simp)
      | 51, _, h, hp => have h2 := xo_51_top pc (Nat.not_lt.mp hp); exact absurd (h2.symm.trans h) (by simp)
      | 52, _, h, hp => have h2 := xo_52_top pc (Nat.not_lt.mp hp); exact absurd (h2.symm.trans h) (by simp)
      | 53, _, h, hp => have h2 := xo_53_top pc (Nat.not_lt.mp hp); exact absurd (h2.symm.trans h) (by simp)
      | 54, _, h, hp => have h2 := xo_54_top pc (Nat.not_lt.mp hp); exact absurd (h2.symm.trans h) (by simp)
      | 55, _, h, hp => have h2 := xo_55_top pc (Nat.not_lt.mp hp); exact absurd (h2.symm.trans h) (by simp)
      | 56, _, h, hp => have h2 := xo_56_top pc (Nat.not_lt.mp hp); exact absurd (h2.symm.trans h) (by simp)
      | 57, _, h, hp => have h2 := xo_57_top pc (Nat.not_lt.mp hp); exact absurd (h2.symm.trans h) (by simp)
      | 58, _, h, hp => have h2 := xo_58_top pc (Nat.not_lt.mp hp); exact absurd (h2.symm.trans h) (by simp)
      | 59, _, h, hp => have h2 := xo_59_top pc (Nat.not_lt.mp hp); exact absurd (h2.symm.trans h) (by simp)
      | 60, _, h, hp => have h2 := xo_60_top pc (Nat.not_lt.mp hp); exact absurd (h2.symm.trans h) (by simp)
      | 61, _, h, hp => have h2 := xo_61_top pc (Nat.not_lt.mp hp); exact absurd (h2.symm.trans h) (by simp)
      | 62, _, h, hp => have h2 := xo_62_top pc (Nat.not_lt.mp hp); exact absurd (h2.symm.trans h) (by simp)
      | 63, _, h, hp => have h2 := xo_63_top pc (Nat.not_lt.mp hp); exact absurd (h2.symm.trans h) (by simp)
      | 64, _, h, hp => have h2 := xo_64_top pc (Nat.not_lt.mp hp); exact absurd (h2.symm.trans h) (by simp)
      | 65, _, h, hp => have h2 := xo_65_top pc (Nat.not_lt.mp hp); exact absurd (h2.symm.trans h) (by simp)
      | 66, _, h, hp => have h2 := xo_66_top pc (Nat.not_lt.mp hp); exact absurd (h2.symm.trans h) (by simp)
      | 67, _, h, hp => have h2 := xo_67_top pc (Nat.not_lt.mp hp); exact absurd (h2.symm.trans h) (by simp)
      | 68, _, h, hp => have h2 := xo_68_top pc (Nat.not_lt.mp hp); exact absurd (h2.symm.trans h) (by simp)
      | 69, _, h, hp => have h2 := xo_69_top pc (Nat.not_lt.mp hp); exact absurd (h2.symm.trans h) (by simp)
      | 70, _, h, hp => have h2 := xo_70_top pc (Nat.not_lt.mp hp); exact absurd (h2.symm.trans h) (by simp)
      | 71, _, h, hp => have h2 := xo_71_top pc (Nat.not_lt.mp hp); exact absurd (h2.symm.trans h) (by simp)
      | 72, _, h, hp => have h2 := xo_72_top pc (Nat.not_lt.mp hp); exact absurd (h2.symm.trans h) (by simp)
      | 73, _, h, hp => have h2 := xo_73_top pc (Nat.not_lt.mp hp); exact absurd (h2.symm.trans h) (by simp)
      | 74, _, h, hp => have h2 := xo_74_top pc (Nat.not_lt.mp hp); exact absurd (h2.symm.trans h) (by simp)
      | 75, _, h, hp => have h2 := xo_75_top pc (Nat.not_lt.mp hp); exact absurd (h2.symm.trans h) (by simp)
      | 76, _, h, hp => have h2 := xo_76_top pc (Nat.not_lt.mp hp); exact absurd (h2.symm.trans h) (by simp)
      | 77, _, h, hp => have h2 := xo_77_top pc (Nat.not_lt.mp hp); exact absurd (h2.symm.trans h) (by simp)
      | 78, _, h, hp => have h2 := xo_78_top pc (Nat.not_lt.mp hp); exact absurd (h2.symm.trans h) (by simp)
      | 79, _, h, hp => have h2 := xo_79_top pc (Nat.not_lt.mp hp); exact absurd (h2.symm.trans h) (by simp)
      | 80, _, h, hp => have h2 := xo_80_top pc (Nat.not_lt.mp hp); exact absurd (h2.symm.trans h) (by simp)
      | 81, _, h, hp => have h2 := xo_81_top pc (Nat.not_lt.mp hp); exact absurd (h2.symm.trans h) (by simp)
      | 82, _, h, hp => have h2 := xo_82_top pc (Nat.not_lt.mp hp); exact absurd (h2.symm.trans h) (by simp)
      | 83, _, h, hp => have h2 := xo_83_top pc (Nat.not_lt.mp hp); exact absurd (h2.symm.trans h) (by simp)
      | 84, _, h, hp => have h2 := xo_84_top pc (Nat.not_lt.mp hp); exact absurd (h2.symm.trans h) (by simp)
      | 85, _, h, hp => have h2 := xo_85_top pc (Nat.not_lt.mp hp); exact absurd (h2.symm.trans h) (by simp)
      | 86, _, h, hp => have h2 := xo_86_top pc (Nat.not_lt.mp hp); exact absurd (h2.symm.trans h) (by simp)
      | 87, _, h, hp => have h2 := xo_87_top pc (Nat.not_lt.mp hp); exact absurd (h2.symm.trans h) (by simp)
      | 88, _, h, hp => have h2 := xo_88_top pc (Nat.not_lt.mp hp); exact absurd (h2.symm.trans h) (by simp)
      | 89, _, h, hp => have h2 := xo_89_top pc (Nat.not_lt.mp hp); exact absurd (h2.symm.trans h) (by simp)
      | 90, _, h, hp => have h2 := xo_90_top pc (Nat.not_lt.mp hp); exact absurd (h2.symm.trans h) (by simp)
      | 91, _, h, hp => have h2 := xo_91_top pc (Nat.not_lt.mp hp); exact absurd (h2.symm.trans h) (by simp)
      | 92, _, h, hp => have h2 := xo_92_top pc (Nat.not_lt.mp hp); exact absurd (h2.symm.trans h) (by simp)
      | 93, _, h, hp => have h2 := xo_93_top pc (Nat.not_lt.mp hp); exact absurd (h2.symm.trans h) (by simp)
      | 94, _, h, hp => have h2 := xo_94_top pc (Nat.not_lt.mp hp); exact absurd (h2.symm.trans h) (by simp)
      | 95, _, h, hp => have h2 := xo_95_top pc (Nat.not_lt.mp hp); exact absurd (h2.symm.trans h) (by simp)
      | 96, _, h, hp => have h2 := xo_96_top pc (Nat.not_lt.mp hp); exact absurd (h2.symm.trans h) (by simp)
      | 97, _, h, hp => have h2 := xo_97_top pc (Nat.not_lt.mp hp); exact absurd (h2.symm.trans h) (by simp)
      | 98, _, h, hp => have h2 := xo_98_top pc (Nat.not_lt.mp hp); exact absurd (h2.symm.trans h) (by simp)
      | 99, _, h, hp => have h2 := xo_99_top pc (Nat.not_lt.mp hp); exact absurd (h2.symm.trans h) (by simp)
      | 100, _, h, hp => have h2 := xo_100_top pc (Nat.not_lt.mp hp); exact absurd (h2.symm.trans h) (by simp)
      | 101, _, h, hp => have h2 := xo_101_top pc (Nat.not_lt.mp hp); exact absurd (h2.symm.trans h) (by simp)
      | 102, _, h, hp => have h2 := xo_102_top pc (Nat.not_lt.mp hp); exact absurd (h2.symm.trans h) (by simp)
      | 103, _, h, hp => have h2 := xo_103_top pc (Nat.not_lt.mp hp); exact absurd (h2.symm.trans h) (by simp)
      | 104, _, h, hp => have h2 := xo_104_top pc (Nat.not_lt.mp hp); exact absurd (h2.symm.trans h) (by simp)
      | 105, _, h, hp => have h2 := xo_105_top pc (Nat.not_lt.mp hp); exact absurd (h2.symm.trans h) (by simp)
      | 106, _, h, hp => have h2 := xo_106_top pc (Nat.not_lt.mp hp); exact absurd (h2.symm.trans h) (by simp)
      | 107, _, h, hp => have h2 := xo_107_top pc (Nat.not_lt.mp hp); exact absurd (h2.symm.trans h) (by simp)
      | n + 108, hi, _, _ => exact absurd (Nat.le_add_left 108 n) hi
theorem xt_ops_top (i pc : Nat) (hi : i < 108) (h : xt_M i ≤ pc) : xt_ops i pc = none := by
  match i, hi, h with
  | 0, _, h => exact xo_0_top pc h
  | 1, _, h => exact xo_1_top pc h
  | 2, _, h => exact xo_2_top pc h
  | 3, _, h => exact xo_3_top pc h
  | 4, _, h => exact xo_4_top pc h
  | 5, _, h => exact xo_5_top pc h
  | 6, _, h => exact xo_6_top pc h
  | 7, _, h => exact xo_7_top pc h
  | 8, _, h => exact xo_8_top pc h
  | 9, _, h => exact xo_9_top pc h
  | 10, _, h => exact xo_10_top pc h
  | 11, _, h => exact xo_11_top pc h
  | 12, _, h => exact xo_12_top pc h
  | 13, _, h => exact xo_13_top pc h
  | 14, _, h => exact xo_14_top pc h
  | 15, _, h => exact xo_15_top pc h
  | 16, _, h => exact xo_16_top pc h
  | 17, _, h => exact xo_17_top pc h
  | 18, _, h => exact xo_18_top pc h
  | 19, _, h => exact xo_19_top pc h
  | 20, _, h => exact xo_20_top pc h
  | 21, _, h => exact xo_21_top pc h
  | 22, _, h => exact xo_22_top pc h
  | 23, _, h => exact xo_23_top pc h
  | 24, _, h => exact xo_24_top pc h
  | 25, _, h => exact xo_25_top pc h
  | 26, _, h => exact xo_26_top pc h
  | 27, _, h => exact xo_27_top pc h
  | 28, _, h => exact xo_28_top pc h
  | 29, _, h => exact xo_29_top pc h
  | 30, _, h => exact xo_30_top pc h
  | 31, _, h => exact xo_31_top pc h
  | 32, _, h => exact xo_32_top pc h
  | 33, _, h => exact xo_33_top pc h
  | 34, _, h => exact xo_34_top pc h
  | 35, _, h => exact xo_35_top pc h
  | 36, _, h => exact xo_36_top pc h
  | 37, _, h => exact xo_37_top pc h
  | 38, _, h => exact xo_38_top pc h
  | 39, _, h => exact xo_39_top pc h
  | 40, _, h => exact xo_40_top pc h
  | 41, _, h => exact xo_41_top pc h
  | 42, _, h => exact xo_42_top pc h
  | 43, _, h => exact xo_43_top pc h
  | 44, _, h => exact xo_44_top pc h
  | 45, _, h => exact xo_45_top pc h
  | 46, _, h => exact xo_46_top pc h
  | 47, _, h => exact xo_47_top pc h
  | 48, _, h => exact xo_48_top pc h
  | 49, _, h => exact xo_49_top pc h
  | 50, _, h => exact xo_50_top pc h
  | 51, _, h => exact xo_51_top pc h
  | 52, _, h => exact xo_52_top pc h
  | 53, _, h => exact xo_53_top pc h
  | 54, _, h => exact xo_54_top pc h
  | 55, _, h => exact xo_55_top pc h
  | 56, _, h => exact xo_56_top pc h
  | 57, _, h => exact xo_57_top pc h
  | 58, _, h => exact xo_58_top pc h
  | 59, _, h => exact xo_59_top pc h
  | 60, _, h => exact xo_60_top pc h
  | 61, _, h => exact xo_61_top pc h
  | 62, _, h => exact xo_62_top pc h
  | 63, _, h => exact xo_63_top pc h
  | 64, _, h => exact xo_64_top pc h
  | 65, _, h => exact xo_65_top pc h
  | 66, _, h => exact xo_66_top pc h
  | 67, _, h => exact xo_67_top pc h
  | 68, _, h => exact xo_68_top pc h
  | 69, _, h => exact xo_69_top pc h
  | 70, _, h => exact xo_70_top pc h
  | 71, _, h => exact xo_71_top pc h
  | 72, _, h => exact xo_72_top pc h
  | 73, _, h => exact xo_73_top pc h
  | 74, _, h => exact xo_74_top pc h
  | 75, _, h => exact xo_75_top pc h
  | 76, _, h => exact xo_76_top pc h
  | 77, _, h => exact xo_77_top pc h
  | 78, _, h => exact xo_78_top pc h
  | 79, _, h => exact xo_79_top pc h
  | 80, _, h => exact xo_80_top pc h
  | 81, _, h => exact xo_81_top pc h
  | 82, _, h => exact xo_82_top pc h
  | 83, _, h => exact xo_83_top pc h
  | 84, _, h => exact xo_84_top pc h
  | 85, _, h => exact xo_85_top pc h
  | 86, _, h => exact xo_86_top pc h
  | 87, _, h => exact xo_87_top pc h
  | 88, _, h => exact xo_88_top pc h
  | 89, _, h => exact xo_89_top pc h
  | 90, _, h => exact xo_90_top pc h
  | 91, _, h => exact xo_91_top pc h
  | 92, _, h => exact xo_92_top pc h
  | 93, _, h => exact xo_93_top pc h
  | 94, _, h => exact xo_94_top pc h
  | 95, _, h => exact xo_95_top pc h
  | 96, _, h => exact xo_96_top pc h
  | 97, _, h => exact xo_97_top pc h
  | 98, _, h => exact xo_98_top pc h
  | 99, _, h => exact xo_99_top pc h
  | 100, _, h => exact xo_100_top pc h
  | 101, _, h => exact xo_101_top pc h
  | 102, _, h => exact xo_102_top pc h
  | 103, _, h => exact xo_103_top pc h
  | 104, _, h => exact xo_104_top pc h
  | 105, _, h => exact xo_105_top pc h
  | 106, _, h => exact xo_106_top pc h
  | 107, _, h => exact xo_107_top pc h
  | n + 108, hi, _ => exact absurd hi (Nat.not_lt.mpr (Nat.le_add_left 108 n))
