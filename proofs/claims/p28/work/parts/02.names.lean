/-! ===== BEGIN new T[n][m]: the outer array a place, the inner ones among the pooled ===== -/
/-- f, but v at every address of l -/
def vr_up {α : Type} (f : Nat → α) (l : List Nat) (v : α) : Nat → α := fun a => if a ∈ l then v else f a
theorem vr_up_in {α : Type} {f : Nat → α} {l : List Nat} {v : α} {a : Nat} (h : a ∈ l) : vr_up f l v a = v := if_pos h
theorem vr_up_ne {α : Type} {f : Nat → α} {l : List Nat} {v : α} {a : Nat} (h : a ∉ l) : vr_up f l v a = f a := if_neg h
theorem vr_rows {L l : List Nat} {f : Nat → va_E} {e : va_E} (h : ∀ a, a ∈ l → a ∉ L) : va_pl L f ++ l.map (fun a => (a, e)) = va_pl (L ++ l) (vr_up f l e) := by
  unfold va_pl
  rw [List.map_append]
  congr 1
  · apply List.map_congr_left
    intro a ha
    rw [vr_up_ne (fun q => h a q ha)]
  · apply List.map_congr_left
    intro a ha
    rw [vr_up_in ha]
theorem vr_lay {X rows : va_W} {x : Nat × va_E} {pl : va_W} {D : va_G} {cl : List vw_C} {H : Heap} (hP : va_P D cl (((X ++ pl) ++ [x]) ++ rows) H) : va_P D cl ((X ++ [x]) ++ (pl ++ rows)) H := by
  rw [List.append_assoc (X ++ pl)] at hP
  have h := va_P.swap hP
  rw [← List.append_assoc X] at h
  have h2 := va_P.swap h
  rw [List.append_assoc (X ++ [x])] at h2
  exact h2
theorem vr_layD {X rows : va_W} {x : Nat × va_E} {pl : va_W} {A : Nat → Prop} (hD : va_D A (((X ++ pl) ++ [x]) ++ rows)) : va_D A ((X ++ [x]) ++ (pl ++ rows)) := by
  rw [List.append_assoc (X ++ pl)] at hD
  have h := va_D.swap hD
  rw [← List.append_assoc X] at h
  have h2 := va_D.swap h
  rw [List.append_assoc (X ++ [x])] at h2
  exact h2
theorem vr_outer (c : ClassId) (N h0 : Nat) : ∀ i : Nat, Jvm.Free.Multi.outerC c N h0 i = arrV c N (fun j => va_rf (if j < i then some (h0 + 1 + j) else none))
  | 0 => by
    show ({ cls := c, slots := Array.replicate N .null, vm := .none } : Cell) = _
    rw [arrV_new]
    refine congrArg (arrV c N) (funext fun j => ?_)
    simp [va_rf]
  | i + 1 => by
    show (Jvm.Free.Multi.outerC c N h0 i).setSlot i (.ref (h0 + 1 + i)) = _
    rw [vr_outer c N h0 i, arrV_store]
    refine congrArg (arrV c N) (funext fun j => ?_)
    by_cases e : j = i
    · subst e
      simp [updV, va_rf]
    · by_cases h : j < i
      · simp [updV, e, h, Nat.lt_succ_of_lt h]
      · simp [updV, e, h, show ¬ j < i + 1 by omega]
def RX0 : String := "BikeSheds$Bicycles"
def TX0 : u_T := fun k => match k with
  | 0 => ("BikeSheds$Bicycles", "shedOf", "[I", true)
  | 1 => ("BikeSheds$Bicycles", "rackOf", "[I", true)
  | 2 => ("BikeSheds$Bicycles", "parkedOn", "[I", true)
  | 3 => ("BikeSheds$Bicycles", "tagDay", "[I", true)
  | 4 => ("BikeSheds$Bicycles", "poundSince", "[I", true)
  | 5 => ("BikeSheds$Bicycles", "soldOf", "[I", true)
  | _ => ("BikeSheds$Bicycles", "takenToPound", "I", false)
def tyX0 : Nat → FieldType := fun k => match k with
  | 0 => .array .int
  | 1 => .array .int
  | 2 => .array .int
  | 3 => .array .int
  | 4 => .array .int
  | 5 => .array .int
  | _ => .int
abbrev wsX00 : List Cond := u_ws RX0 TX0 7
theorem nmX0 : ∀ a, a < 7 → ∀ b, b < 7 → a ≠ b → (TX0 a).2.1 ≠ (TX0 b).2.1 := by decide +kernel
theorem tyX0_ok : ∀ k, k < 7 → parseFieldDescriptor (TX0 k).2.2.1 = some (tyX0 k) := by decide +kernel
abbrev cX0_init : ByteArray := prog_2_method_1_code
def yX0_init : MethodName := ⟨RX0, "<init>", "()V"⟩
abbrev cX0_copyFrom : ByteArray := prog_2_method_2_code
def yX0_copyFrom : MethodName := ⟨RX0, "copyFrom", "(LBikeSheds$Bicycles;)V"⟩
abbrev cX0_isInRack : ByteArray := prog_2_method_3_code
def yX0_isInRack : MethodName := ⟨RX0, "isInRack", "(I)Z"⟩
abbrev cX0_isTagged : ByteArray := prog_2_method_4_code
def yX0_isTagged : MethodName := ⟨RX0, "isTagged", "(I)Z"⟩
abbrev cX0_isInPound : ByteArray := prog_2_method_5_code
def yX0_isInPound : MethodName := ⟨RX0, "isInPound", "(I)Z"⟩
abbrev cX0_placeInRack : ByteArray := prog_2_method_6_code
def yX0_placeInRack : MethodName := ⟨RX0, "placeInRack", "(IIII)V"⟩
abbrev cX0_leaveRack : ByteArray := prog_2_method_7_code
def yX0_leaveRack : MethodName := ⟨RX0, "leaveRack", "(I)V"⟩
abbrev cX0_isDue : ByteArray := prog_2_method_8_code
def yX0_isDue : MethodName := ⟨RX0, "isDue", "(III)Z"⟩
abbrev cX0_countTagged : ByteArray := prog_2_method_9_code
def yX0_countTagged : MethodName := ⟨RX0, "countTagged", "(II)I"⟩
abbrev cX0_takeTagged : ByteArray := prog_2_method_10_code
def yX0_takeTagged : MethodName := ⟨RX0, "takeTagged", "(III)I"⟩
abbrev cX0_sellFromPound : ByteArray := prog_2_method_11_code
def yX0_sellFromPound : MethodName := ⟨RX0, "sellFromPound", "(I)V"⟩
abbrev cX0_racksTaken : ByteArray := prog_2_method_12_code
def yX0_racksTaken : MethodName := ⟨RX0, "racksTaken", "(I)I"⟩
abbrev cX0_racksTagged : ByteArray := prog_2_method_13_code
def yX0_racksTagged : MethodName := ⟨RX0, "racksTagged", "(I)I"⟩
abbrev cX0_countInRacks : ByteArray := prog_2_method_14_code
def yX0_countInRacks : MethodName := ⟨RX0, "countInRacks", "()I"⟩
abbrev cX0_countAllTagged : ByteArray := prog_2_method_15_code
def yX0_countAllTagged : MethodName := ⟨RX0, "countAllTagged", "()I"⟩
abbrev cX0_countInPound : ByteArray := prog_2_method_16_code
def yX0_countInPound : MethodName := ⟨RX0, "countInPound", "()I"⟩
abbrev cX0_countSold : ByteArray := prog_2_method_17_code
def yX0_countSold : MethodName := ⟨RX0, "countSold", "()I"⟩
def RX1 : String := "BikeSheds$DeedReader"
def TX1 : u_T := fun k => match k with
  | 0 => ("BikeSheds$DeedReader", "pad", "LBikeSheds$Pad;", true)
  | 1 => ("BikeSheds$DeedReader", "position", "I", false)
  | 2 => ("BikeSheds$DeedReader", "latest", "C", false)
  | 3 => ("BikeSheds$DeedReader", "kind", "I", false)
  | 4 => ("BikeSheds$DeedReader", "person", "I", false)
  | 5 => ("BikeSheds$DeedReader", "shed", "I", false)
  | _ => ("BikeSheds$DeedReader", "number", "I", false)
def tyX1 : Nat → FieldType := fun k => match k with
  | 0 => .object "BikeSheds$Pad"
  | 1 => .int
  | 2 => .char
  | 3 => .int
  | 4 => .int
  | 5 => .int
  | _ => .int
abbrev wsX10 : List Cond := u_ws RX1 TX1 7
theorem nmX1 : ∀ a, a < 7 → ∀ b, b < 7 → a ≠ b → (TX1 a).2.1 ≠ (TX1 b).2.1 := by decide +kernel
theorem tyX1_ok : ∀ k, k < 7 → parseFieldDescriptor (TX1 k).2.2.1 = some (tyX1 k) := by decide +kernel
abbrev cX1_init : ByteArray := prog_3_method_1_code
def yX1_init : MethodName := ⟨RX1, "<init>", "()V"⟩
def RX2 : String := "BikeSheds$History"
def TX2 : u_T := fun k => match k with
  | 0 => ("BikeSheds$History", "states", "[LBikeSheds$State;", true)
  | _ => ("BikeSheds$History", "length", "I", false)
def tyX2 : Nat → FieldType := fun k => match k with
  | 0 => .array (.object "BikeSheds$State")
  | _ => .int
abbrev wsX20 : List Cond := u_ws RX2 TX2 2
theorem nmX2 : ∀ a, a < 2 → ∀ b, b < 2 → a ≠ b → (TX2 a).2.1 ≠ (TX2 b).2.1 := by decide +kernel
theorem tyX2_ok : ∀ k, k < 2 → parseFieldDescriptor (TX2 k).2.2.1 = some (tyX2 k) := by decide +kernel
abbrev cX2_init : ByteArray := prog_4_method_1_code
def yX2_init : MethodName := ⟨RX2, "<init>", "()V"⟩
abbrev cX2_record : ByteArray := prog_4_method_2_code
def yX2_record : MethodName := ⟨RX2, "record", "(LBikeSheds$State;)V"⟩
abbrev cX2_dropOldest : ByteArray := prog_4_method_3_code
def yX2_dropOldest : MethodName := ⟨RX2, "dropOldest", "()V"⟩
abbrev cX2_takeBack : ByteArray := prog_4_method_4_code
def yX2_takeBack : MethodName := ⟨RX2, "takeBack", "(LBikeSheds$State;)Z"⟩
def RX3 : String := "BikeSheds$Pad"
def TX3 : u_T := fun k => match k with
  | 0 => ("BikeSheds$Pad", "text", "[C", true)
  | _ => ("BikeSheds$Pad", "length", "I", false)
def tyX3 : Nat → FieldType := fun k => match k with
  | 0 => .array .char
  | _ => .int
abbrev wsX30 : List Cond := u_ws RX3 TX3 2
theorem nmX3 : ∀ a, a < 2 → ∀ b, b < 2 → a ≠ b → (TX3 a).2.1 ≠ (TX3 b).2.1 := by decide +kernel
theorem tyX3_ok : ∀ k, k < 2 → parseFieldDescriptor (TX3 k).2.2.1 = some (tyX3 k) := by decide +kernel
abbrev cX3_init : ByteArray := prog_5_method_1_code
def yX3_init : MethodName := ⟨RX3, "<init>", "()V"⟩
def RX4 : String := "BikeSheds$Permits"
def TX4 : u_T := fun k => match k with
  | 0 => ("BikeSheds$Permits", "shedOf", "[I", true)
  | 1 => ("BikeSheds$Permits", "lastDay", "[I", true)
  | 2 => ("BikeSheds$Permits", "placeOf", "[[I", true)
  | 3 => ("BikeSheds$Permits", "daysAsked", "[[I", true)
  | 4 => ("BikeSheds$Permits", "dayOfAsking", "[[I", true)
  | _ => ("BikeSheds$Permits", "given", "I", false)
def tyX4 : Nat → FieldType := fun k => match k with
  | 0 => .array .int
  | 1 => .array .int
  | 2 => .array (.array .int)
  | 3 => .array (.array .int)
  | 4 => .array (.array .int)
  | _ => .int
abbrev wsX40 : List Cond := u_ws RX4 TX4 6
theorem nmX4 : ∀ a, a < 6 → ∀ b, b < 6 → a ≠ b → (TX4 a).2.1 ≠ (TX4 b).2.1 := by decide +kernel
theorem tyX4_ok : ∀ k, k < 6 → parseFieldDescriptor (TX4 k).2.2.1 = some (tyX4 k) := by decide +kernel
abbrev cX4_init : ByteArray := prog_6_method_1_code
def yX4_init : MethodName := ⟨RX4, "<init>", "()V"⟩
abbrev cX4_copyFrom : ByteArray := prog_6_method_2_code
def yX4_copyFrom : MethodName := ⟨RX4, "copyFrom", "(LBikeSheds$Permits;)V"⟩
abbrev cX4_hasPermit : ByteArray := prog_6_method_3_code
def yX4_hasPermit : MethodName := ⟨RX4, "hasPermit", "(I)Z"⟩
abbrev cX4_waitsFor : ByteArray := prog_6_method_4_code
def yX4_waitsFor : MethodName := ⟨RX4, "waitsFor", "(II)Z"⟩
abbrev cX4_waitsForSome : ByteArray := prog_6_method_5_code
def yX4_waitsForSome : MethodName := ⟨RX4, "waitsForSome", "(I)Z"⟩
abbrev cX4_shedsWaitedFor : ByteArray := prog_6_method_6_code
def yX4_shedsWaitedFor : MethodName := ⟨RX4, "shedsWaitedFor", "(I)I"⟩
abbrev cX4_countOf : ByteArray := prog_6_method_7_code
def yX4_countOf : MethodName := ⟨RX4, "countOf", "(I)I"⟩
abbrev cX4_countAll : ByteArray := prog_6_method_8_code
def yX4_countAll : MethodName := ⟨RX4, "countAll", "()I"⟩
abbrev cX4_countWaiting : ByteArray := prog_6_method_9_code
def yX4_countWaiting : MethodName := ⟨RX4, "countWaiting", "(I)I"⟩
abbrev cX4_countAllWaiting : ByteArray := prog_6_method_10_code
def yX4_countAllWaiting : MethodName := ⟨RX4, "countAllWaiting", "()I"⟩
abbrev cX4_give : ByteArray := prog_6_method_11_code
def yX4_give : MethodName := ⟨RX4, "give", "(IIII)V"⟩
abbrev cX4_end : ByteArray := prog_6_method_12_code
def yX4_end : MethodName := ⟨RX4, "end", "(I)V"⟩
abbrev cX4_endBefore : ByteArray := prog_6_method_13_code
def yX4_endBefore : MethodName := ⟨RX4, "endBefore", "(I)V"⟩
abbrev cX4_queue : ByteArray := prog_6_method_14_code
def yX4_queue : MethodName := ⟨RX4, "queue", "(IIII)I"⟩
abbrev cX4_leaveLists : ByteArray := prog_6_method_15_code
def yX4_leaveLists : MethodName := ⟨RX4, "leaveLists", "(I)V"⟩
abbrev cX4_whoIsAt : ByteArray := prog_6_method_16_code
def yX4_whoIsAt : MethodName := ⟨RX4, "whoIsAt", "(II)I"⟩
abbrev cX4_aboutPlace : ByteArray := prog_6_method_17_code
def yX4_aboutPlace : MethodName := ⟨RX4, "aboutPlace", "(III)I"⟩
def RX5 : String := "BikeSheds$State"
def TX5 : u_T := fun k => match k with
  | 0 => ("BikeSheds$State", "settings", "[I", true)
  | 1 => ("BikeSheds$State", "racksInUse", "[I", true)
  | 2 => ("BikeSheds$State", "permits", "LBikeSheds$Permits;", true)
  | 3 => ("BikeSheds$State", "bicycles", "LBikeSheds$Bicycles;", true)
  | _ => ("BikeSheds$State", "day", "I", false)
def tyX5 : Nat → FieldType := fun k => match k with
  | 0 => .array .int
  | 1 => .array .int
  | 2 => .object "BikeSheds$Permits"
  | 3 => .object "BikeSheds$Bicycles"
  | _ => .int
abbrev wsX50 : List Cond := u_ws RX5 TX5 5
theorem nmX5 : ∀ a, a < 5 → ∀ b, b < 5 → a ≠ b → (TX5 a).2.1 ≠ (TX5 b).2.1 := by decide +kernel
theorem tyX5_ok : ∀ k, k < 5 → parseFieldDescriptor (TX5 k).2.2.1 = some (tyX5 k) := by decide +kernel
abbrev cX5_init : ByteArray := prog_7_method_1_code
def yX5_init : MethodName := ⟨RX5, "<init>", "()V"⟩
abbrev cX5_copyFrom : ByteArray := prog_7_method_2_code
def yX5_copyFrom : MethodName := ⟨RX5, "copyFrom", "(LBikeSheds$State;)V"⟩
abbrev cX5_changeSetting : ByteArray := prog_7_method_3_code
def yX5_changeSetting : MethodName := ⟨RX5, "changeSetting", "(II)I"⟩
abbrev cX5_askFor : ByteArray := prog_7_method_4_code
def yX5_askFor : MethodName := ⟨RX5, "askFor", "(III)I"⟩
abbrev cX5_giveUpAll : ByteArray := prog_7_method_5_code
def yX5_giveUpAll : MethodName := ⟨RX5, "giveUpAll", "(I)I"⟩
abbrev cX5_lengthen : ByteArray := prog_7_method_6_code
def yX5_lengthen : MethodName := ⟨RX5, "lengthen", "(II)I"⟩
abbrev cX5_parkBicycle : ByteArray := prog_7_method_7_code
def yX5_parkBicycle : MethodName := ⟨RX5, "parkBicycle", "(I)I"⟩
abbrev cX5_rideAway : ByteArray := prog_7_method_8_code
def yX5_rideAway : MethodName := ⟨RX5, "rideAway", "(I)I"⟩
abbrev cX5_answerFor : ByteArray := prog_7_method_9_code
def yX5_answerFor : MethodName := ⟨RX5, "answerFor", "(I)I"⟩
abbrev cX5_fetchFromPound : ByteArray := prog_7_method_10_code
def yX5_fetchFromPound : MethodName := ⟨RX5, "fetchFromPound", "(I)I"⟩
abbrev cX5_sweepShed : ByteArray := prog_7_method_11_code
def yX5_sweepShed : MethodName := ⟨RX5, "sweepShed", "(I)I"⟩
abbrev cX5_changeUse : ByteArray := prog_7_method_12_code
def yX5_changeUse : MethodName := ⟨RX5, "changeUse", "(IIZ)I"⟩
abbrev cX5_letPass : ByteArray := prog_7_method_13_code
def yX5_letPass : MethodName := ⟨RX5, "letPass", "(I)I"⟩
abbrev cX5_passUntilPermit : ByteArray := prog_7_method_14_code
def yX5_passUntilPermit : MethodName := ⟨RX5, "passUntilPermit", "(I)I"⟩
abbrev cX5_beginDay : ByteArray := prog_7_method_15_code
def yX5_beginDay : MethodName := ⟨RX5, "beginDay", "()V"⟩
abbrev cX5_moveUp : ByteArray := prog_7_method_16_code
def yX5_moveUp : MethodName := ⟨RX5, "moveUp", "()V"⟩
abbrev cX5_permitsToGive : ByteArray := prog_7_method_17_code
def yX5_permitsToGive : MethodName := ⟨RX5, "permitsToGive", "(I)I"⟩
abbrev cX5_lowestFreeRack : ByteArray := prog_7_method_18_code
def yX5_lowestFreeRack : MethodName := ⟨RX5, "lowestFreeRack", "(I)I"⟩
abbrev cX5_looksAbandoned : ByteArray := prog_7_method_19_code
def yX5_looksAbandoned : MethodName := ⟨RX5, "looksAbandoned", "(I)Z"⟩
abbrev cX5_isWithoutPermit : ByteArray := prog_7_method_20_code
def yX5_isWithoutPermit : MethodName := ⟨RX5, "isWithoutPermit", "(I)Z"⟩
abbrev cX5_latestDueTag : ByteArray := prog_7_method_21_code
def yX5_latestDueTag : MethodName := ⟨RX5, "latestDueTag", "(I)I"⟩
abbrev cX5_aboutPerson : ByteArray := prog_7_method_22_code
def yX5_aboutPerson : MethodName := ⟨RX5, "aboutPerson", "(II)I"⟩
abbrev cX5_aboutShed : ByteArray := prog_7_method_23_code
def yX5_aboutShed : MethodName := ⟨RX5, "aboutShed", "(II)I"⟩
abbrev cX5_racksWithoutPermit : ByteArray := prog_7_method_24_code
def yX5_racksWithoutPermit : MethodName := ⟨RX5, "racksWithoutPermit", "(I)I"⟩
abbrev cX5_aboutAll : ByteArray := prog_7_method_25_code
def yX5_aboutAll : MethodName := ⟨RX5, "aboutAll", "(I)I"⟩
def RX6 : String := "BikeSheds"
def TX6 : u_T := fun k => match k with
  | 0 => ("BikeSheds", "now", "LBikeSheds$State;", true)
  | 1 => ("BikeSheds", "before", "LBikeSheds$State;", true)
  | 2 => ("BikeSheds", "trial", "LBikeSheds$State;", true)
  | 3 => ("BikeSheds", "history", "LBikeSheds$History;", true)
  | 4 => ("BikeSheds", "slots", "[LBikeSheds$State;", true)
  | _ => ("BikeSheds", "reader", "LBikeSheds$DeedReader;", true)
def tyX6 : Nat → FieldType := fun k => match k with
  | 0 => .object "BikeSheds$State"
  | 1 => .object "BikeSheds$State"
  | 2 => .object "BikeSheds$State"
  | 3 => .object "BikeSheds$History"
  | 4 => .array (.object "BikeSheds$State")
  | _ => .object "BikeSheds$DeedReader"
abbrev wsX60 : List Cond := u_ws RX6 TX6 6
theorem nmX6 : ∀ a, a < 6 → ∀ b, b < 6 → a ≠ b → (TX6 a).2.1 ≠ (TX6 b).2.1 := by decide +kernel
theorem tyX6_ok : ∀ k, k < 6 → parseFieldDescriptor (TX6 k).2.2.1 = some (tyX6 k) := by decide +kernel
abbrev cX6_init : ByteArray := prog_1_method_1_code
def yX6_init : MethodName := ⟨RX6, "<init>", "()V"⟩
abbrev cX6_set : ByteArray := prog_1_method_2_code
def yX6_set : MethodName := ⟨RX6, "set", "(II)I"⟩
abbrev cX6_ask : ByteArray := prog_1_method_3_code
def yX6_ask : MethodName := ⟨RX6, "ask", "(III)I"⟩
abbrev cX6_giveUp : ByteArray := prog_1_method_4_code
def yX6_giveUp : MethodName := ⟨RX6, "giveUp", "(I)I"⟩
abbrev cX6_prolong : ByteArray := prog_1_method_5_code
def yX6_prolong : MethodName := ⟨RX6, "prolong", "(II)I"⟩
abbrev cX6_park : ByteArray := prog_1_method_6_code
def yX6_park : MethodName := ⟨RX6, "park", "(I)I"⟩
abbrev cX6_ride : ByteArray := prog_1_method_7_code
def yX6_ride : MethodName := ⟨RX6, "ride", "(I)I"⟩
abbrev cX6_answer : ByteArray := prog_1_method_8_code
def yX6_answer : MethodName := ⟨RX6, "answer", "(I)I"⟩
abbrev cX6_fetch : ByteArray := prog_1_method_9_code
def yX6_fetch : MethodName := ⟨RX6, "fetch", "(I)I"⟩
abbrev cX6_sweep : ByteArray := prog_1_method_10_code
def yX6_sweep : MethodName := ⟨RX6, "sweep", "(I)I"⟩
abbrev cX6_use : ByteArray := prog_1_method_11_code
def yX6_use : MethodName := ⟨RX6, "use", "(IIZ)I"⟩
abbrev cX6_pass : ByteArray := prog_1_method_12_code
def yX6_pass : MethodName := ⟨RX6, "pass", "(I)I"⟩
abbrev cX6_person : ByteArray := prog_1_method_14_code
def yX6_person : MethodName := ⟨RX6, "person", "(II)I"⟩
abbrev cX6_shed : ByteArray := prog_1_method_15_code
def yX6_shed : MethodName := ⟨RX6, "shed", "(II)I"⟩
abbrev cX6_waiting : ByteArray := prog_1_method_16_code
def yX6_waiting : MethodName := ⟨RX6, "waiting", "(III)I"⟩
abbrev cX6_count : ByteArray := prog_1_method_17_code
def yX6_count : MethodName := ⟨RX6, "count", "(I)I"⟩
abbrev cX6_untilPermit : ByteArray := prog_1_method_18_code
def yX6_untilPermit : MethodName := ⟨RX6, "untilPermit", "(I)I"⟩
abbrev cX6_bestShed : ByteArray := prog_1_method_19_code
def yX6_bestShed : MethodName := ⟨RX6, "bestShed", "(III)I"⟩
abbrev cX6_ifSwept : ByteArray := prog_1_method_20_code
def yX6_ifSwept : MethodName := ⟨RX6, "ifSwept", "(II)I"⟩
abbrev cX6_undo : ByteArray := prog_1_method_24_code
def yX6_undo : MethodName := ⟨RX6, "undo", "()I"⟩
abbrev cX6_save : ByteArray := prog_1_method_25_code
def yX6_save : MethodName := ⟨RX6, "save", "(I)I"⟩
abbrev cX6_restore : ByteArray := prog_1_method_26_code
def yX6_restore : MethodName := ⟨RX6, "restore", "(I)I"⟩
abbrev cX6_isFrom : ByteArray := prog_1_method_27_code
def yX6_isFrom : MethodName := ⟨RX6, "isFrom", "(III)Z"⟩
abbrev cX6_isPerson : ByteArray := prog_1_method_28_code
def yX6_isPerson : MethodName := ⟨RX6, "isPerson", "(I)Z"⟩
abbrev cX6_isShed : ByteArray := prog_1_method_29_code
def yX6_isShed : MethodName := ⟨RX6, "isShed", "(I)Z"⟩
abbrev cX6_isRack : ByteArray := prog_1_method_30_code
def yX6_isRack : MethodName := ⟨RX6, "isRack", "(I)Z"⟩
abbrev cX6_noneForEachPerson : ByteArray := prog_1_method_31_code
def yX6_noneForEachPerson : MethodName := ⟨RX6, "noneForEachPerson", "()[I"⟩
abbrev cX6_countPeople : ByteArray := prog_1_method_32_code
def yX6_countPeople : MethodName := ⟨RX6, "countPeople", "([I)I"⟩
abbrev cX6_copyInto : ByteArray := prog_1_method_33_code
def yX6_copyInto : MethodName := ⟨RX6, "copyInto", "(LBikeSheds$State;LBikeSheds$State;)LBikeSheds$State;"⟩
abbrev cX6_recorded : ByteArray := prog_1_method_34_code
def yX6_recorded : MethodName := ⟨RX6, "recorded", "(I)I"⟩
abbrev cX6_daysToWaitFor : ByteArray := prog_1_method_36_code
def yX6_daysToWaitFor : MethodName := ⟨RX6, "daysToWaitFor", "(III)I"⟩
def RX7 : String := "BikeShedsModel"
def TX7 : u_T := fun k => match k with
  | _ => ("", "", "", false)
def tyX7 : Nat → FieldType := fun k => match k with
  | _ => .int
abbrev wsX70 : List Cond := u_ws RX7 TX7 0
theorem nmX7 : ∀ a, a < 0 → ∀ b, b < 0 → a ≠ b → (TX7 a).2.1 ≠ (TX7 b).2.1 := by decide +kernel
theorem tyX7_ok : ∀ k, k < 0 → parseFieldDescriptor (TX7 k).2.2.1 = some (tyX7 k) := by decide +kernel
def RJx8e188 : String := "java/lang/Cloneable"
def TJx8e188 : u_T := fun k => match k with
  | _ => ("", "", "", false)
def tyJx8e188 : Nat → FieldType := fun k => match k with
  | _ => .int
abbrev wsJx8e1880 : List Cond := u_ws RJx8e188 TJx8e188 0
theorem nmJx8e188 : ∀ a, a < 0 → ∀ b, b < 0 → a ≠ b → (TJx8e188 a).2.1 ≠ (TJx8e188 b).2.1 := by decide +kernel
theorem tyJx8e188_ok : ∀ k, k < 0 → parseFieldDescriptor (TJx8e188 k).2.2.1 = some (tyJx8e188 k) := by decide +kernel
def RJ6 : String := "java/lang/Integer"
def TJ6 : u_T := fun k => match k with
  | _ => ("", "", "", false)
def tyJ6 : Nat → FieldType := fun k => match k with
  | _ => .int
abbrev wsJ60 : List Cond := u_ws RJ6 TJ6 0
theorem nmJ6 : ∀ a, a < 0 → ∀ b, b < 0 → a ≠ b → (TJ6 a).2.1 ≠ (TJ6 b).2.1 := by decide +kernel
theorem tyJ6_ok : ∀ k, k < 0 → parseFieldDescriptor (TJ6 k).2.2.1 = some (tyJ6 k) := by decide +kernel
abbrev cJ6_bitCount_0f7a4 : ByteArray := prog_11_method_49_code
def yJ6_bitCount_0f7a4 : MethodName := ⟨RJ6, "bitCount", "(I)I"⟩
def RJ10 : String := "java/lang/System"
def TJ10 : u_T := fun k => match k with
  | _ => ("", "", "", false)
def tyJ10 : Nat → FieldType := fun k => match k with
  | _ => .int
abbrev wsJ100 : List Cond := u_ws RJ10 TJ10 0
theorem nmJ10 : ∀ a, a < 0 → ∀ b, b < 0 → a ≠ b → (TJ10 a).2.1 ≠ (TJ10 b).2.1 := by decide +kernel
theorem tyJ10_ok : ∀ k, k < 0 → parseFieldDescriptor (TJ10 k).2.2.1 = some (tyJ10 k) := by decide +kernel
def RL : String := "BikeShedsLaw"
abbrev cL_cell : ByteArray := method_2_code
def yL_cell : MethodName := ⟨RL, "cell", "([II)I"⟩
abbrev cL_low : ByteArray := method_3_code
def yL_low : MethodName := ⟨RL, "low", "(II)I"⟩
abbrev cL_ones : ByteArray := method_4_code
def yL_ones : MethodName := ⟨RL, "ones", "(I)I"⟩
abbrev cL_act : ByteArray := method_5_code
def yL_act : MethodName := ⟨RL, "act", "(LBikeSheds;II)I"⟩
abbrev cL_shed : ByteArray := method_6_code
def yL_shed : MethodName := ⟨RL, "shed", "(LBikeSheds;I)Z"⟩
abbrev cL_hangs : ByteArray := method_7_code
def yL_hangs : MethodName := ⟨RL, "hangs", "(LBikeSheds;)Z"⟩
abbrev cL_print : ByteArray := method_8_code
def yL_print : MethodName := ⟨RL, "print", "(LBikeSheds;)J"⟩
abbrev cL_waits : ByteArray := method_9_code
def yL_waits : MethodName := ⟨RL, "waits", "(LBikeSheds;I)Z"⟩
abbrev cL_asks : ByteArray := method_10_code
def yL_asks : MethodName := ⟨RL, "asks", "(LBikeSheds;II)Z"⟩
abbrev cL_sweeps : ByteArray := method_11_code
def yL_sweeps : MethodName := ⟨RL, "sweeps", "(LBikeSheds;II)Z"⟩
abbrev cL_law : ByteArray := code
def yL_law : MethodName := ⟨RL, "law", "([I)Z"⟩
abbrev vwCl : List vw_C := [(RX0, TX0, 7), (RX1, TX1, 7), (RX2, TX2, 2), (RX3, TX3, 2), (RX4, TX4, 6), (RX5, TX5, 5), (RX6, TX6, 6)]
set_option maxRecDepth 20000 in
theorem inX0 : ∀ w ∈ wsX00, w ∈ lw_tbl := by decide +kernel
set_option maxRecDepth 20000 in
theorem inX1 : ∀ w ∈ wsX10, w ∈ lw_tbl := by decide +kernel
set_option maxRecDepth 20000 in
theorem inX2 : ∀ w ∈ wsX20, w ∈ lw_tbl := by decide +kernel
set_option maxRecDepth 20000 in
theorem inX3 : ∀ w ∈ wsX30, w ∈ lw_tbl := by decide +kernel
set_option maxRecDepth 20000 in
theorem inX4 : ∀ w ∈ wsX40, w ∈ lw_tbl := by decide +kernel
set_option maxRecDepth 20000 in
theorem inX5 : ∀ w ∈ wsX50, w ∈ lw_tbl := by decide +kernel
set_option maxRecDepth 20000 in
theorem inX6 : ∀ w ∈ wsX60, w ∈ lw_tbl := by decide +kernel
set_option maxRecDepth 20000 in
theorem inX7 : ∀ w ∈ wsX70, w ∈ lw_tbl := by decide +kernel
