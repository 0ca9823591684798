/-! ===== BEGIN words of one list among another's, by their places ===== -/
theorem goodIn_r {big : List Cond} (ws : List Cond) (ps : List Nat) (hp : ws = ps.filterMap (fun i => big[i]?)) (h : ws.all goodWord = true) : GoodIn big ws := by
  intro w hw
  have h1 := List.all_eq_true.mp h w hw
  rw [hp] at hw
  obtain ⟨i, -, hi⟩ := List.mem_filterMap.mp hw
  have hm : w ∈ big := by first | exact List.mem_of_getElem? hi | exact List.getElem?_mem hi
  exact ⟨hm, good_of_word h1⟩
theorem goodIn_app {big a b : List Cond} (ha : GoodIn big a) (hb : GoodIn big b) : GoodIn big (a ++ b) := fun w h => (List.mem_append.mp h).elim (ha w) (hb w)
theorem goodIn_ca {big a b : List Cond} {c : Cond} (ha : GoodIn big (c :: a)) (hb : GoodIn big b) : GoodIn big (c :: (a ++ b)) := fun w h => (List.mem_cons.mp h).elim (fun e => ha w (List.mem_cons.mpr (Or.inl e))) (fun h => (List.mem_append.mp h).elim (fun h => ha w (List.mem_cons.mpr (Or.inr h))) (hb w))
theorem goodIn_sub {big ws : List Cond} (hm : ∀ w ∈ ws, w ∈ big) (h : ws.all goodWord = true) : GoodIn big ws := fun w hw => ⟨hm w hw, good_of_word (List.all_eq_true.mp h w hw)⟩
/-! ===== END ===== -/
/-! ===== BEGIN printed: names, fields, word lists, decode rows ===== -/
def RX0 : String := "BigLedger$Disk"
def TX0 : u_T := fun k => match k with
  | 0 => ("BigLedger$Disk", "home", "[LBigLedger$Natural;", true)
  | 1 => ("BigLedger$Disk", "log", "[LBigLedger$Natural;", true)
  | 2 => ("BigLedger$Disk", "committed", "I", false)
  | 3 => ("BigLedger$Disk", "formatted", "Z", false)
  | 4 => ("BigLedger$Disk", "writesDone", "I", false)
  | _ => ("BigLedger$Disk", "writesUntilStop", "I", false)
def tyX0 : Nat → FieldType := fun k => match k with
  | 0 => .array (.object "BigLedger$Natural")
  | 1 => .array (.object "BigLedger$Natural")
  | 2 => .int
  | 3 => .boolean
  | 4 => .int
  | _ => .int
abbrev wsX00 : List Cond := u_ws RX0 TX0 6
theorem nmX0 : ∀ a, a < 6 → ∀ b, b < 6 → a ≠ b → (TX0 a).2.1 ≠ (TX0 b).2.1 := by decide +kernel
theorem tyX0_ok : ∀ k, k < 6 → parseFieldDescriptor (TX0 k).2.2.1 = some (tyX0 k) := by decide +kernel
abbrev cX0_init : ByteArray := prog_2_method_1_code
def yX0_init : MethodName := ⟨RX0, "<init>", "(II)V"⟩
abbrev cX0_layOut : ByteArray := prog_2_method_2_code
def yX0_layOut : MethodName := ⟨RX0, "layOut", "()Z"⟩
abbrev cX0_bringThroughLog : ByteArray := prog_2_method_3_code
def yX0_bringThroughLog : MethodName := ⟨RX0, "bringThroughLog", "(I[LBigLedger$Natural;)Z"⟩
abbrev cX0_bringLogHome : ByteArray := prog_2_method_4_code
def yX0_bringLogHome : MethodName := ⟨RX0, "bringLogHome", "()Z"⟩
abbrev cX0_passStop : ByteArray := prog_2_method_5_code
def yX0_passStop : MethodName := ⟨RX0, "passStop", "()Z"⟩
abbrev cX0_writeFormatted : ByteArray := prog_2_method_6_code
def yX0_writeFormatted : MethodName := ⟨RX0, "writeFormatted", "(Z)Z"⟩
abbrev cX0_writeLogState : ByteArray := prog_2_method_7_code
def yX0_writeLogState : MethodName := ⟨RX0, "writeLogState", "(I)Z"⟩
abbrev cX0_writeBlocks : ByteArray := prog_2_method_8_code
def yX0_writeBlocks : MethodName := ⟨RX0, "writeBlocks", "([LBigLedger$Natural;I[LBigLedger$Natural;)Z"⟩
abbrev cX0_clearHomes : ByteArray := prog_2_method_9_code
def yX0_clearHomes : MethodName := ⟨RX0, "clearHomes", "()Z"⟩
def RX1 : String := "BigLedger$Natural"
def TX1 : u_T := fun k => match k with
  | 0 => ("BigLedger$Natural", "limbs", "[I", true)
  | _ => ("BigLedger$Natural", "size", "I", false)
def tyX1 : Nat → FieldType := fun k => match k with
  | 0 => .array .int
  | _ => .int
abbrev wsX10 : List Cond := u_ws RX1 TX1 2
theorem nmX1 : ∀ a, a < 2 → ∀ b, b < 2 → a ≠ b → (TX1 a).2.1 ≠ (TX1 b).2.1 := by decide +kernel
theorem tyX1_ok : ∀ k, k < 2 → parseFieldDescriptor (TX1 k).2.2.1 = some (tyX1 k) := by decide +kernel
abbrev cX1_init : ByteArray := prog_3_method_1_code
def yX1_init : MethodName := ⟨RX1, "<init>", "(I)V"⟩
abbrev cX1_limbAt : ByteArray := prog_3_method_2_code
def yX1_limbAt : MethodName := ⟨RX1, "limbAt", "(I)I"⟩
abbrev cX1_setZero : ByteArray := prog_3_method_3_code
def yX1_setZero : MethodName := ⟨RX1, "setZero", "()V"⟩
abbrev cX1_setTo : ByteArray := prog_3_method_4_code
def yX1_setTo : MethodName := ⟨RX1, "setTo", "(LBigLedger$Natural;)V"⟩
abbrev cX1_append : ByteArray := prog_3_method_5_code
def yX1_append : MethodName := ⟨RX1, "append", "(I)V"⟩
abbrev cX1_increase : ByteArray := prog_3_method_6_code
def yX1_increase : MethodName := ⟨RX1, "increase", "(LBigLedger$Natural;)V"⟩
abbrev cX1_decrease : ByteArray := prog_3_method_7_code
def yX1_decrease : MethodName := ⟨RX1, "decrease", "(LBigLedger$Natural;)V"⟩
abbrev cX1_multiply : ByteArray := prog_3_method_8_code
def yX1_multiply : MethodName := ⟨RX1, "multiply", "(I)V"⟩
abbrev cX1_divide : ByteArray := prog_3_method_9_code
def yX1_divide : MethodName := ⟨RX1, "divide", "(I)I"⟩
abbrev cX1_standingTo : ByteArray := prog_3_method_10_code
def yX1_standingTo : MethodName := ⟨RX1, "standingTo", "(LBigLedger$Natural;)I"⟩
abbrev cX1_measure : ByteArray := prog_3_method_11_code
def yX1_measure : MethodName := ⟨RX1, "measure", "()V"⟩
def RX2 : String := "BigLedger"
def TX2 : u_T := fun k => match k with
  | 0 => ("BigLedger", "accounts", "I", true)
  | 1 => ("BigLedger", "limbs", "I", true)
  | 2 => ("BigLedger", "room", "I", true)
  | 3 => ("BigLedger", "disk", "LBigLedger$Disk;", true)
  | 4 => ("BigLedger", "pending", "[LBigLedger$Natural;", true)
  | 5 => ("BigLedger", "touched", "I", false)
  | 6 => ("BigLedger", "amount", "LBigLedger$Natural;", true)
  | 7 => ("BigLedger", "up", "Z", false)
  | 8 => ("BigLedger", "scratch", "LBigLedger$Natural;", true)
  | 9 => ("BigLedger", "outBackwards", "[B", true)
  | _ => ("BigLedger", "outLength", "I", false)
def tyX2 : Nat → FieldType := fun k => match k with
  | 0 => .int
  | 1 => .int
  | 2 => .int
  | 3 => .object "BigLedger$Disk"
  | 4 => .array (.object "BigLedger$Natural")
  | 5 => .int
  | 6 => .object "BigLedger$Natural"
  | 7 => .boolean
  | 8 => .object "BigLedger$Natural"
  | 9 => .array .byte
  | _ => .int
abbrev wsX20 : List Cond := u_ws RX2 TX2 11
theorem nmX2 : ∀ a, a < 11 → ∀ b, b < 11 → a ≠ b → (TX2 a).2.1 ≠ (TX2 b).2.1 := by decide +kernel
theorem tyX2_ok : ∀ k, k < 11 → parseFieldDescriptor (TX2 k).2.2.1 = some (tyX2 k) := by decide +kernel
abbrev cX2_init : ByteArray := prog_1_method_1_code
def yX2_init : MethodName := ⟨RX2, "<init>", "(III)V"⟩
abbrev cX2_within : ByteArray := prog_1_method_2_code
def yX2_within : MethodName := ⟨RX2, "within", "(II)I"⟩
abbrev cX2_naturals : ByteArray := prog_1_method_3_code
def yX2_naturals : MethodName := ⟨RX2, "naturals", "(II)[LBigLedger$Natural;"⟩
abbrev cX2_format : ByteArray := prog_1_method_4_code
def yX2_format : MethodName := ⟨RX2, "format", "()Z"⟩
abbrev cX2_amountLimb : ByteArray := prog_1_method_5_code
def yX2_amountLimb : MethodName := ⟨RX2, "amountLimb", "(I)Z"⟩
abbrev cX2_clearAmount : ByteArray := prog_1_method_6_code
def yX2_clearAmount : MethodName := ⟨RX2, "clearAmount", "()Z"⟩
abbrev cX2_deposit : ByteArray := prog_1_method_7_code
def yX2_deposit : MethodName := ⟨RX2, "deposit", "(I)I"⟩
abbrev cX2_withdraw : ByteArray := prog_1_method_8_code
def yX2_withdraw : MethodName := ⟨RX2, "withdraw", "(I)I"⟩
abbrev cX2_transfer : ByteArray := prog_1_method_9_code
def yX2_transfer : MethodName := ⟨RX2, "transfer", "(II)I"⟩
abbrev cX2_part : ByteArray := prog_1_method_10_code
def yX2_part : MethodName := ⟨RX2, "part", "(III)I"⟩
abbrev cX2_commit : ByteArray := prog_1_method_11_code
def yX2_commit : MethodName := ⟨RX2, "commit", "()I"⟩
abbrev cX2_abort : ByteArray := prog_1_method_12_code
def yX2_abort : MethodName := ⟨RX2, "abort", "()Z"⟩
abbrev cX2_balanceSize : ByteArray := prog_1_method_13_code
def yX2_balanceSize : MethodName := ⟨RX2, "balanceSize", "(I)I"⟩
abbrev cX2_balanceLimb : ByteArray := prog_1_method_14_code
def yX2_balanceLimb : MethodName := ⟨RX2, "balanceLimb", "(II)I"⟩
abbrev cX2_totalLimb : ByteArray := prog_1_method_15_code
def yX2_totalLimb : MethodName := ⟨RX2, "totalLimb", "(I)I"⟩
abbrev cX2_amount : ByteArray := prog_1_method_16_code
def yX2_amount : MethodName := ⟨RX2, "amount", "(I)I"⟩
abbrev cX2_compare : ByteArray := prog_1_method_17_code
def yX2_compare : MethodName := ⟨RX2, "compare", "(II)I"⟩
abbrev cX2_stopAfter : ByteArray := prog_1_method_18_code
def yX2_stopAfter : MethodName := ⟨RX2, "stopAfter", "(I)V"⟩
abbrev cX2_recover : ByteArray := prog_1_method_19_code
def yX2_recover : MethodName := ⟨RX2, "recover", "()Z"⟩
abbrev cX2_write : ByteArray := prog_1_method_20_code
def yX2_write : MethodName := ⟨RX2, "write", "(I)I"⟩
abbrev cX2_octet : ByteArray := prog_1_method_21_code
def yX2_octet : MethodName := ⟨RX2, "octet", "(I)I"⟩
abbrev cX2_count : ByteArray := prog_1_method_22_code
def yX2_count : MethodName := ⟨RX2, "count", "(I)I"⟩
abbrev cX2_isAccount : ByteArray := prog_1_method_23_code
def yX2_isAccount : MethodName := ⟨RX2, "isAccount", "(I)Z"⟩
abbrev cX2_totalBlock : ByteArray := prog_1_method_24_code
def yX2_totalBlock : MethodName := ⟨RX2, "totalBlock", "()I"⟩
abbrev cX2_has : ByteArray := prog_1_method_25_code
def yX2_has : MethodName := ⟨RX2, "has", "(II)Z"⟩
abbrev cX2_seen : ByteArray := prog_1_method_26_code
def yX2_seen : MethodName := ⟨RX2, "seen", "(I)LBigLedger$Natural;"⟩
abbrev cX2_touch : ByteArray := prog_1_method_27_code
def yX2_touch : MethodName := ⟨RX2, "touch", "(I)LBigLedger$Natural;"⟩
abbrev cX2_hasRoomFor : ByteArray := prog_1_method_28_code
def yX2_hasRoomFor : MethodName := ⟨RX2, "hasRoomFor", "(II)Z"⟩
abbrev cX2_isAmountAbove : ByteArray := prog_1_method_29_code
def yX2_isAmountAbove : MethodName := ⟨RX2, "isAmountAbove", "(I)Z"⟩
abbrev cX2_wouldBeTooGreat : ByteArray := prog_1_method_30_code
def yX2_wouldBeTooGreat : MethodName := ⟨RX2, "wouldBeTooGreat", "(I)Z"⟩
abbrev cX2_dropPending : ByteArray := prog_1_method_31_code
def yX2_dropPending : MethodName := ⟨RX2, "dropPending", "()V"⟩
abbrev cX2_loseMemory : ByteArray := prog_1_method_32_code
def yX2_loseMemory : MethodName := ⟨RX2, "loseMemory", "()V"⟩
def RX3 : String := "BigLedgerModel"
def TX3 : u_T := fun k => match k with
  | 0 => ("BigLedgerModel", "thrown", "I", false)
  | 1 => ("BigLedgerModel", "accounts", "I", true)
  | 2 => ("BigLedgerModel", "limbs", "I", true)
  | 3 => ("BigLedgerModel", "room", "I", true)
  | 4 => ("BigLedgerModel", "now", "[I", true)
  | 5 => ("BigLedgerModel", "home", "[I", true)
  | 6 => ("BigLedgerModel", "log", "[I", true)
  | 7 => ("BigLedgerModel", "amount", "[I", true)
  | 8 => ("BigLedgerModel", "work", "[I", true)
  | 9 => ("BigLedgerModel", "touched", "[Z", true)
  | 10 => ("BigLedgerModel", "logged", "[Z", true)
  | 11 => ("BigLedgerModel", "up", "Z", false)
  | 12 => ("BigLedgerModel", "formatted", "Z", false)
  | 13 => ("BigLedgerModel", "committed", "Z", false)
  | 14 => ("BigLedgerModel", "writes", "I", false)
  | 15 => ("BigLedgerModel", "left", "I", false)
  | 16 => ("BigLedgerModel", "out", "[B", true)
  | _ => ("BigLedgerModel", "outMany", "I", false)
def tyX3 : Nat → FieldType := fun k => match k with
  | 0 => .int
  | 1 => .int
  | 2 => .int
  | 3 => .int
  | 4 => .array .int
  | 5 => .array .int
  | 6 => .array .int
  | 7 => .array .int
  | 8 => .array .int
  | 9 => .array .boolean
  | 10 => .array .boolean
  | 11 => .boolean
  | 12 => .boolean
  | 13 => .boolean
  | 14 => .int
  | 15 => .int
  | 16 => .array .byte
  | _ => .int
abbrev wsX30 : List Cond := u_ws RX3 TX3 18
theorem nmX3 : ∀ a, a < 18 → ∀ b, b < 18 → a ≠ b → (TX3 a).2.1 ≠ (TX3 b).2.1 := by decide +kernel
theorem tyX3_ok : ∀ k, k < 18 → parseFieldDescriptor (TX3 k).2.2.1 = some (tyX3 k) := by decide +kernel
abbrev cX3_thrown : ByteArray := prog_5_method_1_code
def yX3_thrown : MethodName := ⟨RX3, "thrown", "()I"⟩
abbrev cX3_init : ByteArray := prog_5_method_2_code
def yX3_init : MethodName := ⟨RX3, "<init>", "(III)V"⟩
abbrev cX3_down : ByteArray := prog_5_method_3_code
def yX3_down : MethodName := ⟨RX3, "down", "()V"⟩
abbrev cX3_forget : ByteArray := prog_5_method_4_code
def yX3_forget : MethodName := ⟨RX3, "forget", "()V"⟩
abbrev cX3_writes : ByteArray := prog_5_method_5_code
def yX3_writes : MethodName := ⟨RX3, "writes", "()Z"⟩
abbrev cX3_emptyLog : ByteArray := prog_5_method_6_code
def yX3_emptyLog : MethodName := ⟨RX3, "emptyLog", "()Z"⟩
abbrev cX3_goHome : ByteArray := prog_5_method_7_code
def yX3_goHome : MethodName := ⟨RX3, "goHome", "()Z"⟩
abbrev cX3_format : ByteArray := prog_5_method_8_code
def yX3_format : MethodName := ⟨RX3, "format", "()Z"⟩
abbrev cX3_commit : ByteArray := prog_5_method_9_code
def yX3_commit : MethodName := ⟨RX3, "commit", "()I"⟩
abbrev cX3_recover : ByteArray := prog_5_method_10_code
def yX3_recover : MethodName := ⟨RX3, "recover", "()Z"⟩
abbrev cX3_abort : ByteArray := prog_5_method_11_code
def yX3_abort : MethodName := ⟨RX3, "abort", "()Z"⟩
abbrev cX3_stopAfter : ByteArray := prog_5_method_12_code
def yX3_stopAfter : MethodName := ⟨RX3, "stopAfter", "(I)V"⟩
abbrev cX3_touches : ByteArray := prog_5_method_13_code
def yX3_touches : MethodName := ⟨RX3, "touches", "()I"⟩
abbrev cX3_size : ByteArray := prog_5_method_14_code
def yX3_size : MethodName := ⟨RX3, "size", "([II)I"⟩
abbrev cX3_compared : ByteArray := prog_5_method_15_code
def yX3_compared : MethodName := ⟨RX3, "compared", "([II[II)I"⟩
abbrev cX3_change : ByteArray := prog_5_method_16_code
def yX3_change : MethodName := ⟨RX3, "change", "(IZ)V"⟩
abbrev cX3_isGreat : ByteArray := prog_5_method_17_code
def yX3_isGreat : MethodName := ⟨RX3, "isGreat", "(I)Z"⟩
abbrev cX3_amountLimb : ByteArray := prog_5_method_18_code
def yX3_amountLimb : MethodName := ⟨RX3, "amountLimb", "(I)Z"⟩
abbrev cX3_clearAmount : ByteArray := prog_5_method_19_code
def yX3_clearAmount : MethodName := ⟨RX3, "clearAmount", "()Z"⟩
abbrev cX3_no : ByteArray := prog_5_method_20_code
def yX3_no : MethodName := ⟨RX3, "no", "(I)Z"⟩
abbrev cX3_isFull : ByteArray := prog_5_method_21_code
def yX3_isFull : MethodName := ⟨RX3, "isFull", "(II)Z"⟩
abbrev cX3_deposit : ByteArray := prog_5_method_22_code
def yX3_deposit : MethodName := ⟨RX3, "deposit", "(I)I"⟩
abbrev cX3_withdraw : ByteArray := prog_5_method_23_code
def yX3_withdraw : MethodName := ⟨RX3, "withdraw", "(I)I"⟩
abbrev cX3_transfer : ByteArray := prog_5_method_24_code
def yX3_transfer : MethodName := ⟨RX3, "transfer", "(II)I"⟩
abbrev cX3_part : ByteArray := prog_5_method_25_code
def yX3_part : MethodName := ⟨RX3, "part", "(III)I"⟩
abbrev cX3_balanceSize : ByteArray := prog_5_method_26_code
def yX3_balanceSize : MethodName := ⟨RX3, "balanceSize", "(I)I"⟩
abbrev cX3_balanceLimb : ByteArray := prog_5_method_27_code
def yX3_balanceLimb : MethodName := ⟨RX3, "balanceLimb", "(II)I"⟩
abbrev cX3_totalLimb : ByteArray := prog_5_method_28_code
def yX3_totalLimb : MethodName := ⟨RX3, "totalLimb", "(I)I"⟩
abbrev cX3_amount : ByteArray := prog_5_method_29_code
def yX3_amount : MethodName := ⟨RX3, "amount", "(I)I"⟩
abbrev cX3_compare : ByteArray := prog_5_method_30_code
def yX3_compare : MethodName := ⟨RX3, "compare", "(II)I"⟩
abbrev cX3_write : ByteArray := prog_5_method_31_code
def yX3_write : MethodName := ⟨RX3, "write", "(I)I"⟩
abbrev cX3_octet : ByteArray := prog_5_method_32_code
def yX3_octet : MethodName := ⟨RX3, "octet", "(I)I"⟩
abbrev cX3_count : ByteArray := prog_5_method_33_code
def yX3_count : MethodName := ⟨RX3, "count", "(I)I"⟩
def RJ6 : String := "java/lang/Integer"
def TJ6 : u_T := fun k => match k with
  | _ => ("", "", "", false)
def tyJ6 : Nat → FieldType := fun k => match k with
  | _ => .int
abbrev wsJ60 : List Cond := u_ws RJ6 TJ6 0
theorem nmJ6 : ∀ a, a < 0 → ∀ b, b < 0 → a ≠ b → (TJ6 a).2.1 ≠ (TJ6 b).2.1 := by decide +kernel
theorem tyJ6_ok : ∀ k, k < 0 → parseFieldDescriptor (TJ6 k).2.2.1 = some (tyJ6 k) := by decide +kernel
abbrev cJ6_compare_7cf53 : ByteArray := prog_7_method_40_code
def yJ6_compare_7cf53 : MethodName := ⟨RJ6, "compare", "(II)I"⟩
abbrev cJ6_bitCount_0f7a4 : ByteArray := prog_7_method_49_code
def yJ6_bitCount_0f7a4 : MethodName := ⟨RJ6, "bitCount", "(I)I"⟩
def RJ9 : String := "java/lang/Math"
def TJ9 : u_T := fun k => match k with
  | _ => ("", "", "", false)
def tyJ9 : Nat → FieldType := fun k => match k with
  | _ => .int
abbrev wsJ90 : List Cond := u_ws RJ9 TJ9 0
theorem nmJ9 : ∀ a, a < 0 → ∀ b, b < 0 → a ≠ b → (TJ9 a).2.1 ≠ (TJ9 b).2.1 := by decide +kernel
theorem tyJ9_ok : ∀ k, k < 0 → parseFieldDescriptor (TJ9 k).2.2.1 = some (tyJ9 k) := by decide +kernel
abbrev cJ9_max_7cf53 : ByteArray := prog_8_method_65_code
def yJ9_max_7cf53 : MethodName := ⟨RJ9, "max", "(II)I"⟩
abbrev cJ9_min_7cf53 : ByteArray := prog_8_method_69_code
def yJ9_min_7cf53 : MethodName := ⟨RJ9, "min", "(II)I"⟩
def RJ0 : String := "java/lang/String"
def TJ0 : u_T := fun k => match k with
  | _ => ("", "", "", false)
def tyJ0 : Nat → FieldType := fun k => match k with
  | _ => .int
abbrev wsJ00 : List Cond := u_ws RJ0 TJ0 0
theorem nmJ0 : ∀ a, a < 0 → ∀ b, b < 0 → a ≠ b → (TJ0 a).2.1 ≠ (TJ0 b).2.1 := by decide +kernel
theorem tyJ0_ok : ∀ k, k < 0 → parseFieldDescriptor (TJ0 k).2.2.1 = some (tyJ0 k) := by decide +kernel
def RL : String := "BigLedgerLaw"
abbrev cL_cell : ByteArray := method_2_code
def yL_cell : MethodName := ⟨RL, "cell", "([II)I"⟩
abbrev cL_octet : ByteArray := method_3_code
def yL_octet : MethodName := ⟨RL, "octet", "(LBigLedger;I[J)I"⟩
abbrev cL_law : ByteArray := code
def yL_law : MethodName := ⟨RL, "law", "([I)Z"⟩
def wsX1_init : List Cond := .code yX1_init cX1_init 2 none :: ([.methodLink RX1 3 objectInit, .instanceMethod objectInit, .code objectInit ⟨#[0xb1]⟩ 1 none, .arrayClass .int, .fieldLink RX1 9 "BigLedger$Natural" "limbs" "[I"] ++ wsX10)
def wsX2_naturals : List Cond := .code yX2_naturals cX2_naturals 4 (some (.array (.object "BigLedger$Natural"))) :: ([.classLink RX2 40 RX1, .instantiable RX1 2, .initialized RX1, .methodLink RX2 42 yX1_init, .instanceMethod yX1_init, .code yX1_init cX1_init 2 none, .methodLink RX1 3 objectInit, .instanceMethod objectInit, .code objectInit ⟨#[0xb1]⟩ 1 none, .arrayClass .int, .fieldLink RX1 9 "BigLedger$Natural" "limbs" "[I"] ++ wsX10)
def wsX0_init : List Cond := .code yX0_init cX0_init 3 none :: ([.methodLink RX0 3 objectInit, .instanceMethod objectInit, .code objectInit ⟨#[0xb1]⟩ 1 none, .fieldLink RX0 13 "BigLedger$Disk" "home" "[LBigLedger$Natural;", .fieldLink RX0 19 "BigLedger$Disk" "log" "[LBigLedger$Natural;", .fieldLink RX0 22 "BigLedger$Disk" "writesUntilStop" "I", .static yX2_naturals, .initialized RX2, .code yX2_naturals cX2_naturals 4 (some (.array (.object "BigLedger$Natural"))), .classLink RX2 40 RX1, .instantiable RX1 2, .initialized RX1, .methodLink RX2 42 yX1_init, .instanceMethod yX1_init, .code yX1_init cX1_init 2 none, .methodLink RX1 3 objectInit, .arrayClass .int, .fieldLink RX1 9 "BigLedger$Natural" "limbs" "[I"] ++ wsX00 ++ wsX10)
def wsX0_passStop : List Cond := .code yX0_passStop cX0_passStop 1 (some .boolean) :: ([.fieldLink RX0 22 "BigLedger$Disk" "writesUntilStop" "I", .fieldLink RX0 48 "BigLedger$Disk" "writesDone" "I"] ++ wsX00)
def wsX0_writeFormatted : List Cond := .code yX0_writeFormatted cX0_writeFormatted 2 (some .boolean) :: ([.fieldLink RX0 54 "BigLedger$Disk" "formatted" "Z", .methodLink RX0 51 yX0_passStop, .instanceMethod yX0_passStop, .selects RX0 yX0_passStop yX0_passStop, .initialized RX0, .code yX0_passStop cX0_passStop 1 (some .boolean), .fieldLink RX0 22 "BigLedger$Disk" "writesUntilStop" "I", .fieldLink RX0 48 "BigLedger$Disk" "writesDone" "I"] ++ wsX00)
def wsX0_writeLogState : List Cond := .code yX0_writeLogState cX0_writeLogState 2 (some .boolean) :: ([.fieldLink RX0 45 "BigLedger$Disk" "committed" "I", .methodLink RX0 51 yX0_passStop, .instanceMethod yX0_passStop, .selects RX0 yX0_passStop yX0_passStop, .initialized RX0, .code yX0_passStop cX0_passStop 1 (some .boolean), .fieldLink RX0 22 "BigLedger$Disk" "writesUntilStop" "I", .fieldLink RX0 48 "BigLedger$Disk" "writesDone" "I"] ++ wsX00)
def wsX1_setZero : List Cond := .code yX1_setZero cX1_setZero 2 none :: ([.fieldLink RX1 9 "BigLedger$Natural" "limbs" "[I", .fieldLink RX1 15 "BigLedger$Natural" "size" "I"] ++ wsX10)
def wsX0_clearHomes : List Cond := .code yX0_clearHomes cX0_clearHomes 2 (some .boolean) :: ([.fieldLink RX0 13 "BigLedger$Disk" "home" "[LBigLedger$Natural;", .methodLink RX0 51 yX0_passStop, .instanceMethod yX0_passStop, .selects RX0 yX0_passStop yX0_passStop, .initialized RX0, .code yX0_passStop cX0_passStop 1 (some .boolean), .fieldLink RX0 22 "BigLedger$Disk" "writesUntilStop" "I", .fieldLink RX0 48 "BigLedger$Disk" "writesDone" "I", .methodLink RX0 68 yX1_setZero, .instanceMethod yX1_setZero, .selects RX1 yX1_setZero yX1_setZero, .initialized RX1, .code yX1_setZero cX1_setZero 2 none, .fieldLink RX1 9 "BigLedger$Natural" "limbs" "[I", .fieldLink RX1 15 "BigLedger$Natural" "size" "I"] ++ wsX00 ++ wsX10)
def wsX0_layOut_r1 : List Cond := [Cond.methodLink RX0 26 yX0_writeFormatted, Cond.instanceMethod yX0_writeFormatted, Cond.selects RX0 yX0_writeFormatted yX0_writeFormatted, Cond.initialized RX0, Cond.code yX0_writeFormatted cX0_writeFormatted 2 (some .boolean), Cond.fieldLink RX0 54 "BigLedger$Disk" "formatted" "Z", Cond.methodLink RX0 51 yX0_passStop, Cond.instanceMethod yX0_passStop, Cond.selects RX0 yX0_passStop yX0_passStop, Cond.code yX0_passStop cX0_passStop 1 (some .boolean), Cond.fieldLink RX0 22 "BigLedger$Disk" "writesUntilStop" "I", Cond.fieldLink RX0 48 "BigLedger$Disk" "writesDone" "I", Cond.methodLink RX0 30 yX0_writeLogState, Cond.instanceMethod yX0_writeLogState, Cond.selects RX0 yX0_writeLogState yX0_writeLogState, Cond.code yX0_writeLogState cX0_writeLogState 2 (some .boolean), Cond.fieldLink RX0 45 "BigLedger$Disk" "committed" "I", Cond.methodLink RX0 34 yX0_clearHomes, Cond.instanceMethod yX0_clearHomes, Cond.selects RX0 yX0_clearHomes yX0_clearHomes, Cond.code yX0_clearHomes cX0_clearHomes 2 (some .boolean), Cond.fieldLink RX0 13 "BigLedger$Disk" "home" "[LBigLedger$Natural;", Cond.methodLink RX0 68 yX1_setZero, Cond.instanceMethod yX1_setZero]
def wsX0_layOut_r2 : List Cond := [Cond.selects RX1 yX1_setZero yX1_setZero, Cond.initialized RX1, Cond.code yX1_setZero cX1_setZero 2 none, Cond.fieldLink RX1 9 "BigLedger$Natural" "limbs" "[I", Cond.fieldLink RX1 15 "BigLedger$Natural" "size" "I"]
def wsX0_layOut : List Cond := .code yX0_layOut cX0_layOut 1 (some .boolean) :: ((wsX0_layOut_r1 ++ wsX0_layOut_r2) ++ wsX00 ++ wsX10)
def wsX2_has : List Cond := .code yX2_has cX2_has 2 (some .boolean) :: ([])
def wsX1_limbAt : List Cond := .code yX1_limbAt cX1_limbAt 2 (some .int) :: ([.fieldLink RX1 15 "BigLedger$Natural" "size" "I", .fieldLink RX1 9 "BigLedger$Natural" "limbs" "[I"] ++ wsX10)
def wsX1_measure : List Cond := .code yX1_measure cX1_measure 1 none :: ([.fieldLink RX1 9 "BigLedger$Natural" "limbs" "[I", .fieldLink RX1 15 "BigLedger$Natural" "size" "I"] ++ wsX10)
def wsX1_setTo : List Cond := .code yX1_setTo cX1_setTo 3 none :: ([.fieldLink RX1 9 "BigLedger$Natural" "limbs" "[I", .methodLink RX1 19 yX1_limbAt, .instanceMethod yX1_limbAt, .selects RX1 yX1_limbAt yX1_limbAt, .initialized RX1, .code yX1_limbAt cX1_limbAt 2 (some .int), .fieldLink RX1 15 "BigLedger$Natural" "size" "I", .methodLink RX1 23 yX1_measure, .instanceMethod yX1_measure, .selects RX1 yX1_measure yX1_measure, .code yX1_measure cX1_measure 1 none] ++ wsX10)
def wsX0_writeBlocks_r1 : List Cond := [Cond.static yX2_has, Cond.initialized RX2, Cond.code yX2_has cX2_has 2 (some .boolean), Cond.methodLink RX0 51 yX0_passStop, Cond.instanceMethod yX0_passStop, Cond.selects RX0 yX0_passStop yX0_passStop, Cond.initialized RX0, Cond.code yX0_passStop cX0_passStop 1 (some .boolean), Cond.fieldLink RX0 22 "BigLedger$Disk" "writesUntilStop" "I", Cond.fieldLink RX0 48 "BigLedger$Disk" "writesDone" "I", Cond.methodLink RX0 62 yX1_setTo, Cond.instanceMethod yX1_setTo, Cond.selects RX1 yX1_setTo yX1_setTo, Cond.initialized RX1, Cond.code yX1_setTo cX1_setTo 3 none, Cond.fieldLink RX1 9 "BigLedger$Natural" "limbs" "[I", Cond.methodLink RX1 19 yX1_limbAt, Cond.instanceMethod yX1_limbAt, Cond.selects RX1 yX1_limbAt yX1_limbAt, Cond.code yX1_limbAt cX1_limbAt 2 (some .int), Cond.fieldLink RX1 15 "BigLedger$Natural" "size" "I", Cond.methodLink RX1 23 yX1_measure, Cond.instanceMethod yX1_measure, Cond.selects RX1 yX1_measure yX1_measure]
def wsX0_writeBlocks_r2 : List Cond := [Cond.code yX1_measure cX1_measure 1 none]
def wsX0_writeBlocks : List Cond := .code yX0_writeBlocks cX0_writeBlocks 5 (some .boolean) :: ((wsX0_writeBlocks_r1 ++ wsX0_writeBlocks_r2) ++ wsX00 ++ wsX10)
def wsX0_bringLogHome_r1 : List Cond := [Cond.fieldLink RX0 45 "BigLedger$Disk" "committed" "I", Cond.fieldLink RX0 13 "BigLedger$Disk" "home" "[LBigLedger$Natural;", Cond.fieldLink RX0 19 "BigLedger$Disk" "log" "[LBigLedger$Natural;", Cond.methodLink RX0 38 yX0_writeBlocks, Cond.instanceMethod yX0_writeBlocks, Cond.selects RX0 yX0_writeBlocks yX0_writeBlocks, Cond.initialized RX0, Cond.code yX0_writeBlocks cX0_writeBlocks 5 (some .boolean), Cond.static yX2_has, Cond.initialized RX2, Cond.code yX2_has cX2_has 2 (some .boolean), Cond.methodLink RX0 51 yX0_passStop, Cond.instanceMethod yX0_passStop, Cond.selects RX0 yX0_passStop yX0_passStop, Cond.code yX0_passStop cX0_passStop 1 (some .boolean), Cond.fieldLink RX0 22 "BigLedger$Disk" "writesUntilStop" "I", Cond.fieldLink RX0 48 "BigLedger$Disk" "writesDone" "I", Cond.methodLink RX0 62 yX1_setTo, Cond.instanceMethod yX1_setTo, Cond.selects RX1 yX1_setTo yX1_setTo, Cond.initialized RX1, Cond.code yX1_setTo cX1_setTo 3 none, Cond.fieldLink RX1 9 "BigLedger$Natural" "limbs" "[I", Cond.methodLink RX1 19 yX1_limbAt]
def wsX0_bringLogHome_r2 : List Cond := [Cond.instanceMethod yX1_limbAt, Cond.selects RX1 yX1_limbAt yX1_limbAt, Cond.code yX1_limbAt cX1_limbAt 2 (some .int), Cond.fieldLink RX1 15 "BigLedger$Natural" "size" "I", Cond.methodLink RX1 23 yX1_measure, Cond.instanceMethod yX1_measure, Cond.selects RX1 yX1_measure yX1_measure, Cond.code yX1_measure cX1_measure 1 none, Cond.methodLink RX0 30 yX0_writeLogState, Cond.instanceMethod yX0_writeLogState, Cond.selects RX0 yX0_writeLogState yX0_writeLogState, Cond.code yX0_writeLogState cX0_writeLogState 2 (some .boolean)]
def wsX0_bringLogHome : List Cond := .code yX0_bringLogHome cX0_bringLogHome 1 (some .boolean) :: ((wsX0_bringLogHome_r1 ++ wsX0_bringLogHome_r2) ++ wsX00 ++ wsX10)
def wsX0_bringThroughLog_r1 : List Cond := [Cond.fieldLink RX0 19 "BigLedger$Disk" "log" "[LBigLedger$Natural;", Cond.methodLink RX0 38 yX0_writeBlocks, Cond.instanceMethod yX0_writeBlocks, Cond.selects RX0 yX0_writeBlocks yX0_writeBlocks, Cond.initialized RX0, Cond.code yX0_writeBlocks cX0_writeBlocks 5 (some .boolean), Cond.static yX2_has, Cond.initialized RX2, Cond.code yX2_has cX2_has 2 (some .boolean), Cond.methodLink RX0 51 yX0_passStop, Cond.instanceMethod yX0_passStop, Cond.selects RX0 yX0_passStop yX0_passStop, Cond.code yX0_passStop cX0_passStop 1 (some .boolean), Cond.fieldLink RX0 22 "BigLedger$Disk" "writesUntilStop" "I", Cond.fieldLink RX0 48 "BigLedger$Disk" "writesDone" "I", Cond.methodLink RX0 62 yX1_setTo, Cond.instanceMethod yX1_setTo, Cond.selects RX1 yX1_setTo yX1_setTo, Cond.initialized RX1, Cond.code yX1_setTo cX1_setTo 3 none, Cond.fieldLink RX1 9 "BigLedger$Natural" "limbs" "[I", Cond.methodLink RX1 19 yX1_limbAt, Cond.instanceMethod yX1_limbAt, Cond.selects RX1 yX1_limbAt yX1_limbAt]
def wsX0_bringThroughLog_r2 : List Cond := [Cond.code yX1_limbAt cX1_limbAt 2 (some .int), Cond.fieldLink RX1 15 "BigLedger$Natural" "size" "I", Cond.methodLink RX1 23 yX1_measure, Cond.instanceMethod yX1_measure, Cond.selects RX1 yX1_measure yX1_measure, Cond.code yX1_measure cX1_measure 1 none, Cond.methodLink RX0 30 yX0_writeLogState, Cond.instanceMethod yX0_writeLogState, Cond.selects RX0 yX0_writeLogState yX0_writeLogState, Cond.code yX0_writeLogState cX0_writeLogState 2 (some .boolean), Cond.fieldLink RX0 45 "BigLedger$Disk" "committed" "I", Cond.methodLink RX0 42 yX0_bringLogHome, Cond.instanceMethod yX0_bringLogHome, Cond.selects RX0 yX0_bringLogHome yX0_bringLogHome, Cond.code yX0_bringLogHome cX0_bringLogHome 1 (some .boolean), Cond.fieldLink RX0 13 "BigLedger$Disk" "home" "[LBigLedger$Natural;"]
def wsX0_bringThroughLog : List Cond := .code yX0_bringThroughLog cX0_bringThroughLog 3 (some .boolean) :: ((wsX0_bringThroughLog_r1 ++ wsX0_bringThroughLog_r2) ++ wsX00 ++ wsX10)
def wsX1_append : List Cond := .code yX1_append cX1_append 3 none :: ([.fieldLink RX1 9 "BigLedger$Natural" "limbs" "[I", .methodLink RX1 23 yX1_measure, .instanceMethod yX1_measure, .selects RX1 yX1_measure yX1_measure, .initialized RX1, .code yX1_measure cX1_measure 1 none, .fieldLink RX1 15 "BigLedger$Natural" "size" "I"] ++ wsX10)
def wsX1_increase : List Cond := .code yX1_increase cX1_increase 7 none :: ([.fieldLink RX1 9 "BigLedger$Natural" "limbs" "[I", .constantLong RX1 26 (2147483647), .methodLink RX1 19 yX1_limbAt, .instanceMethod yX1_limbAt, .selects RX1 yX1_limbAt yX1_limbAt, .initialized RX1, .code yX1_limbAt cX1_limbAt 2 (some .int), .fieldLink RX1 15 "BigLedger$Natural" "size" "I", .methodLink RX1 23 yX1_measure, .instanceMethod yX1_measure, .selects RX1 yX1_measure yX1_measure, .code yX1_measure cX1_measure 1 none] ++ wsX10)
def wsX1_decrease : List Cond := .code yX1_decrease cX1_decrease 7 none :: ([.fieldLink RX1 9 "BigLedger$Natural" "limbs" "[I", .constantLong RX1 26 (2147483647), .methodLink RX1 19 yX1_limbAt, .instanceMethod yX1_limbAt, .selects RX1 yX1_limbAt yX1_limbAt, .initialized RX1, .code yX1_limbAt cX1_limbAt 2 (some .int), .fieldLink RX1 15 "BigLedger$Natural" "size" "I", .methodLink RX1 23 yX1_measure, .instanceMethod yX1_measure, .selects RX1 yX1_measure yX1_measure, .code yX1_measure cX1_measure 1 none] ++ wsX10)
def wsX1_multiply : List Cond := .code yX1_multiply cX1_multiply 7 none :: ([.fieldLink RX1 9 "BigLedger$Natural" "limbs" "[I", .constantLong RX1 26 (2147483647), .methodLink RX1 23 yX1_measure, .instanceMethod yX1_measure, .selects RX1 yX1_measure yX1_measure, .initialized RX1, .code yX1_measure cX1_measure 1 none, .fieldLink RX1 15 "BigLedger$Natural" "size" "I"] ++ wsX10)
def wsX1_divide : List Cond := .code yX1_divide cX1_divide 7 (some .int) :: ([.fieldLink RX1 9 "BigLedger$Natural" "limbs" "[I", .methodLink RX1 23 yX1_measure, .instanceMethod yX1_measure, .selects RX1 yX1_measure yX1_measure, .initialized RX1, .code yX1_measure cX1_measure 1 none, .fieldLink RX1 15 "BigLedger$Natural" "size" "I"] ++ wsX10)
def wsJ6_compare_7cf53 : List Cond := .code yJ6_compare_7cf53 cJ6_compare_7cf53 2 (some .int) :: ([])
def wsX1_standingTo : List Cond := .code yX1_standingTo cX1_standingTo 4 (some .int) :: ([.fieldLink RX1 9 "BigLedger$Natural" "limbs" "[I", .methodLink RX1 19 yX1_limbAt, .instanceMethod yX1_limbAt, .selects RX1 yX1_limbAt yX1_limbAt, .initialized RX1, .code yX1_limbAt cX1_limbAt 2 (some .int), .fieldLink RX1 15 "BigLedger$Natural" "size" "I", .methodLink RX1 28 yJ6_compare_7cf53, .static yJ6_compare_7cf53, .initialized RJ6, .code yJ6_compare_7cf53 cJ6_compare_7cf53 2 (some .int)] ++ wsX10)
def wsX2_within : List Cond := .code yX2_within cX2_within 2 (some .int) :: ([.methodLink RX2 56 Lib.Math.min.name, .static Lib.Math.min.name, .initialized "java/lang/Math", .code Lib.Math.min.name Lib.Math.min.code 2 (some .int), .methodLink RX2 61 Lib.Math.max.name, .static Lib.Math.max.name, .code Lib.Math.max.name Lib.Math.max.code 2 (some .int)])
def wsX2_init_r1 : List Cond := [Cond.methodLink RX2 1 objectInit, Cond.instanceMethod objectInit, Cond.code objectInit ⟨#[0xb1]⟩ 1 none, Cond.fieldLink RX2 13 "BigLedger" "accounts" "I", Cond.fieldLink RX2 17 "BigLedger" "limbs" "I", Cond.fieldLink RX2 20 "BigLedger" "room" "I", Cond.classLink RX2 23 RX0, Cond.instantiable RX0 6, Cond.initialized RX0, Cond.fieldLink RX2 28 "BigLedger" "disk" "LBigLedger$Disk;", Cond.fieldLink RX2 36 "BigLedger" "pending" "[LBigLedger$Natural;", Cond.classLink RX2 40 RX1, Cond.instantiable RX1 2, Cond.initialized RX1, Cond.fieldLink RX2 45 "BigLedger" "amount" "LBigLedger$Natural;", Cond.fieldLink RX2 49 "BigLedger" "scratch" "LBigLedger$Natural;", Cond.arrayClass .byte, Cond.fieldLink RX2 52 "BigLedger" "outBackwards" "[B", Cond.methodLink RX2 9 yX2_within, Cond.static yX2_within, Cond.initialized RX2, Cond.code yX2_within cX2_within 2 (some .int), Cond.methodLink RX2 56 Lib.Math.min.name, Cond.static Lib.Math.min.name]
def wsX2_init_r2 : List Cond := [Cond.initialized "java/lang/Math", Cond.code Lib.Math.min.name Lib.Math.min.code 2 (some .int), Cond.methodLink RX2 61 Lib.Math.max.name, Cond.static Lib.Math.max.name, Cond.code Lib.Math.max.name Lib.Math.max.code 2 (some .int), Cond.methodLink RX2 25 yX0_init, Cond.instanceMethod yX0_init, Cond.code yX0_init cX0_init 3 none, Cond.methodLink RX0 3 objectInit, Cond.fieldLink RX0 13 "BigLedger$Disk" "home" "[LBigLedger$Natural;", Cond.fieldLink RX0 19 "BigLedger$Disk" "log" "[LBigLedger$Natural;", Cond.fieldLink RX0 22 "BigLedger$Disk" "writesUntilStop" "I", Cond.static yX2_naturals, Cond.code yX2_naturals cX2_naturals 4 (some (.array (.object "BigLedger$Natural"))), Cond.methodLink RX2 42 yX1_init, Cond.instanceMethod yX1_init, Cond.code yX1_init cX1_init 2 none, Cond.methodLink RX1 3 objectInit, Cond.arrayClass .int, Cond.fieldLink RX1 9 "BigLedger$Natural" "limbs" "[I", Cond.methodLink RX2 32 yX2_naturals]
def wsX2_init : List Cond := .code yX2_init cX2_init 6 none :: ((wsX2_init_r1 ++ wsX2_init_r2) ++ wsX20 ++ wsX00 ++ wsX10)
def wsX2_dropPending : List Cond := .code yX2_dropPending cX2_dropPending 1 none :: ([.fieldLink RX2 126 "BigLedger" "touched" "I"] ++ wsX20)
def wsX2_loseMemory : List Cond := .code yX2_loseMemory cX2_loseMemory 1 none :: ([.fieldLink RX2 45 "BigLedger" "amount" "LBigLedger$Natural;", .methodLink RX2 133 yX2_dropPending, .instanceMethod yX2_dropPending, .selects RX2 yX2_dropPending yX2_dropPending, .initialized RX2, .code yX2_dropPending cX2_dropPending 1 none, .fieldLink RX2 126 "BigLedger" "touched" "I", .methodLink RX2 81 yX1_setZero, .instanceMethod yX1_setZero, .selects RX1 yX1_setZero yX1_setZero, .initialized RX1, .code yX1_setZero cX1_setZero 2 none, .fieldLink RX1 9 "BigLedger$Natural" "limbs" "[I", .fieldLink RX1 15 "BigLedger$Natural" "size" "I"] ++ wsX20 ++ wsX10)
def wsX2_format_r1 : List Cond := [Cond.fieldLink RX2 28 "BigLedger" "disk" "LBigLedger$Disk;", Cond.fieldLink RX2 71 "BigLedger" "up" "Z", Cond.methodLink RX2 64 yX2_loseMemory, Cond.instanceMethod yX2_loseMemory, Cond.selects RX2 yX2_loseMemory yX2_loseMemory, Cond.initialized RX2, Cond.code yX2_loseMemory cX2_loseMemory 1 none, Cond.fieldLink RX2 45 "BigLedger" "amount" "LBigLedger$Natural;", Cond.methodLink RX2 133 yX2_dropPending, Cond.instanceMethod yX2_dropPending, Cond.selects RX2 yX2_dropPending yX2_dropPending, Cond.code yX2_dropPending cX2_dropPending 1 none, Cond.fieldLink RX2 126 "BigLedger" "touched" "I", Cond.methodLink RX2 81 yX1_setZero, Cond.instanceMethod yX1_setZero, Cond.selects RX1 yX1_setZero yX1_setZero, Cond.initialized RX1, Cond.code yX1_setZero cX1_setZero 2 none, Cond.fieldLink RX1 9 "BigLedger$Natural" "limbs" "[I", Cond.fieldLink RX1 15 "BigLedger$Natural" "size" "I", Cond.methodLink RX2 67 yX0_layOut, Cond.instanceMethod yX0_layOut, Cond.selects RX0 yX0_layOut yX0_layOut, Cond.initialized RX0]
def wsX2_format_r2 : List Cond := [Cond.code yX0_layOut cX0_layOut 1 (some .boolean), Cond.methodLink RX0 26 yX0_writeFormatted, Cond.instanceMethod yX0_writeFormatted, Cond.selects RX0 yX0_writeFormatted yX0_writeFormatted, Cond.code yX0_writeFormatted cX0_writeFormatted 2 (some .boolean), Cond.fieldLink RX0 54 "BigLedger$Disk" "formatted" "Z", Cond.methodLink RX0 51 yX0_passStop, Cond.instanceMethod yX0_passStop, Cond.selects RX0 yX0_passStop yX0_passStop, Cond.code yX0_passStop cX0_passStop 1 (some .boolean), Cond.fieldLink RX0 22 "BigLedger$Disk" "writesUntilStop" "I", Cond.fieldLink RX0 48 "BigLedger$Disk" "writesDone" "I", Cond.methodLink RX0 30 yX0_writeLogState, Cond.instanceMethod yX0_writeLogState, Cond.selects RX0 yX0_writeLogState yX0_writeLogState, Cond.code yX0_writeLogState cX0_writeLogState 2 (some .boolean), Cond.fieldLink RX0 45 "BigLedger$Disk" "committed" "I", Cond.methodLink RX0 34 yX0_clearHomes, Cond.instanceMethod yX0_clearHomes, Cond.selects RX0 yX0_clearHomes yX0_clearHomes, Cond.code yX0_clearHomes cX0_clearHomes 2 (some .boolean), Cond.fieldLink RX0 13 "BigLedger$Disk" "home" "[LBigLedger$Natural;", Cond.methodLink RX0 68 yX1_setZero]
def wsX2_format : List Cond := .code yX2_format cX2_format 1 (some .boolean) :: ((wsX2_format_r1 ++ wsX2_format_r2) ++ wsX20 ++ wsX10 ++ wsX00)
def wsX2_amountLimb : List Cond := .code yX2_amountLimb cX2_amountLimb 2 (some .boolean) :: ([.fieldLink RX2 71 "BigLedger" "up" "Z", .fieldLink RX2 45 "BigLedger" "amount" "LBigLedger$Natural;", .fieldLink RX2 17 "BigLedger" "limbs" "I", .methodLink RX2 78 yX1_append, .instanceMethod yX1_append, .selects RX1 yX1_append yX1_append, .initialized RX1, .code yX1_append cX1_append 3 none, .fieldLink RX1 9 "BigLedger$Natural" "limbs" "[I", .methodLink RX1 23 yX1_measure, .instanceMethod yX1_measure, .selects RX1 yX1_measure yX1_measure, .code yX1_measure cX1_measure 1 none, .fieldLink RX1 15 "BigLedger$Natural" "size" "I"] ++ wsX20 ++ wsX10)
def wsX2_clearAmount : List Cond := .code yX2_clearAmount cX2_clearAmount 1 (some .boolean) :: ([.fieldLink RX2 71 "BigLedger" "up" "Z", .fieldLink RX2 45 "BigLedger" "amount" "LBigLedger$Natural;", .methodLink RX2 81 yX1_setZero, .instanceMethod yX1_setZero, .selects RX1 yX1_setZero yX1_setZero, .initialized RX1, .code yX1_setZero cX1_setZero 2 none, .fieldLink RX1 9 "BigLedger$Natural" "limbs" "[I", .fieldLink RX1 15 "BigLedger$Natural" "size" "I"] ++ wsX20 ++ wsX10)
def wsX2_isAccount : List Cond := .code yX2_isAccount cX2_isAccount 2 (some .boolean) :: ([.fieldLink RX2 13 "BigLedger" "accounts" "I"] ++ wsX20)
def wsX2_seen : List Cond := .code yX2_seen cX2_seen 2 (some (.object "BigLedger$Natural")) :: ([.fieldLink RX2 126 "BigLedger" "touched" "I", .fieldLink RX2 36 "BigLedger" "pending" "[LBigLedger$Natural;", .fieldLink RX2 28 "BigLedger" "disk" "LBigLedger$Disk;", .methodLink RX2 170 yX2_has, .static yX2_has, .initialized RX2, .code yX2_has cX2_has 2 (some .boolean)] ++ wsX20 ++ wsX00)
def wsX2_wouldBeTooGreat_r1 : List Cond := [Cond.fieldLink RX2 49 "BigLedger" "scratch" "LBigLedger$Natural;", Cond.fieldLink RX2 45 "BigLedger" "amount" "LBigLedger$Natural;", Cond.fieldLink RX2 17 "BigLedger" "limbs" "I", Cond.methodLink RX2 113 yX2_seen, Cond.instanceMethod yX2_seen, Cond.selects RX2 yX2_seen yX2_seen, Cond.initialized RX2, Cond.code yX2_seen cX2_seen 2 (some (.object "BigLedger$Natural")), Cond.fieldLink RX2 126 "BigLedger" "touched" "I", Cond.fieldLink RX2 36 "BigLedger" "pending" "[LBigLedger$Natural;", Cond.fieldLink RX2 28 "BigLedger" "disk" "LBigLedger$Disk;", Cond.methodLink RX2 170 yX2_has, Cond.static yX2_has, Cond.code yX2_has cX2_has 2 (some .boolean), Cond.methodLink RX2 116 yX1_setTo, Cond.instanceMethod yX1_setTo, Cond.selects RX1 yX1_setTo yX1_setTo, Cond.initialized RX1, Cond.code yX1_setTo cX1_setTo 3 none, Cond.fieldLink RX1 9 "BigLedger$Natural" "limbs" "[I", Cond.methodLink RX1 19 yX1_limbAt, Cond.instanceMethod yX1_limbAt, Cond.selects RX1 yX1_limbAt yX1_limbAt, Cond.code yX1_limbAt cX1_limbAt 2 (some .int)]
def wsX2_wouldBeTooGreat_r2 : List Cond := [Cond.fieldLink RX1 15 "BigLedger$Natural" "size" "I", Cond.methodLink RX1 23 yX1_measure, Cond.instanceMethod yX1_measure, Cond.selects RX1 yX1_measure yX1_measure, Cond.code yX1_measure cX1_measure 1 none, Cond.methodLink RX2 103 yX1_increase, Cond.instanceMethod yX1_increase, Cond.selects RX1 yX1_increase yX1_increase, Cond.code yX1_increase cX1_increase 7 none, Cond.constantLong RX1 26 (2147483647)]
def wsX2_wouldBeTooGreat : List Cond := .code yX2_wouldBeTooGreat cX2_wouldBeTooGreat 2 (some .boolean) :: ((wsX2_wouldBeTooGreat_r1 ++ wsX2_wouldBeTooGreat_r2) ++ wsX20 ++ wsX10 ++ wsX00)
def wsX2_totalBlock : List Cond := .code yX2_totalBlock cX2_totalBlock 1 (some .int) :: ([.fieldLink RX2 13 "BigLedger" "accounts" "I"] ++ wsX20)
def wsJ6_bitCount_0f7a4 : List Cond := .code yJ6_bitCount_0f7a4 cJ6_bitCount_0f7a4 1 (some .int) :: ([.constant RJ6 265 (1431655765), .constant RJ6 266 (858993459), .constant RJ6 267 (252645135)])
def wsX2_hasRoomFor : List Cond := .code yX2_hasRoomFor cX2_hasRoomFor 3 (some .boolean) :: ([.fieldLink RX2 126 "BigLedger" "touched" "I", .fieldLink RX2 20 "BigLedger" "room" "I", .methodLink RX2 165 yJ6_bitCount_0f7a4, .static yJ6_bitCount_0f7a4, .initialized RJ6, .code yJ6_bitCount_0f7a4 cJ6_bitCount_0f7a4 1 (some .int), .constant RJ6 265 (1431655765), .constant RJ6 266 (858993459), .constant RJ6 267 (252645135)] ++ wsX20)
def wsX2_touch : List Cond := .code yX2_touch cX2_touch 2 (some (.object "BigLedger$Natural")) :: ([.fieldLink RX2 126 "BigLedger" "touched" "I", .fieldLink RX2 36 "BigLedger" "pending" "[LBigLedger$Natural;", .fieldLink RX2 28 "BigLedger" "disk" "LBigLedger$Disk;", .methodLink RX2 170 yX2_has, .static yX2_has, .initialized RX2, .code yX2_has cX2_has 2 (some .boolean), .methodLink RX2 116 yX1_setTo, .instanceMethod yX1_setTo, .selects RX1 yX1_setTo yX1_setTo, .initialized RX1, .code yX1_setTo cX1_setTo 3 none, .fieldLink RX1 9 "BigLedger$Natural" "limbs" "[I", .methodLink RX1 19 yX1_limbAt, .instanceMethod yX1_limbAt, .selects RX1 yX1_limbAt yX1_limbAt, .code yX1_limbAt cX1_limbAt 2 (some .int), .fieldLink RX1 15 "BigLedger$Natural" "size" "I", .methodLink RX1 23 yX1_measure, .instanceMethod yX1_measure, .selects RX1 yX1_measure yX1_measure, .code yX1_measure cX1_measure 1 none] ++ wsX20 ++ wsX00 ++ wsX10)
def wsX2_deposit_r1 : List Cond := [Cond.fieldLink RX2 71 "BigLedger" "up" "Z", Cond.fieldLink RX2 45 "BigLedger" "amount" "LBigLedger$Natural;", Cond.methodLink RX2 84 yX2_isAccount, Cond.instanceMethod yX2_isAccount, Cond.selects RX2 yX2_isAccount yX2_isAccount, Cond.initialized RX2, Cond.code yX2_isAccount cX2_isAccount 2 (some .boolean), Cond.fieldLink RX2 13 "BigLedger" "accounts" "I", Cond.methodLink RX2 88 yX2_wouldBeTooGreat, Cond.instanceMethod yX2_wouldBeTooGreat, Cond.selects RX2 yX2_wouldBeTooGreat yX2_wouldBeTooGreat, Cond.code yX2_wouldBeTooGreat cX2_wouldBeTooGreat 2 (some .boolean), Cond.fieldLink RX2 49 "BigLedger" "scratch" "LBigLedger$Natural;", Cond.fieldLink RX2 17 "BigLedger" "limbs" "I", Cond.methodLink RX2 113 yX2_seen, Cond.instanceMethod yX2_seen, Cond.selects RX2 yX2_seen yX2_seen, Cond.code yX2_seen cX2_seen 2 (some (.object "BigLedger$Natural")), Cond.fieldLink RX2 126 "BigLedger" "touched" "I", Cond.fieldLink RX2 36 "BigLedger" "pending" "[LBigLedger$Natural;", Cond.fieldLink RX2 28 "BigLedger" "disk" "LBigLedger$Disk;", Cond.methodLink RX2 170 yX2_has, Cond.static yX2_has, Cond.code yX2_has cX2_has 2 (some .boolean)]
def wsX2_deposit_r2 : List Cond := [Cond.methodLink RX2 116 yX1_setTo, Cond.instanceMethod yX1_setTo, Cond.selects RX1 yX1_setTo yX1_setTo, Cond.initialized RX1, Cond.code yX1_setTo cX1_setTo 3 none, Cond.fieldLink RX1 9 "BigLedger$Natural" "limbs" "[I", Cond.methodLink RX1 19 yX1_limbAt, Cond.instanceMethod yX1_limbAt, Cond.selects RX1 yX1_limbAt yX1_limbAt, Cond.code yX1_limbAt cX1_limbAt 2 (some .int), Cond.fieldLink RX1 15 "BigLedger$Natural" "size" "I", Cond.methodLink RX1 23 yX1_measure, Cond.instanceMethod yX1_measure, Cond.selects RX1 yX1_measure yX1_measure, Cond.code yX1_measure cX1_measure 1 none, Cond.methodLink RX2 103 yX1_increase, Cond.instanceMethod yX1_increase, Cond.selects RX1 yX1_increase yX1_increase, Cond.code yX1_increase cX1_increase 7 none, Cond.constantLong RX1 26 (2147483647), Cond.methodLink RX2 91 yX2_totalBlock, Cond.instanceMethod yX2_totalBlock, Cond.selects RX2 yX2_totalBlock yX2_totalBlock, Cond.code yX2_totalBlock cX2_totalBlock 1 (some .int)]
def wsX2_deposit_r3 : List Cond := [Cond.methodLink RX2 95 yX2_hasRoomFor, Cond.instanceMethod yX2_hasRoomFor, Cond.selects RX2 yX2_hasRoomFor yX2_hasRoomFor, Cond.code yX2_hasRoomFor cX2_hasRoomFor 3 (some .boolean), Cond.fieldLink RX2 20 "BigLedger" "room" "I", Cond.methodLink RX2 165 yJ6_bitCount_0f7a4, Cond.static yJ6_bitCount_0f7a4, Cond.initialized RJ6, Cond.code yJ6_bitCount_0f7a4 cJ6_bitCount_0f7a4 1 (some .int), Cond.constant RJ6 265 (1431655765), Cond.constant RJ6 266 (858993459), Cond.constant RJ6 267 (252645135), Cond.methodLink RX2 99 yX2_touch, Cond.instanceMethod yX2_touch, Cond.selects RX2 yX2_touch yX2_touch, Cond.code yX2_touch cX2_touch 2 (some (.object "BigLedger$Natural"))]
def wsX2_deposit : List Cond := .code yX2_deposit cX2_deposit 2 (some .int) :: ((wsX2_deposit_r1 ++ (wsX2_deposit_r2 ++ wsX2_deposit_r3)) ++ wsX20 ++ wsX10 ++ wsX00)
def wsX2_isAmountAbove_r1 : List Cond := [Cond.fieldLink RX2 45 "BigLedger" "amount" "LBigLedger$Natural;", Cond.methodLink RX2 113 yX2_seen, Cond.instanceMethod yX2_seen, Cond.selects RX2 yX2_seen yX2_seen, Cond.initialized RX2, Cond.code yX2_seen cX2_seen 2 (some (.object "BigLedger$Natural")), Cond.fieldLink RX2 126 "BigLedger" "touched" "I", Cond.fieldLink RX2 36 "BigLedger" "pending" "[LBigLedger$Natural;", Cond.fieldLink RX2 28 "BigLedger" "disk" "LBigLedger$Disk;", Cond.methodLink RX2 170 yX2_has, Cond.static yX2_has, Cond.code yX2_has cX2_has 2 (some .boolean), Cond.methodLink RX2 139 yX1_standingTo, Cond.instanceMethod yX1_standingTo, Cond.selects RX1 yX1_standingTo yX1_standingTo, Cond.initialized RX1, Cond.code yX1_standingTo cX1_standingTo 4 (some .int), Cond.fieldLink RX1 9 "BigLedger$Natural" "limbs" "[I", Cond.methodLink RX1 19 yX1_limbAt, Cond.instanceMethod yX1_limbAt, Cond.selects RX1 yX1_limbAt yX1_limbAt, Cond.code yX1_limbAt cX1_limbAt 2 (some .int), Cond.fieldLink RX1 15 "BigLedger$Natural" "size" "I", Cond.methodLink RX1 28 yJ6_compare_7cf53]
def wsX2_isAmountAbove_r2 : List Cond := [Cond.static yJ6_compare_7cf53, Cond.initialized RJ6, Cond.code yJ6_compare_7cf53 cJ6_compare_7cf53 2 (some .int)]
def wsX2_isAmountAbove : List Cond := .code yX2_isAmountAbove cX2_isAmountAbove 2 (some .boolean) :: ((wsX2_isAmountAbove_r1 ++ wsX2_isAmountAbove_r2) ++ wsX20 ++ wsX00 ++ wsX10)
def wsX2_withdraw_r1 : List Cond := [Cond.fieldLink RX2 71 "BigLedger" "up" "Z", Cond.fieldLink RX2 45 "BigLedger" "amount" "LBigLedger$Natural;", Cond.methodLink RX2 84 yX2_isAccount, Cond.instanceMethod yX2_isAccount, Cond.selects RX2 yX2_isAccount yX2_isAccount, Cond.initialized RX2, Cond.code yX2_isAccount cX2_isAccount 2 (some .boolean), Cond.fieldLink RX2 13 "BigLedger" "accounts" "I", Cond.methodLink RX2 107 yX2_isAmountAbove, Cond.instanceMethod yX2_isAmountAbove, Cond.selects RX2 yX2_isAmountAbove yX2_isAmountAbove, Cond.code yX2_isAmountAbove cX2_isAmountAbove 2 (some .boolean), Cond.methodLink RX2 113 yX2_seen, Cond.instanceMethod yX2_seen, Cond.selects RX2 yX2_seen yX2_seen, Cond.code yX2_seen cX2_seen 2 (some (.object "BigLedger$Natural")), Cond.fieldLink RX2 126 "BigLedger" "touched" "I", Cond.fieldLink RX2 36 "BigLedger" "pending" "[LBigLedger$Natural;", Cond.fieldLink RX2 28 "BigLedger" "disk" "LBigLedger$Disk;", Cond.methodLink RX2 170 yX2_has, Cond.static yX2_has, Cond.code yX2_has cX2_has 2 (some .boolean), Cond.methodLink RX2 139 yX1_standingTo, Cond.instanceMethod yX1_standingTo]
def wsX2_withdraw_r2 : List Cond := [Cond.selects RX1 yX1_standingTo yX1_standingTo, Cond.initialized RX1, Cond.code yX1_standingTo cX1_standingTo 4 (some .int), Cond.fieldLink RX1 9 "BigLedger$Natural" "limbs" "[I", Cond.methodLink RX1 19 yX1_limbAt, Cond.instanceMethod yX1_limbAt, Cond.selects RX1 yX1_limbAt yX1_limbAt, Cond.code yX1_limbAt cX1_limbAt 2 (some .int), Cond.fieldLink RX1 15 "BigLedger$Natural" "size" "I", Cond.methodLink RX1 28 yJ6_compare_7cf53, Cond.static yJ6_compare_7cf53, Cond.initialized RJ6, Cond.code yJ6_compare_7cf53 cJ6_compare_7cf53 2 (some .int), Cond.methodLink RX2 91 yX2_totalBlock, Cond.instanceMethod yX2_totalBlock, Cond.selects RX2 yX2_totalBlock yX2_totalBlock, Cond.code yX2_totalBlock cX2_totalBlock 1 (some .int), Cond.methodLink RX2 95 yX2_hasRoomFor, Cond.instanceMethod yX2_hasRoomFor, Cond.selects RX2 yX2_hasRoomFor yX2_hasRoomFor, Cond.code yX2_hasRoomFor cX2_hasRoomFor 3 (some .boolean), Cond.fieldLink RX2 20 "BigLedger" "room" "I", Cond.methodLink RX2 165 yJ6_bitCount_0f7a4, Cond.static yJ6_bitCount_0f7a4]
def wsX2_withdraw_r3 : List Cond := [Cond.code yJ6_bitCount_0f7a4 cJ6_bitCount_0f7a4 1 (some .int), Cond.constant RJ6 265 (1431655765), Cond.constant RJ6 266 (858993459), Cond.constant RJ6 267 (252645135), Cond.methodLink RX2 99 yX2_touch, Cond.instanceMethod yX2_touch, Cond.selects RX2 yX2_touch yX2_touch, Cond.code yX2_touch cX2_touch 2 (some (.object "BigLedger$Natural")), Cond.methodLink RX2 116 yX1_setTo, Cond.instanceMethod yX1_setTo, Cond.selects RX1 yX1_setTo yX1_setTo, Cond.code yX1_setTo cX1_setTo 3 none, Cond.methodLink RX1 23 yX1_measure, Cond.instanceMethod yX1_measure, Cond.selects RX1 yX1_measure yX1_measure, Cond.code yX1_measure cX1_measure 1 none, Cond.methodLink RX2 110 yX1_decrease, Cond.instanceMethod yX1_decrease, Cond.selects RX1 yX1_decrease yX1_decrease, Cond.code yX1_decrease cX1_decrease 7 none, Cond.constantLong RX1 26 (2147483647)]
def wsX2_withdraw : List Cond := .code yX2_withdraw cX2_withdraw 2 (some .int) :: ((wsX2_withdraw_r1 ++ (wsX2_withdraw_r2 ++ wsX2_withdraw_r3)) ++ wsX20 ++ wsX00 ++ wsX10)
def wsX2_transfer_r1 : List Cond := [Cond.fieldLink RX2 71 "BigLedger" "up" "Z", Cond.fieldLink RX2 45 "BigLedger" "amount" "LBigLedger$Natural;", Cond.methodLink RX2 84 yX2_isAccount, Cond.instanceMethod yX2_isAccount, Cond.selects RX2 yX2_isAccount yX2_isAccount, Cond.initialized RX2, Cond.code yX2_isAccount cX2_isAccount 2 (some .boolean), Cond.fieldLink RX2 13 "BigLedger" "accounts" "I", Cond.methodLink RX2 107 yX2_isAmountAbove, Cond.instanceMethod yX2_isAmountAbove, Cond.selects RX2 yX2_isAmountAbove yX2_isAmountAbove, Cond.code yX2_isAmountAbove cX2_isAmountAbove 2 (some .boolean), Cond.methodLink RX2 113 yX2_seen, Cond.instanceMethod yX2_seen, Cond.selects RX2 yX2_seen yX2_seen, Cond.code yX2_seen cX2_seen 2 (some (.object "BigLedger$Natural")), Cond.fieldLink RX2 126 "BigLedger" "touched" "I", Cond.fieldLink RX2 36 "BigLedger" "pending" "[LBigLedger$Natural;", Cond.fieldLink RX2 28 "BigLedger" "disk" "LBigLedger$Disk;", Cond.methodLink RX2 170 yX2_has, Cond.static yX2_has, Cond.code yX2_has cX2_has 2 (some .boolean), Cond.methodLink RX2 139 yX1_standingTo, Cond.instanceMethod yX1_standingTo]
def wsX2_transfer_r2 : List Cond := [Cond.selects RX1 yX1_standingTo yX1_standingTo, Cond.initialized RX1, Cond.code yX1_standingTo cX1_standingTo 4 (some .int), Cond.fieldLink RX1 9 "BigLedger$Natural" "limbs" "[I", Cond.methodLink RX1 19 yX1_limbAt, Cond.instanceMethod yX1_limbAt, Cond.selects RX1 yX1_limbAt yX1_limbAt, Cond.code yX1_limbAt cX1_limbAt 2 (some .int), Cond.fieldLink RX1 15 "BigLedger$Natural" "size" "I", Cond.methodLink RX1 28 yJ6_compare_7cf53, Cond.static yJ6_compare_7cf53, Cond.initialized RJ6, Cond.code yJ6_compare_7cf53 cJ6_compare_7cf53 2 (some .int), Cond.methodLink RX2 88 yX2_wouldBeTooGreat, Cond.instanceMethod yX2_wouldBeTooGreat, Cond.selects RX2 yX2_wouldBeTooGreat yX2_wouldBeTooGreat, Cond.code yX2_wouldBeTooGreat cX2_wouldBeTooGreat 2 (some .boolean), Cond.fieldLink RX2 49 "BigLedger" "scratch" "LBigLedger$Natural;", Cond.fieldLink RX2 17 "BigLedger" "limbs" "I", Cond.methodLink RX2 116 yX1_setTo, Cond.instanceMethod yX1_setTo, Cond.selects RX1 yX1_setTo yX1_setTo, Cond.code yX1_setTo cX1_setTo 3 none, Cond.methodLink RX1 23 yX1_measure]
def wsX2_transfer_r3 : List Cond := [Cond.instanceMethod yX1_measure, Cond.selects RX1 yX1_measure yX1_measure, Cond.code yX1_measure cX1_measure 1 none, Cond.methodLink RX2 103 yX1_increase, Cond.instanceMethod yX1_increase, Cond.selects RX1 yX1_increase yX1_increase, Cond.code yX1_increase cX1_increase 7 none, Cond.constantLong RX1 26 (2147483647), Cond.methodLink RX2 95 yX2_hasRoomFor, Cond.instanceMethod yX2_hasRoomFor, Cond.selects RX2 yX2_hasRoomFor yX2_hasRoomFor, Cond.code yX2_hasRoomFor cX2_hasRoomFor 3 (some .boolean), Cond.fieldLink RX2 20 "BigLedger" "room" "I", Cond.methodLink RX2 165 yJ6_bitCount_0f7a4, Cond.static yJ6_bitCount_0f7a4, Cond.code yJ6_bitCount_0f7a4 cJ6_bitCount_0f7a4 1 (some .int), Cond.constant RJ6 265 (1431655765), Cond.constant RJ6 266 (858993459), Cond.constant RJ6 267 (252645135), Cond.methodLink RX2 99 yX2_touch, Cond.instanceMethod yX2_touch, Cond.selects RX2 yX2_touch yX2_touch, Cond.code yX2_touch cX2_touch 2 (some (.object "BigLedger$Natural")), Cond.methodLink RX2 110 yX1_decrease]
def wsX2_transfer_r4 : List Cond := [Cond.instanceMethod yX1_decrease, Cond.selects RX1 yX1_decrease yX1_decrease, Cond.code yX1_decrease cX1_decrease 7 none]
def wsX2_transfer : List Cond := .code yX2_transfer cX2_transfer 3 (some .int) :: ((wsX2_transfer_r1 ++ (wsX2_transfer_r2 ++ (wsX2_transfer_r3 ++ wsX2_transfer_r4))) ++ wsX20 ++ wsX00 ++ wsX10)
def wsX2_part_r1 : List Cond := [Cond.fieldLink RX2 71 "BigLedger" "up" "Z", Cond.fieldLink RX2 45 "BigLedger" "amount" "LBigLedger$Natural;", Cond.methodLink RX2 84 yX2_isAccount, Cond.instanceMethod yX2_isAccount, Cond.selects RX2 yX2_isAccount yX2_isAccount, Cond.initialized RX2, Cond.code yX2_isAccount cX2_isAccount 2 (some .boolean), Cond.fieldLink RX2 13 "BigLedger" "accounts" "I", Cond.methodLink RX2 113 yX2_seen, Cond.instanceMethod yX2_seen, Cond.selects RX2 yX2_seen yX2_seen, Cond.code yX2_seen cX2_seen 2 (some (.object "BigLedger$Natural")), Cond.fieldLink RX2 126 "BigLedger" "touched" "I", Cond.fieldLink RX2 36 "BigLedger" "pending" "[LBigLedger$Natural;", Cond.fieldLink RX2 28 "BigLedger" "disk" "LBigLedger$Disk;", Cond.methodLink RX2 170 yX2_has, Cond.static yX2_has, Cond.code yX2_has cX2_has 2 (some .boolean), Cond.methodLink RX2 116 yX1_setTo, Cond.instanceMethod yX1_setTo, Cond.selects RX1 yX1_setTo yX1_setTo, Cond.initialized RX1, Cond.code yX1_setTo cX1_setTo 3 none, Cond.fieldLink RX1 9 "BigLedger$Natural" "limbs" "[I"]
def wsX2_part_r2 : List Cond := [Cond.methodLink RX1 19 yX1_limbAt, Cond.instanceMethod yX1_limbAt, Cond.selects RX1 yX1_limbAt yX1_limbAt, Cond.code yX1_limbAt cX1_limbAt 2 (some .int), Cond.fieldLink RX1 15 "BigLedger$Natural" "size" "I", Cond.methodLink RX1 23 yX1_measure, Cond.instanceMethod yX1_measure, Cond.selects RX1 yX1_measure yX1_measure, Cond.code yX1_measure cX1_measure 1 none, Cond.methodLink RX2 119 yX1_multiply, Cond.instanceMethod yX1_multiply, Cond.selects RX1 yX1_multiply yX1_multiply, Cond.code yX1_multiply cX1_multiply 7 none, Cond.constantLong RX1 26 (2147483647), Cond.methodLink RX2 122 yX1_divide, Cond.instanceMethod yX1_divide, Cond.selects RX1 yX1_divide yX1_divide, Cond.code yX1_divide cX1_divide 7 (some .int)]
def wsX2_part : List Cond := .code yX2_part cX2_part 4 (some .int) :: ((wsX2_part_r1 ++ wsX2_part_r2) ++ wsX20 ++ wsX00 ++ wsX10)
def wsX2_commit_r1 : List Cond := [Cond.fieldLink RX2 71 "BigLedger" "up" "Z", Cond.fieldLink RX2 28 "BigLedger" "disk" "LBigLedger$Disk;", Cond.fieldLink RX2 126 "BigLedger" "touched" "I", Cond.fieldLink RX2 36 "BigLedger" "pending" "[LBigLedger$Natural;", Cond.methodLink RX2 129 yX0_bringThroughLog, Cond.instanceMethod yX0_bringThroughLog, Cond.selects RX0 yX0_bringThroughLog yX0_bringThroughLog, Cond.initialized RX0, Cond.code yX0_bringThroughLog cX0_bringThroughLog 3 (some .boolean), Cond.fieldLink RX0 19 "BigLedger$Disk" "log" "[LBigLedger$Natural;", Cond.methodLink RX0 38 yX0_writeBlocks, Cond.instanceMethod yX0_writeBlocks, Cond.selects RX0 yX0_writeBlocks yX0_writeBlocks, Cond.code yX0_writeBlocks cX0_writeBlocks 5 (some .boolean), Cond.static yX2_has, Cond.initialized RX2, Cond.code yX2_has cX2_has 2 (some .boolean), Cond.methodLink RX0 51 yX0_passStop, Cond.instanceMethod yX0_passStop, Cond.selects RX0 yX0_passStop yX0_passStop, Cond.code yX0_passStop cX0_passStop 1 (some .boolean), Cond.fieldLink RX0 22 "BigLedger$Disk" "writesUntilStop" "I", Cond.fieldLink RX0 48 "BigLedger$Disk" "writesDone" "I", Cond.methodLink RX0 62 yX1_setTo]
def wsX2_commit_r2 : List Cond := [Cond.instanceMethod yX1_setTo, Cond.selects RX1 yX1_setTo yX1_setTo, Cond.initialized RX1, Cond.code yX1_setTo cX1_setTo 3 none, Cond.fieldLink RX1 9 "BigLedger$Natural" "limbs" "[I", Cond.methodLink RX1 19 yX1_limbAt, Cond.instanceMethod yX1_limbAt, Cond.selects RX1 yX1_limbAt yX1_limbAt, Cond.code yX1_limbAt cX1_limbAt 2 (some .int), Cond.fieldLink RX1 15 "BigLedger$Natural" "size" "I", Cond.methodLink RX1 23 yX1_measure, Cond.instanceMethod yX1_measure, Cond.selects RX1 yX1_measure yX1_measure, Cond.code yX1_measure cX1_measure 1 none, Cond.methodLink RX0 30 yX0_writeLogState, Cond.instanceMethod yX0_writeLogState, Cond.selects RX0 yX0_writeLogState yX0_writeLogState, Cond.code yX0_writeLogState cX0_writeLogState 2 (some .boolean), Cond.fieldLink RX0 45 "BigLedger$Disk" "committed" "I", Cond.methodLink RX0 42 yX0_bringLogHome, Cond.instanceMethod yX0_bringLogHome, Cond.selects RX0 yX0_bringLogHome yX0_bringLogHome, Cond.code yX0_bringLogHome cX0_bringLogHome 1 (some .boolean), Cond.fieldLink RX0 13 "BigLedger$Disk" "home" "[LBigLedger$Natural;"]
def wsX2_commit_r3 : List Cond := [Cond.methodLink RX2 64 yX2_loseMemory, Cond.instanceMethod yX2_loseMemory, Cond.selects RX2 yX2_loseMemory yX2_loseMemory, Cond.code yX2_loseMemory cX2_loseMemory 1 none, Cond.fieldLink RX2 45 "BigLedger" "amount" "LBigLedger$Natural;", Cond.methodLink RX2 133 yX2_dropPending, Cond.instanceMethod yX2_dropPending, Cond.selects RX2 yX2_dropPending yX2_dropPending, Cond.code yX2_dropPending cX2_dropPending 1 none, Cond.methodLink RX2 81 yX1_setZero, Cond.instanceMethod yX1_setZero, Cond.selects RX1 yX1_setZero yX1_setZero, Cond.code yX1_setZero cX1_setZero 2 none]
def wsX2_commit : List Cond := .code yX2_commit cX2_commit 1 (some .int) :: ((wsX2_commit_r1 ++ (wsX2_commit_r2 ++ wsX2_commit_r3)) ++ wsX20 ++ wsX00 ++ wsX10)
def wsX2_abort : List Cond := .code yX2_abort cX2_abort 1 (some .boolean) :: ([.fieldLink RX2 71 "BigLedger" "up" "Z", .methodLink RX2 133 yX2_dropPending, .instanceMethod yX2_dropPending, .selects RX2 yX2_dropPending yX2_dropPending, .initialized RX2, .code yX2_dropPending cX2_dropPending 1 none, .fieldLink RX2 126 "BigLedger" "touched" "I"] ++ wsX20)
def wsX2_balanceSize : List Cond := .code yX2_balanceSize cX2_balanceSize 2 (some .int) :: ([.fieldLink RX2 71 "BigLedger" "up" "Z", .methodLink RX2 84 yX2_isAccount, .instanceMethod yX2_isAccount, .selects RX2 yX2_isAccount yX2_isAccount, .initialized RX2, .code yX2_isAccount cX2_isAccount 2 (some .boolean), .fieldLink RX2 13 "BigLedger" "accounts" "I", .methodLink RX2 113 yX2_seen, .instanceMethod yX2_seen, .selects RX2 yX2_seen yX2_seen, .code yX2_seen cX2_seen 2 (some (.object "BigLedger$Natural")), .fieldLink RX2 126 "BigLedger" "touched" "I", .fieldLink RX2 36 "BigLedger" "pending" "[LBigLedger$Natural;", .fieldLink RX2 28 "BigLedger" "disk" "LBigLedger$Disk;", .methodLink RX2 170 yX2_has, .static yX2_has, .code yX2_has cX2_has 2 (some .boolean)] ++ wsX20 ++ wsX10 ++ wsX00)
def wsX2_balanceLimb : List Cond := .code yX2_balanceLimb cX2_balanceLimb 3 (some .int) :: ([.fieldLink RX2 71 "BigLedger" "up" "Z", .methodLink RX2 84 yX2_isAccount, .instanceMethod yX2_isAccount, .selects RX2 yX2_isAccount yX2_isAccount, .initialized RX2, .code yX2_isAccount cX2_isAccount 2 (some .boolean), .fieldLink RX2 13 "BigLedger" "accounts" "I", .methodLink RX2 113 yX2_seen, .instanceMethod yX2_seen, .selects RX2 yX2_seen yX2_seen, .code yX2_seen cX2_seen 2 (some (.object "BigLedger$Natural")), .fieldLink RX2 126 "BigLedger" "touched" "I", .fieldLink RX2 36 "BigLedger" "pending" "[LBigLedger$Natural;", .fieldLink RX2 28 "BigLedger" "disk" "LBigLedger$Disk;", .methodLink RX2 170 yX2_has, .static yX2_has, .code yX2_has cX2_has 2 (some .boolean), .methodLink RX2 136 yX1_limbAt, .instanceMethod yX1_limbAt, .selects RX1 yX1_limbAt yX1_limbAt, .initialized RX1, .code yX1_limbAt cX1_limbAt 2 (some .int), .fieldLink RX1 15 "BigLedger$Natural" "size" "I", .fieldLink RX1 9 "BigLedger$Natural" "limbs" "[I"] ++ wsX20 ++ wsX00 ++ wsX10)
def wsX2_totalLimb : List Cond := .code yX2_totalLimb cX2_totalLimb 2 (some .int) :: ([.fieldLink RX2 71 "BigLedger" "up" "Z", .methodLink RX2 91 yX2_totalBlock, .instanceMethod yX2_totalBlock, .selects RX2 yX2_totalBlock yX2_totalBlock, .initialized RX2, .code yX2_totalBlock cX2_totalBlock 1 (some .int), .fieldLink RX2 13 "BigLedger" "accounts" "I", .methodLink RX2 113 yX2_seen, .instanceMethod yX2_seen, .selects RX2 yX2_seen yX2_seen, .code yX2_seen cX2_seen 2 (some (.object "BigLedger$Natural")), .fieldLink RX2 126 "BigLedger" "touched" "I", .fieldLink RX2 36 "BigLedger" "pending" "[LBigLedger$Natural;", .fieldLink RX2 28 "BigLedger" "disk" "LBigLedger$Disk;", .methodLink RX2 170 yX2_has, .static yX2_has, .code yX2_has cX2_has 2 (some .boolean), .methodLink RX2 136 yX1_limbAt, .instanceMethod yX1_limbAt, .selects RX1 yX1_limbAt yX1_limbAt, .initialized RX1, .code yX1_limbAt cX1_limbAt 2 (some .int), .fieldLink RX1 15 "BigLedger$Natural" "size" "I", .fieldLink RX1 9 "BigLedger$Natural" "limbs" "[I"] ++ wsX20 ++ wsX00 ++ wsX10)
def wsX2_amount : List Cond := .code yX2_amount cX2_amount 2 (some .int) :: ([.fieldLink RX2 71 "BigLedger" "up" "Z", .fieldLink RX2 45 "BigLedger" "amount" "LBigLedger$Natural;", .methodLink RX2 136 yX1_limbAt, .instanceMethod yX1_limbAt, .selects RX1 yX1_limbAt yX1_limbAt, .initialized RX1, .code yX1_limbAt cX1_limbAt 2 (some .int), .fieldLink RX1 15 "BigLedger$Natural" "size" "I", .fieldLink RX1 9 "BigLedger$Natural" "limbs" "[I"] ++ wsX20 ++ wsX10)
def wsX2_compare_r1 : List Cond := [Cond.fieldLink RX2 71 "BigLedger" "up" "Z", Cond.methodLink RX2 84 yX2_isAccount, Cond.instanceMethod yX2_isAccount, Cond.selects RX2 yX2_isAccount yX2_isAccount, Cond.initialized RX2, Cond.code yX2_isAccount cX2_isAccount 2 (some .boolean), Cond.fieldLink RX2 13 "BigLedger" "accounts" "I", Cond.methodLink RX2 113 yX2_seen, Cond.instanceMethod yX2_seen, Cond.selects RX2 yX2_seen yX2_seen, Cond.code yX2_seen cX2_seen 2 (some (.object "BigLedger$Natural")), Cond.fieldLink RX2 126 "BigLedger" "touched" "I", Cond.fieldLink RX2 36 "BigLedger" "pending" "[LBigLedger$Natural;", Cond.fieldLink RX2 28 "BigLedger" "disk" "LBigLedger$Disk;", Cond.methodLink RX2 170 yX2_has, Cond.static yX2_has, Cond.code yX2_has cX2_has 2 (some .boolean), Cond.methodLink RX2 139 yX1_standingTo, Cond.instanceMethod yX1_standingTo, Cond.selects RX1 yX1_standingTo yX1_standingTo, Cond.initialized RX1, Cond.code yX1_standingTo cX1_standingTo 4 (some .int), Cond.fieldLink RX1 9 "BigLedger$Natural" "limbs" "[I", Cond.methodLink RX1 19 yX1_limbAt]
def wsX2_compare_r2 : List Cond := [Cond.instanceMethod yX1_limbAt, Cond.selects RX1 yX1_limbAt yX1_limbAt, Cond.code yX1_limbAt cX1_limbAt 2 (some .int), Cond.fieldLink RX1 15 "BigLedger$Natural" "size" "I", Cond.methodLink RX1 28 yJ6_compare_7cf53, Cond.static yJ6_compare_7cf53, Cond.initialized RJ6, Cond.code yJ6_compare_7cf53 cJ6_compare_7cf53 2 (some .int)]
def wsX2_compare : List Cond := .code yX2_compare cX2_compare 3 (some .int) :: ((wsX2_compare_r1 ++ wsX2_compare_r2) ++ wsX20 ++ wsX00 ++ wsX10)
def wsX2_stopAfter : List Cond := .code yX2_stopAfter cX2_stopAfter 2 none :: ([.fieldLink RX2 28 "BigLedger" "disk" "LBigLedger$Disk;"] ++ wsX20 ++ wsX00)
def wsX2_recover_r1 : List Cond := [Cond.fieldLink RX2 28 "BigLedger" "disk" "LBigLedger$Disk;", Cond.fieldLink RX2 71 "BigLedger" "up" "Z", Cond.methodLink RX2 64 yX2_loseMemory, Cond.instanceMethod yX2_loseMemory, Cond.selects RX2 yX2_loseMemory yX2_loseMemory, Cond.initialized RX2, Cond.code yX2_loseMemory cX2_loseMemory 1 none, Cond.fieldLink RX2 45 "BigLedger" "amount" "LBigLedger$Natural;", Cond.methodLink RX2 133 yX2_dropPending, Cond.instanceMethod yX2_dropPending, Cond.selects RX2 yX2_dropPending yX2_dropPending, Cond.code yX2_dropPending cX2_dropPending 1 none, Cond.fieldLink RX2 126 "BigLedger" "touched" "I", Cond.methodLink RX2 81 yX1_setZero, Cond.instanceMethod yX1_setZero, Cond.selects RX1 yX1_setZero yX1_setZero, Cond.initialized RX1, Cond.code yX1_setZero cX1_setZero 2 none, Cond.fieldLink RX1 9 "BigLedger$Natural" "limbs" "[I", Cond.fieldLink RX1 15 "BigLedger$Natural" "size" "I", Cond.methodLink RX2 149 yX0_bringLogHome, Cond.instanceMethod yX0_bringLogHome, Cond.selects RX0 yX0_bringLogHome yX0_bringLogHome, Cond.initialized RX0]
def wsX2_recover_r2 : List Cond := [Cond.code yX0_bringLogHome cX0_bringLogHome 1 (some .boolean), Cond.fieldLink RX0 45 "BigLedger$Disk" "committed" "I", Cond.fieldLink RX0 13 "BigLedger$Disk" "home" "[LBigLedger$Natural;", Cond.fieldLink RX0 19 "BigLedger$Disk" "log" "[LBigLedger$Natural;", Cond.methodLink RX0 38 yX0_writeBlocks, Cond.instanceMethod yX0_writeBlocks, Cond.selects RX0 yX0_writeBlocks yX0_writeBlocks, Cond.code yX0_writeBlocks cX0_writeBlocks 5 (some .boolean), Cond.static yX2_has, Cond.code yX2_has cX2_has 2 (some .boolean), Cond.methodLink RX0 51 yX0_passStop, Cond.instanceMethod yX0_passStop, Cond.selects RX0 yX0_passStop yX0_passStop, Cond.code yX0_passStop cX0_passStop 1 (some .boolean), Cond.fieldLink RX0 22 "BigLedger$Disk" "writesUntilStop" "I", Cond.fieldLink RX0 48 "BigLedger$Disk" "writesDone" "I", Cond.methodLink RX0 62 yX1_setTo, Cond.instanceMethod yX1_setTo, Cond.selects RX1 yX1_setTo yX1_setTo, Cond.code yX1_setTo cX1_setTo 3 none, Cond.methodLink RX1 19 yX1_limbAt, Cond.instanceMethod yX1_limbAt, Cond.selects RX1 yX1_limbAt yX1_limbAt, Cond.code yX1_limbAt cX1_limbAt 2 (some .int)]
def wsX2_recover_r3 : List Cond := [Cond.methodLink RX1 23 yX1_measure, Cond.instanceMethod yX1_measure, Cond.selects RX1 yX1_measure yX1_measure, Cond.code yX1_measure cX1_measure 1 none, Cond.methodLink RX0 30 yX0_writeLogState, Cond.instanceMethod yX0_writeLogState, Cond.selects RX0 yX0_writeLogState yX0_writeLogState, Cond.code yX0_writeLogState cX0_writeLogState 2 (some .boolean)]
def wsX2_recover : List Cond := .code yX2_recover cX2_recover 1 (some .boolean) :: ((wsX2_recover_r1 ++ (wsX2_recover_r2 ++ wsX2_recover_r3)) ++ wsX20 ++ wsX00 ++ wsX10)
def wsX2_write_r1 : List Cond := [Cond.fieldLink RX2 71 "BigLedger" "up" "Z", Cond.fieldLink RX2 49 "BigLedger" "scratch" "LBigLedger$Natural;", Cond.fieldLink RX2 52 "BigLedger" "outBackwards" "[B", Cond.fieldLink RX2 152 "BigLedger" "outLength" "I", Cond.methodLink RX2 84 yX2_isAccount, Cond.instanceMethod yX2_isAccount, Cond.selects RX2 yX2_isAccount yX2_isAccount, Cond.initialized RX2, Cond.code yX2_isAccount cX2_isAccount 2 (some .boolean), Cond.fieldLink RX2 13 "BigLedger" "accounts" "I", Cond.methodLink RX2 113 yX2_seen, Cond.instanceMethod yX2_seen, Cond.selects RX2 yX2_seen yX2_seen, Cond.code yX2_seen cX2_seen 2 (some (.object "BigLedger$Natural")), Cond.fieldLink RX2 126 "BigLedger" "touched" "I", Cond.fieldLink RX2 36 "BigLedger" "pending" "[LBigLedger$Natural;", Cond.fieldLink RX2 28 "BigLedger" "disk" "LBigLedger$Disk;", Cond.methodLink RX2 170 yX2_has, Cond.static yX2_has, Cond.code yX2_has cX2_has 2 (some .boolean), Cond.methodLink RX2 116 yX1_setTo, Cond.instanceMethod yX1_setTo, Cond.selects RX1 yX1_setTo yX1_setTo, Cond.initialized RX1]
def wsX2_write_r2 : List Cond := [Cond.code yX1_setTo cX1_setTo 3 none, Cond.fieldLink RX1 9 "BigLedger$Natural" "limbs" "[I", Cond.methodLink RX1 19 yX1_limbAt, Cond.instanceMethod yX1_limbAt, Cond.selects RX1 yX1_limbAt yX1_limbAt, Cond.code yX1_limbAt cX1_limbAt 2 (some .int), Cond.fieldLink RX1 15 "BigLedger$Natural" "size" "I", Cond.methodLink RX1 23 yX1_measure, Cond.instanceMethod yX1_measure, Cond.selects RX1 yX1_measure yX1_measure, Cond.code yX1_measure cX1_measure 1 none, Cond.methodLink RX2 122 yX1_divide, Cond.instanceMethod yX1_divide, Cond.selects RX1 yX1_divide yX1_divide, Cond.code yX1_divide cX1_divide 7 (some .int)]
def wsX2_write : List Cond := .code yX2_write cX2_write 3 (some .int) :: ((wsX2_write_r1 ++ wsX2_write_r2) ++ wsX20 ++ wsX10 ++ wsX00)
def wsX2_count_r1 : List Cond := [Cond.fieldLink RX2 13 "BigLedger" "accounts" "I", Cond.fieldLink RX2 17 "BigLedger" "limbs" "I", Cond.fieldLink RX2 20 "BigLedger" "room" "I", Cond.fieldLink RX2 28 "BigLedger" "disk" "LBigLedger$Disk;", Cond.fieldLink RX2 71 "BigLedger" "up" "Z", Cond.fieldLink RX2 126 "BigLedger" "touched" "I", Cond.fieldLink RX2 45 "BigLedger" "amount" "LBigLedger$Natural;", Cond.methodLink RX2 165 yJ6_bitCount_0f7a4, Cond.static yJ6_bitCount_0f7a4, Cond.initialized RJ6, Cond.code yJ6_bitCount_0f7a4 cJ6_bitCount_0f7a4 1 (some .int), Cond.constant RJ6 265 (1431655765), Cond.constant RJ6 266 (858993459), Cond.constant RJ6 267 (252645135), Cond.methodLink RX2 91 yX2_totalBlock, Cond.instanceMethod yX2_totalBlock, Cond.selects RX2 yX2_totalBlock yX2_totalBlock, Cond.initialized RX2, Cond.code yX2_totalBlock cX2_totalBlock 1 (some .int), Cond.methodLink RX2 113 yX2_seen, Cond.instanceMethod yX2_seen, Cond.selects RX2 yX2_seen yX2_seen, Cond.code yX2_seen cX2_seen 2 (some (.object "BigLedger$Natural")), Cond.fieldLink RX2 36 "BigLedger" "pending" "[LBigLedger$Natural;"]
def wsX2_count_r2 : List Cond := [Cond.methodLink RX2 170 yX2_has, Cond.static yX2_has, Cond.code yX2_has cX2_has 2 (some .boolean)]
def wsX2_count : List Cond := .code yX2_count cX2_count 2 (some .int) :: ((wsX2_count_r1 ++ wsX2_count_r2) ++ wsX20 ++ wsX00 ++ wsX10)
def wsX3_thrown : List Cond := .code yX3_thrown cX3_thrown 1 (some .int) :: ([.fieldLink RX3 1 "BigLedgerModel" "thrown" "I"] ++ wsX30)
def wsX3_init : List Cond := .code yX3_init cX3_init 4 none :: ([.methodLink RX3 7 objectInit, .instanceMethod objectInit, .code objectInit ⟨#[0xb1]⟩ 1 none, .arrayClass .int, .fieldLink RX3 13 "BigLedgerModel" "now" "[I", .fieldLink RX3 17 "BigLedgerModel" "home" "[I", .fieldLink RX3 20 "BigLedgerModel" "log" "[I", .fieldLink RX3 23 "BigLedgerModel" "amount" "[I", .fieldLink RX3 26 "BigLedgerModel" "work" "[I", .arrayClass .boolean, .fieldLink RX3 29 "BigLedgerModel" "touched" "[Z", .fieldLink RX3 33 "BigLedgerModel" "logged" "[Z", .fieldLink RX3 36 "BigLedgerModel" "left" "I", .arrayClass .byte, .fieldLink RX3 39 "BigLedgerModel" "out" "[B", .fieldLink RX3 43 "BigLedgerModel" "accounts" "I", .fieldLink RX3 46 "BigLedgerModel" "limbs" "I", .fieldLink RX3 49 "BigLedgerModel" "room" "I"] ++ wsX30)
def wsX3_forget : List Cond := .code yX3_forget cX3_forget 2 none :: ([.fieldLink RX3 23 "BigLedgerModel" "amount" "[I", .fieldLink RX3 29 "BigLedgerModel" "touched" "[Z", .fieldLink RX3 13 "BigLedgerModel" "now" "[I", .fieldLink RX3 17 "BigLedgerModel" "home" "[I"] ++ wsX30)
def wsX3_down : List Cond := .code yX3_down cX3_down 1 none :: ([.fieldLink RX3 52 "BigLedgerModel" "up" "Z", .methodLink RX3 56 yX3_forget, .instanceMethod yX3_forget, .selects RX3 yX3_forget yX3_forget, .initialized RX3, .code yX3_forget cX3_forget 2 none, .fieldLink RX3 23 "BigLedgerModel" "amount" "[I", .fieldLink RX3 29 "BigLedgerModel" "touched" "[Z", .fieldLink RX3 13 "BigLedgerModel" "now" "[I", .fieldLink RX3 17 "BigLedgerModel" "home" "[I"] ++ wsX30)
def wsX3_writes : List Cond := .code yX3_writes cX3_writes 1 (some .boolean) :: ([.fieldLink RX3 36 "BigLedgerModel" "left" "I", .fieldLink RX3 62 "BigLedgerModel" "writes" "I", .methodLink RX3 59 yX3_down, .instanceMethod yX3_down, .selects RX3 yX3_down yX3_down, .initialized RX3, .code yX3_down cX3_down 1 none, .fieldLink RX3 52 "BigLedgerModel" "up" "Z", .methodLink RX3 56 yX3_forget, .instanceMethod yX3_forget, .selects RX3 yX3_forget yX3_forget, .code yX3_forget cX3_forget 2 none, .fieldLink RX3 23 "BigLedgerModel" "amount" "[I", .fieldLink RX3 29 "BigLedgerModel" "touched" "[Z", .fieldLink RX3 13 "BigLedgerModel" "now" "[I", .fieldLink RX3 17 "BigLedgerModel" "home" "[I"] ++ wsX30)
def wsX3_emptyLog : List Cond := .code yX3_emptyLog cX3_emptyLog 1 (some .boolean) :: ([.fieldLink RX3 68 "BigLedgerModel" "committed" "Z", .methodLink RX3 65 yX3_writes, .instanceMethod yX3_writes, .selects RX3 yX3_writes yX3_writes, .initialized RX3, .code yX3_writes cX3_writes 1 (some .boolean), .fieldLink RX3 36 "BigLedgerModel" "left" "I", .fieldLink RX3 62 "BigLedgerModel" "writes" "I", .methodLink RX3 59 yX3_down, .instanceMethod yX3_down, .selects RX3 yX3_down yX3_down, .code yX3_down cX3_down 1 none, .fieldLink RX3 52 "BigLedgerModel" "up" "Z", .methodLink RX3 56 yX3_forget, .instanceMethod yX3_forget, .selects RX3 yX3_forget yX3_forget, .code yX3_forget cX3_forget 2 none, .fieldLink RX3 23 "BigLedgerModel" "amount" "[I", .fieldLink RX3 29 "BigLedgerModel" "touched" "[Z", .fieldLink RX3 13 "BigLedgerModel" "now" "[I", .fieldLink RX3 17 "BigLedgerModel" "home" "[I"] ++ wsX30)
def wsX3_goHome_r1 : List Cond := [Cond.fieldLink RX3 33 "BigLedgerModel" "logged" "[Z", Cond.fieldLink RX3 17 "BigLedgerModel" "home" "[I", Cond.fieldLink RX3 20 "BigLedgerModel" "log" "[I", Cond.methodLink RX3 65 yX3_writes, Cond.instanceMethod yX3_writes, Cond.selects RX3 yX3_writes yX3_writes, Cond.initialized RX3, Cond.code yX3_writes cX3_writes 1 (some .boolean), Cond.fieldLink RX3 36 "BigLedgerModel" "left" "I", Cond.fieldLink RX3 62 "BigLedgerModel" "writes" "I", Cond.methodLink RX3 59 yX3_down, Cond.instanceMethod yX3_down, Cond.selects RX3 yX3_down yX3_down, Cond.code yX3_down cX3_down 1 none, Cond.fieldLink RX3 52 "BigLedgerModel" "up" "Z", Cond.methodLink RX3 56 yX3_forget, Cond.instanceMethod yX3_forget, Cond.selects RX3 yX3_forget yX3_forget, Cond.code yX3_forget cX3_forget 2 none, Cond.fieldLink RX3 23 "BigLedgerModel" "amount" "[I", Cond.fieldLink RX3 29 "BigLedgerModel" "touched" "[Z", Cond.fieldLink RX3 13 "BigLedgerModel" "now" "[I", Cond.methodLink RX3 71 yX3_emptyLog, Cond.instanceMethod yX3_emptyLog]
def wsX3_goHome_r2 : List Cond := [Cond.selects RX3 yX3_emptyLog yX3_emptyLog, Cond.code yX3_emptyLog cX3_emptyLog 1 (some .boolean), Cond.fieldLink RX3 68 "BigLedgerModel" "committed" "Z"]
def wsX3_goHome : List Cond := .code yX3_goHome cX3_goHome 3 (some .boolean) :: ((wsX3_goHome_r1 ++ wsX3_goHome_r2) ++ wsX30)
def wsX3_format_r1 : List Cond := [Cond.fieldLink RX3 1 "BigLedgerModel" "thrown" "I", Cond.fieldLink RX3 74 "BigLedgerModel" "formatted" "Z", Cond.fieldLink RX3 43 "BigLedgerModel" "accounts" "I", Cond.fieldLink RX3 17 "BigLedgerModel" "home" "[I", Cond.fieldLink RX3 52 "BigLedgerModel" "up" "Z", Cond.methodLink RX3 65 yX3_writes, Cond.instanceMethod yX3_writes, Cond.selects RX3 yX3_writes yX3_writes, Cond.initialized RX3, Cond.code yX3_writes cX3_writes 1 (some .boolean), Cond.fieldLink RX3 36 "BigLedgerModel" "left" "I", Cond.fieldLink RX3 62 "BigLedgerModel" "writes" "I", Cond.methodLink RX3 59 yX3_down, Cond.instanceMethod yX3_down, Cond.selects RX3 yX3_down yX3_down, Cond.code yX3_down cX3_down 1 none, Cond.methodLink RX3 56 yX3_forget, Cond.instanceMethod yX3_forget, Cond.selects RX3 yX3_forget yX3_forget, Cond.code yX3_forget cX3_forget 2 none, Cond.fieldLink RX3 23 "BigLedgerModel" "amount" "[I", Cond.fieldLink RX3 29 "BigLedgerModel" "touched" "[Z", Cond.fieldLink RX3 13 "BigLedgerModel" "now" "[I", Cond.methodLink RX3 71 yX3_emptyLog]
def wsX3_format_r2 : List Cond := [Cond.instanceMethod yX3_emptyLog, Cond.selects RX3 yX3_emptyLog yX3_emptyLog, Cond.code yX3_emptyLog cX3_emptyLog 1 (some .boolean), Cond.fieldLink RX3 68 "BigLedgerModel" "committed" "Z"]
def wsX3_format : List Cond := .code yX3_format cX3_format 3 (some .boolean) :: ((wsX3_format_r1 ++ wsX3_format_r2) ++ wsX30)
def wsX3_touches : List Cond := .code yX3_touches cX3_touches 3 (some .int) :: ([.fieldLink RX3 29 "BigLedgerModel" "touched" "[Z"] ++ wsX30)
def wsX3_commit_r1 : List Cond := [Cond.fieldLink RX3 1 "BigLedgerModel" "thrown" "I", Cond.fieldLink RX3 52 "BigLedgerModel" "up" "Z", Cond.fieldLink RX3 33 "BigLedgerModel" "logged" "[Z", Cond.fieldLink RX3 29 "BigLedgerModel" "touched" "[Z", Cond.fieldLink RX3 20 "BigLedgerModel" "log" "[I", Cond.fieldLink RX3 13 "BigLedgerModel" "now" "[I", Cond.fieldLink RX3 68 "BigLedgerModel" "committed" "Z", Cond.methodLink RX3 77 yX3_touches, Cond.instanceMethod yX3_touches, Cond.selects RX3 yX3_touches yX3_touches, Cond.initialized RX3, Cond.code yX3_touches cX3_touches 3 (some .int), Cond.methodLink RX3 65 yX3_writes, Cond.instanceMethod yX3_writes, Cond.selects RX3 yX3_writes yX3_writes, Cond.code yX3_writes cX3_writes 1 (some .boolean), Cond.fieldLink RX3 36 "BigLedgerModel" "left" "I", Cond.fieldLink RX3 62 "BigLedgerModel" "writes" "I", Cond.methodLink RX3 59 yX3_down, Cond.instanceMethod yX3_down, Cond.selects RX3 yX3_down yX3_down, Cond.code yX3_down cX3_down 1 none, Cond.methodLink RX3 56 yX3_forget, Cond.instanceMethod yX3_forget]
def wsX3_commit_r2 : List Cond := [Cond.selects RX3 yX3_forget yX3_forget, Cond.code yX3_forget cX3_forget 2 none, Cond.fieldLink RX3 23 "BigLedgerModel" "amount" "[I", Cond.fieldLink RX3 17 "BigLedgerModel" "home" "[I", Cond.methodLink RX3 81 yX3_goHome, Cond.instanceMethod yX3_goHome, Cond.selects RX3 yX3_goHome yX3_goHome, Cond.code yX3_goHome cX3_goHome 3 (some .boolean), Cond.methodLink RX3 71 yX3_emptyLog, Cond.instanceMethod yX3_emptyLog, Cond.selects RX3 yX3_emptyLog yX3_emptyLog, Cond.code yX3_emptyLog cX3_emptyLog 1 (some .boolean)]
def wsX3_commit : List Cond := .code yX3_commit cX3_commit 3 (some .int) :: ((wsX3_commit_r1 ++ wsX3_commit_r2) ++ wsX30)
def wsX3_recover_r1 : List Cond := [Cond.fieldLink RX3 1 "BigLedgerModel" "thrown" "I", Cond.fieldLink RX3 74 "BigLedgerModel" "formatted" "Z", Cond.fieldLink RX3 68 "BigLedgerModel" "committed" "Z", Cond.fieldLink RX3 52 "BigLedgerModel" "up" "Z", Cond.methodLink RX3 59 yX3_down, Cond.instanceMethod yX3_down, Cond.selects RX3 yX3_down yX3_down, Cond.initialized RX3, Cond.code yX3_down cX3_down 1 none, Cond.methodLink RX3 56 yX3_forget, Cond.instanceMethod yX3_forget, Cond.selects RX3 yX3_forget yX3_forget, Cond.code yX3_forget cX3_forget 2 none, Cond.fieldLink RX3 23 "BigLedgerModel" "amount" "[I", Cond.fieldLink RX3 29 "BigLedgerModel" "touched" "[Z", Cond.fieldLink RX3 13 "BigLedgerModel" "now" "[I", Cond.fieldLink RX3 17 "BigLedgerModel" "home" "[I", Cond.methodLink RX3 81 yX3_goHome, Cond.instanceMethod yX3_goHome, Cond.selects RX3 yX3_goHome yX3_goHome, Cond.code yX3_goHome cX3_goHome 3 (some .boolean), Cond.fieldLink RX3 33 "BigLedgerModel" "logged" "[Z", Cond.fieldLink RX3 20 "BigLedgerModel" "log" "[I", Cond.methodLink RX3 65 yX3_writes]
def wsX3_recover_r2 : List Cond := [Cond.instanceMethod yX3_writes, Cond.selects RX3 yX3_writes yX3_writes, Cond.code yX3_writes cX3_writes 1 (some .boolean), Cond.fieldLink RX3 36 "BigLedgerModel" "left" "I", Cond.fieldLink RX3 62 "BigLedgerModel" "writes" "I", Cond.methodLink RX3 71 yX3_emptyLog, Cond.instanceMethod yX3_emptyLog, Cond.selects RX3 yX3_emptyLog yX3_emptyLog, Cond.code yX3_emptyLog cX3_emptyLog 1 (some .boolean)]
def wsX3_recover : List Cond := .code yX3_recover cX3_recover 1 (some .boolean) :: ((wsX3_recover_r1 ++ wsX3_recover_r2) ++ wsX30)
def wsX3_abort : List Cond := .code yX3_abort cX3_abort 2 (some .boolean) :: ([.fieldLink RX3 1 "BigLedgerModel" "thrown" "I", .fieldLink RX3 52 "BigLedgerModel" "up" "Z", .fieldLink RX3 29 "BigLedgerModel" "touched" "[Z", .fieldLink RX3 13 "BigLedgerModel" "now" "[I", .fieldLink RX3 17 "BigLedgerModel" "home" "[I"] ++ wsX30)
def wsX3_stopAfter : List Cond := .code yX3_stopAfter cX3_stopAfter 2 none :: ([.fieldLink RX3 1 "BigLedgerModel" "thrown" "I", .fieldLink RX3 36 "BigLedgerModel" "left" "I"] ++ wsX30)
def wsX3_size : List Cond := .code yX3_size cX3_size 3 (some .int) :: ([])
def wsX3_compared : List Cond := .code yX3_compared cX3_compared 5 (some .int) :: ([])
def wsX3_change : List Cond := .code yX3_change cX3_change 8 none :: ([.fieldLink RX3 13 "BigLedgerModel" "now" "[I", .fieldLink RX3 23 "BigLedgerModel" "amount" "[I", .constantLong RX3 84 (-1), .constantLong RX3 86 (2147483648)] ++ wsX30)
def wsX3_isGreat : List Cond := .code yX3_isGreat cX3_isGreat 5 (some .boolean) :: ([.fieldLink RX3 46 "BigLedgerModel" "limbs" "I", .fieldLink RX3 13 "BigLedgerModel" "now" "[I", .fieldLink RX3 23 "BigLedgerModel" "amount" "[I", .constantLong RX3 86 (2147483648)] ++ wsX30)
def wsX3_amountLimb : List Cond := .code yX3_amountLimb cX3_amountLimb 3 (some .boolean) :: ([.fieldLink RX3 1 "BigLedgerModel" "thrown" "I", .fieldLink RX3 52 "BigLedgerModel" "up" "Z", .fieldLink RX3 23 "BigLedgerModel" "amount" "[I", .fieldLink RX3 46 "BigLedgerModel" "limbs" "I"] ++ wsX30)
def wsX3_clearAmount : List Cond := .code yX3_clearAmount cX3_clearAmount 2 (some .boolean) :: ([.fieldLink RX3 1 "BigLedgerModel" "thrown" "I", .fieldLink RX3 52 "BigLedgerModel" "up" "Z", .fieldLink RX3 23 "BigLedgerModel" "amount" "[I"] ++ wsX30)
def wsX3_no : List Cond := .code yX3_no cX3_no 2 (some .boolean) :: ([.fieldLink RX3 43 "BigLedgerModel" "accounts" "I"] ++ wsX30)
def wsX3_isFull : List Cond := .code yX3_isFull cX3_isFull 4 (some .boolean) :: ([.fieldLink RX3 29 "BigLedgerModel" "touched" "[Z", .fieldLink RX3 49 "BigLedgerModel" "room" "I", .methodLink RX3 77 yX3_touches, .instanceMethod yX3_touches, .selects RX3 yX3_touches yX3_touches, .initialized RX3, .code yX3_touches cX3_touches 3 (some .int)] ++ wsX30)
def wsX3_deposit_r1 : List Cond := [Cond.fieldLink RX3 1 "BigLedgerModel" "thrown" "I", Cond.fieldLink RX3 52 "BigLedgerModel" "up" "Z", Cond.fieldLink RX3 29 "BigLedgerModel" "touched" "[Z", Cond.methodLink RX3 88 yX3_no, Cond.instanceMethod yX3_no, Cond.selects RX3 yX3_no yX3_no, Cond.initialized RX3, Cond.code yX3_no cX3_no 2 (some .boolean), Cond.fieldLink RX3 43 "BigLedgerModel" "accounts" "I", Cond.methodLink RX3 92 yX3_isGreat, Cond.instanceMethod yX3_isGreat, Cond.selects RX3 yX3_isGreat yX3_isGreat, Cond.code yX3_isGreat cX3_isGreat 5 (some .boolean), Cond.fieldLink RX3 46 "BigLedgerModel" "limbs" "I", Cond.fieldLink RX3 13 "BigLedgerModel" "now" "[I", Cond.fieldLink RX3 23 "BigLedgerModel" "amount" "[I", Cond.constantLong RX3 86 (2147483648), Cond.methodLink RX3 95 yX3_isFull, Cond.instanceMethod yX3_isFull, Cond.selects RX3 yX3_isFull yX3_isFull, Cond.code yX3_isFull cX3_isFull 4 (some .boolean), Cond.fieldLink RX3 49 "BigLedgerModel" "room" "I", Cond.methodLink RX3 77 yX3_touches, Cond.instanceMethod yX3_touches]
def wsX3_deposit_r2 : List Cond := [Cond.selects RX3 yX3_touches yX3_touches, Cond.code yX3_touches cX3_touches 3 (some .int), Cond.methodLink RX3 99 yX3_change, Cond.instanceMethod yX3_change, Cond.selects RX3 yX3_change yX3_change, Cond.code yX3_change cX3_change 8 none, Cond.constantLong RX3 84 (-1)]
def wsX3_deposit : List Cond := .code yX3_deposit cX3_deposit 2 (some .int) :: ((wsX3_deposit_r1 ++ wsX3_deposit_r2) ++ wsX30)
def wsX3_withdraw_r1 : List Cond := [Cond.fieldLink RX3 1 "BigLedgerModel" "thrown" "I", Cond.fieldLink RX3 52 "BigLedgerModel" "up" "Z", Cond.fieldLink RX3 23 "BigLedgerModel" "amount" "[I", Cond.fieldLink RX3 13 "BigLedgerModel" "now" "[I", Cond.fieldLink RX3 29 "BigLedgerModel" "touched" "[Z", Cond.methodLink RX3 88 yX3_no, Cond.instanceMethod yX3_no, Cond.selects RX3 yX3_no yX3_no, Cond.initialized RX3, Cond.code yX3_no cX3_no 2 (some .boolean), Cond.fieldLink RX3 43 "BigLedgerModel" "accounts" "I", Cond.methodLink RX3 103 yX3_compared, Cond.static yX3_compared, Cond.code yX3_compared cX3_compared 5 (some .int), Cond.methodLink RX3 95 yX3_isFull, Cond.instanceMethod yX3_isFull, Cond.selects RX3 yX3_isFull yX3_isFull, Cond.code yX3_isFull cX3_isFull 4 (some .boolean), Cond.fieldLink RX3 49 "BigLedgerModel" "room" "I", Cond.methodLink RX3 77 yX3_touches, Cond.instanceMethod yX3_touches, Cond.selects RX3 yX3_touches yX3_touches, Cond.code yX3_touches cX3_touches 3 (some .int), Cond.methodLink RX3 99 yX3_change]
def wsX3_withdraw_r2 : List Cond := [Cond.instanceMethod yX3_change, Cond.selects RX3 yX3_change yX3_change, Cond.code yX3_change cX3_change 8 none, Cond.constantLong RX3 84 (-1), Cond.constantLong RX3 86 (2147483648)]
def wsX3_withdraw : List Cond := .code yX3_withdraw cX3_withdraw 2 (some .int) :: ((wsX3_withdraw_r1 ++ wsX3_withdraw_r2) ++ wsX30)
def wsX3_transfer_r1 : List Cond := [Cond.fieldLink RX3 1 "BigLedgerModel" "thrown" "I", Cond.fieldLink RX3 52 "BigLedgerModel" "up" "Z", Cond.fieldLink RX3 23 "BigLedgerModel" "amount" "[I", Cond.fieldLink RX3 13 "BigLedgerModel" "now" "[I", Cond.fieldLink RX3 29 "BigLedgerModel" "touched" "[Z", Cond.methodLink RX3 88 yX3_no, Cond.instanceMethod yX3_no, Cond.selects RX3 yX3_no yX3_no, Cond.initialized RX3, Cond.code yX3_no cX3_no 2 (some .boolean), Cond.fieldLink RX3 43 "BigLedgerModel" "accounts" "I", Cond.methodLink RX3 103 yX3_compared, Cond.static yX3_compared, Cond.code yX3_compared cX3_compared 5 (some .int), Cond.methodLink RX3 92 yX3_isGreat, Cond.instanceMethod yX3_isGreat, Cond.selects RX3 yX3_isGreat yX3_isGreat, Cond.code yX3_isGreat cX3_isGreat 5 (some .boolean), Cond.fieldLink RX3 46 "BigLedgerModel" "limbs" "I", Cond.constantLong RX3 86 (2147483648), Cond.methodLink RX3 95 yX3_isFull, Cond.instanceMethod yX3_isFull, Cond.selects RX3 yX3_isFull yX3_isFull, Cond.code yX3_isFull cX3_isFull 4 (some .boolean)]
def wsX3_transfer_r2 : List Cond := [Cond.fieldLink RX3 49 "BigLedgerModel" "room" "I", Cond.methodLink RX3 77 yX3_touches, Cond.instanceMethod yX3_touches, Cond.selects RX3 yX3_touches yX3_touches, Cond.code yX3_touches cX3_touches 3 (some .int), Cond.methodLink RX3 99 yX3_change, Cond.instanceMethod yX3_change, Cond.selects RX3 yX3_change yX3_change, Cond.code yX3_change cX3_change 8 none, Cond.constantLong RX3 84 (-1)]
def wsX3_transfer : List Cond := .code yX3_transfer cX3_transfer 3 (some .int) :: ((wsX3_transfer_r1 ++ wsX3_transfer_r2) ++ wsX30)
def wsX3_part : List Cond := .code yX3_part cX3_part 9 (some .int) :: ([.fieldLink RX3 1 "BigLedgerModel" "thrown" "I", .fieldLink RX3 52 "BigLedgerModel" "up" "Z", .fieldLink RX3 13 "BigLedgerModel" "now" "[I", .fieldLink RX3 26 "BigLedgerModel" "work" "[I", .constantLong RX3 86 (2147483648), .fieldLink RX3 23 "BigLedgerModel" "amount" "[I", .methodLink RX3 88 yX3_no, .instanceMethod yX3_no, .selects RX3 yX3_no yX3_no, .initialized RX3, .code yX3_no cX3_no 2 (some .boolean), .fieldLink RX3 43 "BigLedgerModel" "accounts" "I"] ++ wsX30)
def wsX3_balanceSize : List Cond := .code yX3_balanceSize cX3_balanceSize 2 (some .int) :: ([.fieldLink RX3 1 "BigLedgerModel" "thrown" "I", .fieldLink RX3 52 "BigLedgerModel" "up" "Z", .fieldLink RX3 13 "BigLedgerModel" "now" "[I", .methodLink RX3 88 yX3_no, .instanceMethod yX3_no, .selects RX3 yX3_no yX3_no, .initialized RX3, .code yX3_no cX3_no 2 (some .boolean), .fieldLink RX3 43 "BigLedgerModel" "accounts" "I", .methodLink RX3 107 yX3_size, .static yX3_size, .code yX3_size cX3_size 3 (some .int)] ++ wsX30)
def wsX3_balanceLimb : List Cond := .code yX3_balanceLimb cX3_balanceLimb 3 (some .int) :: ([.fieldLink RX3 1 "BigLedgerModel" "thrown" "I", .fieldLink RX3 52 "BigLedgerModel" "up" "Z", .fieldLink RX3 13 "BigLedgerModel" "now" "[I", .methodLink RX3 88 yX3_no, .instanceMethod yX3_no, .selects RX3 yX3_no yX3_no, .initialized RX3, .code yX3_no cX3_no 2 (some .boolean), .fieldLink RX3 43 "BigLedgerModel" "accounts" "I"] ++ wsX30)
def wsX3_totalLimb : List Cond := .code yX3_totalLimb cX3_totalLimb 2 (some .int) :: ([.fieldLink RX3 1 "BigLedgerModel" "thrown" "I", .fieldLink RX3 52 "BigLedgerModel" "up" "Z", .fieldLink RX3 13 "BigLedgerModel" "now" "[I"] ++ wsX30)
def wsX3_amount : List Cond := .code yX3_amount cX3_amount 2 (some .int) :: ([.fieldLink RX3 1 "BigLedgerModel" "thrown" "I", .fieldLink RX3 52 "BigLedgerModel" "up" "Z", .fieldLink RX3 23 "BigLedgerModel" "amount" "[I"] ++ wsX30)
def wsX3_compare : List Cond := .code yX3_compare cX3_compare 3 (some .int) :: ([.fieldLink RX3 1 "BigLedgerModel" "thrown" "I", .fieldLink RX3 52 "BigLedgerModel" "up" "Z", .fieldLink RX3 13 "BigLedgerModel" "now" "[I", .methodLink RX3 88 yX3_no, .instanceMethod yX3_no, .selects RX3 yX3_no yX3_no, .initialized RX3, .code yX3_no cX3_no 2 (some .boolean), .fieldLink RX3 43 "BigLedgerModel" "accounts" "I", .methodLink RX3 103 yX3_compared, .static yX3_compared, .code yX3_compared cX3_compared 5 (some .int)] ++ wsX30)
def wsX3_write : List Cond := .code yX3_write cX3_write 6 (some .int) :: ([.fieldLink RX3 1 "BigLedgerModel" "thrown" "I", .fieldLink RX3 52 "BigLedgerModel" "up" "Z", .fieldLink RX3 26 "BigLedgerModel" "work" "[I", .fieldLink RX3 13 "BigLedgerModel" "now" "[I", .constantLong RX3 86 (2147483648), .constantLong RX3 111 (10), .fieldLink RX3 39 "BigLedgerModel" "out" "[B", .constantLong RX3 113 (48), .fieldLink RX3 115 "BigLedgerModel" "outMany" "I", .methodLink RX3 88 yX3_no, .instanceMethod yX3_no, .selects RX3 yX3_no yX3_no, .initialized RX3, .code yX3_no cX3_no 2 (some .boolean), .fieldLink RX3 43 "BigLedgerModel" "accounts" "I", .methodLink RX3 107 yX3_size, .static yX3_size, .code yX3_size cX3_size 3 (some .int)] ++ wsX30)
def wsX3_octet : List Cond := .code yX3_octet cX3_octet 2 (some .int) :: ([.fieldLink RX3 115 "BigLedgerModel" "outMany" "I", .fieldLink RX3 1 "BigLedgerModel" "thrown" "I", .fieldLink RX3 39 "BigLedgerModel" "out" "[B"] ++ wsX30)
def wsX3_count : List Cond := .code yX3_count cX3_count 2 (some .int) :: ([.fieldLink RX3 1 "BigLedgerModel" "thrown" "I", .fieldLink RX3 43 "BigLedgerModel" "accounts" "I", .fieldLink RX3 46 "BigLedgerModel" "limbs" "I", .fieldLink RX3 49 "BigLedgerModel" "room" "I", .fieldLink RX3 62 "BigLedgerModel" "writes" "I", .fieldLink RX3 52 "BigLedgerModel" "up" "Z", .fieldLink RX3 36 "BigLedgerModel" "left" "I", .fieldLink RX3 13 "BigLedgerModel" "now" "[I", .fieldLink RX3 23 "BigLedgerModel" "amount" "[I", .methodLink RX3 77 yX3_touches, .instanceMethod yX3_touches, .selects RX3 yX3_touches yX3_touches, .initialized RX3, .code yX3_touches cX3_touches 3 (some .int), .fieldLink RX3 29 "BigLedgerModel" "touched" "[Z", .methodLink RX3 107 yX3_size, .static yX3_size, .code yX3_size cX3_size 3 (some .int)] ++ wsX30)
def wsJ9_max_7cf53 : List Cond := .code yJ9_max_7cf53 cJ9_max_7cf53 2 (some .int) :: ([])
def wsJ9_min_7cf53 : List Cond := .code yJ9_min_7cf53 cJ9_min_7cf53 2 (some .int) :: ([])
theorem inJ6 : ∀ w ∈ wsJ60, w ∈ lw_tbl := by decide +kernel
theorem inJ9 : ∀ w ∈ wsJ90, w ∈ lw_tbl := by decide +kernel
theorem inJ0 : ∀ w ∈ wsJ00, w ∈ lw_tbl := by decide +kernel
set_option maxRecDepth 20000 in
theorem ggX0_init_X2_naturals : GoodIn wsX0_init wsX2_naturals := goodIn_r _ [9, 10, 11, 12, 13, 14, 15, 16, 2, 3, 17, 18, 25, 26] (by decide +kernel) (by decide +kernel)
set_option maxRecDepth 20000 in
theorem gX0_init_X2_naturals_n9 : GoodIn wsX0_init (wsX2_naturals) := ggX0_init_X2_naturals
set_option maxRecDepth 20000 in
theorem ggX0_layOut_X0_writeFormatted : GoodIn wsX0_layOut wsX0_writeFormatted := goodIn_r _ [5, 6, 7, 8, 9, 4, 10, 11, 12, 30, 31, 32, 33, 34, 35] (by decide +kernel) (by decide +kernel)
set_option maxRecDepth 20000 in
theorem gX0_layOut_X0_writeFormatted : GoodIn wsX0_layOut (wsV RX0 26 RX0 yX0_writeFormatted wsX0_writeFormatted) := goodIn_app (goodIn_of _ (by decide +kernel)) ggX0_layOut_X0_writeFormatted
set_option maxRecDepth 20000 in
theorem ggX0_layOut_X0_writeLogState : GoodIn wsX0_layOut wsX0_writeLogState := goodIn_r _ [16, 17, 7, 8, 9, 4, 10, 11, 12, 30, 31, 32, 33, 34, 35] (by decide +kernel) (by decide +kernel)
set_option maxRecDepth 20000 in
theorem gX0_layOut_X0_writeLogState : GoodIn wsX0_layOut (wsV RX0 30 RX0 yX0_writeLogState wsX0_writeLogState) := goodIn_app (goodIn_of _ (by decide +kernel)) ggX0_layOut_X0_writeLogState
set_option maxRecDepth 20000 in
theorem ggX0_layOut_X0_clearHomes : GoodIn wsX0_layOut wsX0_clearHomes := goodIn_r _ [21, 22, 7, 8, 9, 4, 10, 11, 12, 23, 24, 25, 26, 27, 28, 29, 30, 31, 32, 33, 34, 35, 36, 37] (by decide +kernel) (by decide +kernel)
set_option maxRecDepth 20000 in
theorem gX0_layOut_X0_clearHomes : GoodIn wsX0_layOut (wsV RX0 34 RX0 yX0_clearHomes wsX0_clearHomes) := goodIn_app (goodIn_of _ (by decide +kernel)) ggX0_layOut_X0_clearHomes
set_option maxRecDepth 20000 in
theorem ggX0_bringThroughLog_X0_writeBlocks : GoodIn wsX0_bringThroughLog wsX0_writeBlocks := goodIn_r _ [6, 7, 8, 9, 10, 11, 12, 5, 13, 14, 15, 16, 17, 18, 19, 20, 21, 22, 23, 24, 25, 26, 27, 28, 29, 30, 41, 42, 43, 44, 45, 46, 47, 48] (by decide +kernel) (by decide +kernel)
set_option maxRecDepth 20000 in
theorem gX0_bringThroughLog_X0_writeBlocks : GoodIn wsX0_bringThroughLog (wsV RX0 38 RX0 yX0_writeBlocks wsX0_writeBlocks) := goodIn_app (goodIn_of _ (by decide +kernel)) ggX0_bringThroughLog_X0_writeBlocks
set_option maxRecDepth 20000 in
theorem ggX0_bringThroughLog_X0_writeLogState : GoodIn wsX0_bringThroughLog wsX0_writeLogState := goodIn_r _ [34, 35, 10, 11, 12, 5, 13, 14, 15, 41, 42, 43, 44, 45, 46] (by decide +kernel) (by decide +kernel)
set_option maxRecDepth 20000 in
theorem gX0_bringThroughLog_X0_writeLogState : GoodIn wsX0_bringThroughLog (wsV RX0 30 RX0 yX0_writeLogState wsX0_writeLogState) := goodIn_app (goodIn_of _ (by decide +kernel)) ggX0_bringThroughLog_X0_writeLogState
set_option maxRecDepth 20000 in
theorem ggX0_bringThroughLog_X0_bringLogHome : GoodIn wsX0_bringThroughLog wsX0_bringLogHome := goodIn_r _ [39, 35, 40, 1, 2, 3, 4, 5, 6, 7, 8, 9, 10, 11, 12, 13, 14, 15, 16, 17, 18, 19, 20, 21, 22, 23, 24, 25, 26, 27, 28, 29, 30, 31, 32, 33, 34, 41, 42, 43, 44, 45, 46, 47, 48] (by decide +kernel) (by decide +kernel)
set_option maxRecDepth 20000 in
theorem gX0_bringThroughLog_X0_bringLogHome : GoodIn wsX0_bringThroughLog (wsV RX0 42 RX0 yX0_bringLogHome wsX0_bringLogHome) := goodIn_app (goodIn_of _ (by decide +kernel)) ggX0_bringThroughLog_X0_bringLogHome
set_option maxRecDepth 20000 in
theorem ggX0_bringLogHome_X0_writeBlocks : GoodIn wsX0_bringLogHome wsX0_writeBlocks := goodIn_r _ [8, 9, 10, 11, 12, 13, 14, 7, 15, 16, 17, 18, 19, 20, 21, 22, 23, 24, 25, 26, 27, 28, 29, 30, 31, 32, 37, 38, 39, 40, 41, 42, 43, 44] (by decide +kernel) (by decide +kernel)
set_option maxRecDepth 20000 in
theorem gX0_bringLogHome_X0_writeBlocks : GoodIn wsX0_bringLogHome (wsV RX0 38 RX0 yX0_writeBlocks wsX0_writeBlocks) := goodIn_app (goodIn_of _ (by decide +kernel)) ggX0_bringLogHome_X0_writeBlocks
set_option maxRecDepth 20000 in
theorem ggX0_bringLogHome_X0_writeLogState : GoodIn wsX0_bringLogHome wsX0_writeLogState := goodIn_r _ [36, 1, 12, 13, 14, 7, 15, 16, 17, 37, 38, 39, 40, 41, 42] (by decide +kernel) (by decide +kernel)
set_option maxRecDepth 20000 in
theorem gX0_bringLogHome_X0_writeLogState : GoodIn wsX0_bringLogHome (wsV RX0 30 RX0 yX0_writeLogState wsX0_writeLogState) := goodIn_app (goodIn_of _ (by decide +kernel)) ggX0_bringLogHome_X0_writeLogState
set_option maxRecDepth 20000 in
theorem ggX0_writeFormatted_X0_passStop : GoodIn wsX0_writeFormatted wsX0_passStop := goodIn_r _ [6, 7, 8, 9, 10, 11, 12, 13, 14] (by decide +kernel) (by decide +kernel)
set_option maxRecDepth 20000 in
theorem gX0_writeFormatted_X0_passStop : GoodIn wsX0_writeFormatted (wsV RX0 51 RX0 yX0_passStop wsX0_passStop) := goodIn_app (goodIn_of _ (by decide +kernel)) ggX0_writeFormatted_X0_passStop
set_option maxRecDepth 20000 in
theorem ggX0_writeLogState_X0_passStop : GoodIn wsX0_writeLogState wsX0_passStop := goodIn_r _ [6, 7, 8, 9, 10, 11, 12, 13, 14] (by decide +kernel) (by decide +kernel)
set_option maxRecDepth 20000 in
theorem gX0_writeLogState_X0_passStop : GoodIn wsX0_writeLogState (wsV RX0 51 RX0 yX0_passStop wsX0_passStop) := goodIn_app (goodIn_of _ (by decide +kernel)) ggX0_writeLogState_X0_passStop
set_option maxRecDepth 20000 in
theorem ggX0_writeBlocks_X2_has : GoodIn wsX0_writeBlocks wsX2_has := goodIn_r _ [3] (by decide +kernel) (by decide +kernel)
set_option maxRecDepth 20000 in
theorem gX0_writeBlocks_X2_has_n58 : GoodIn wsX0_writeBlocks (wsX2_has) := ggX0_writeBlocks_X2_has
set_option maxRecDepth 20000 in
theorem ggX0_writeBlocks_X0_passStop : GoodIn wsX0_writeBlocks wsX0_passStop := goodIn_r _ [8, 9, 10, 26, 27, 28, 29, 30, 31] (by decide +kernel) (by decide +kernel)
set_option maxRecDepth 20000 in
theorem gX0_writeBlocks_X0_passStop : GoodIn wsX0_writeBlocks (wsV RX0 51 RX0 yX0_passStop wsX0_passStop) := goodIn_app (goodIn_of _ (by decide +kernel)) ggX0_writeBlocks_X0_passStop
set_option maxRecDepth 20000 in
theorem ggX0_writeBlocks_X1_setTo : GoodIn wsX0_writeBlocks wsX1_setTo := goodIn_r _ [15, 16, 17, 18, 19, 14, 20, 21, 22, 23, 24, 25, 32, 33] (by decide +kernel) (by decide +kernel)
set_option maxRecDepth 20000 in
theorem gX0_writeBlocks_X1_setTo : GoodIn wsX0_writeBlocks (wsV RX0 62 RX1 yX1_setTo wsX1_setTo) := goodIn_app (goodIn_of _ (by decide +kernel)) ggX0_writeBlocks_X1_setTo
set_option maxRecDepth 20000 in
theorem ggX0_clearHomes_X0_passStop : GoodIn wsX0_clearHomes wsX0_passStop := goodIn_r _ [6, 7, 8, 16, 17, 18, 19, 20, 21] (by decide +kernel) (by decide +kernel)
set_option maxRecDepth 20000 in
theorem gX0_clearHomes_X0_passStop : GoodIn wsX0_clearHomes (wsV RX0 51 RX0 yX0_passStop wsX0_passStop) := goodIn_app (goodIn_of _ (by decide +kernel)) ggX0_clearHomes_X0_passStop
set_option maxRecDepth 20000 in
theorem ggX0_clearHomes_X1_setZero : GoodIn wsX0_clearHomes wsX1_setZero := goodIn_r _ [13, 14, 15, 22, 23] (by decide +kernel) (by decide +kernel)
set_option maxRecDepth 20000 in
theorem gX0_clearHomes_X1_setZero : GoodIn wsX0_clearHomes (wsV RX0 68 RX1 yX1_setZero wsX1_setZero) := goodIn_app (goodIn_of _ (by decide +kernel)) ggX0_clearHomes_X1_setZero
set_option maxRecDepth 20000 in
theorem ggX1_setTo_X1_limbAt : GoodIn wsX1_setTo wsX1_limbAt := goodIn_r _ [6, 7, 1, 12, 13] (by decide +kernel) (by decide +kernel)
set_option maxRecDepth 20000 in
theorem gX1_setTo_X1_limbAt : GoodIn wsX1_setTo (wsV RX1 19 RX1 yX1_limbAt wsX1_limbAt) := goodIn_app (goodIn_of _ (by decide +kernel)) ggX1_setTo_X1_limbAt
set_option maxRecDepth 20000 in
theorem ggX1_setTo_X1_measure : GoodIn wsX1_setTo wsX1_measure := goodIn_r _ [11, 1, 7, 12, 13] (by decide +kernel) (by decide +kernel)
set_option maxRecDepth 20000 in
theorem gX1_setTo_X1_measure : GoodIn wsX1_setTo (wsV RX1 23 RX1 yX1_measure wsX1_measure) := goodIn_app (goodIn_of _ (by decide +kernel)) ggX1_setTo_X1_measure
set_option maxRecDepth 20000 in
theorem ggX1_append_X1_measure : GoodIn wsX1_append wsX1_measure := goodIn_r _ [6, 1, 7, 8, 9] (by decide +kernel) (by decide +kernel)
set_option maxRecDepth 20000 in
theorem gX1_append_X1_measure : GoodIn wsX1_append (wsV RX1 23 RX1 yX1_measure wsX1_measure) := goodIn_app (goodIn_of _ (by decide +kernel)) ggX1_append_X1_measure
set_option maxRecDepth 20000 in
theorem ggX1_increase_X1_limbAt : GoodIn wsX1_increase wsX1_limbAt := goodIn_r _ [7, 8, 1, 13, 14] (by decide +kernel) (by decide +kernel)
set_option maxRecDepth 20000 in
theorem gX1_increase_X1_limbAt : GoodIn wsX1_increase (wsV RX1 19 RX1 yX1_limbAt wsX1_limbAt) := goodIn_app (goodIn_of _ (by decide +kernel)) ggX1_increase_X1_limbAt
set_option maxRecDepth 20000 in
theorem ggX1_increase_X1_measure : GoodIn wsX1_increase wsX1_measure := goodIn_r _ [12, 1, 8, 13, 14] (by decide +kernel) (by decide +kernel)
set_option maxRecDepth 20000 in
theorem gX1_increase_X1_measure : GoodIn wsX1_increase (wsV RX1 23 RX1 yX1_measure wsX1_measure) := goodIn_app (goodIn_of _ (by decide +kernel)) ggX1_increase_X1_measure
set_option maxRecDepth 20000 in
theorem ggX1_decrease_X1_limbAt : GoodIn wsX1_decrease wsX1_limbAt := goodIn_r _ [7, 8, 1, 13, 14] (by decide +kernel) (by decide +kernel)
set_option maxRecDepth 20000 in
theorem gX1_decrease_X1_limbAt : GoodIn wsX1_decrease (wsV RX1 19 RX1 yX1_limbAt wsX1_limbAt) := goodIn_app (goodIn_of _ (by decide +kernel)) ggX1_decrease_X1_limbAt
set_option maxRecDepth 20000 in
theorem ggX1_decrease_X1_measure : GoodIn wsX1_decrease wsX1_measure := goodIn_r _ [12, 1, 8, 13, 14] (by decide +kernel) (by decide +kernel)
set_option maxRecDepth 20000 in
theorem gX1_decrease_X1_measure : GoodIn wsX1_decrease (wsV RX1 23 RX1 yX1_measure wsX1_measure) := goodIn_app (goodIn_of _ (by decide +kernel)) ggX1_decrease_X1_measure
set_option maxRecDepth 20000 in
theorem ggX1_multiply_X1_measure : GoodIn wsX1_multiply wsX1_measure := goodIn_r _ [7, 1, 8, 9, 10] (by decide +kernel) (by decide +kernel)
set_option maxRecDepth 20000 in
theorem gX1_multiply_X1_measure : GoodIn wsX1_multiply (wsV RX1 23 RX1 yX1_measure wsX1_measure) := goodIn_app (goodIn_of _ (by decide +kernel)) ggX1_multiply_X1_measure
set_option maxRecDepth 20000 in
theorem ggX1_divide_X1_measure : GoodIn wsX1_divide wsX1_measure := goodIn_r _ [6, 1, 7, 8, 9] (by decide +kernel) (by decide +kernel)
set_option maxRecDepth 20000 in
theorem gX1_divide_X1_measure : GoodIn wsX1_divide (wsV RX1 23 RX1 yX1_measure wsX1_measure) := goodIn_app (goodIn_of _ (by decide +kernel)) ggX1_divide_X1_measure
set_option maxRecDepth 20000 in
theorem ggX1_standingTo_X1_limbAt : GoodIn wsX1_standingTo wsX1_limbAt := goodIn_r _ [6, 7, 1, 12, 13] (by decide +kernel) (by decide +kernel)
set_option maxRecDepth 20000 in
theorem gX1_standingTo_X1_limbAt : GoodIn wsX1_standingTo (wsV RX1 19 RX1 yX1_limbAt wsX1_limbAt) := goodIn_app (goodIn_of _ (by decide +kernel)) ggX1_standingTo_X1_limbAt
set_option maxRecDepth 20000 in
theorem ggX1_standingTo_J6_compare_7cf53 : GoodIn wsX1_standingTo wsJ6_compare_7cf53 := goodIn_r _ [11] (by decide +kernel) (by decide +kernel)
set_option maxRecDepth 20000 in
theorem gX1_standingTo_J6_compare_7cf53 : GoodIn wsX1_standingTo (va_wsS RX1 28 yJ6_compare_7cf53 wsJ6_compare_7cf53) := goodIn_app (goodIn_of _ (by decide +kernel)) ggX1_standingTo_J6_compare_7cf53
set_option maxRecDepth 20000 in
theorem ggX2_init_X2_within : GoodIn wsX2_init wsX2_within := goodIn_r _ [22, 23, 24, 25, 26, 27, 28, 29] (by decide +kernel) (by decide +kernel)
set_option maxRecDepth 20000 in
theorem gX2_init_X2_within : GoodIn wsX2_init (va_wsS RX2 9 yX2_within wsX2_within) := goodIn_app (goodIn_of _ (by decide +kernel)) ggX2_init_X2_within
set_option maxRecDepth 20000 in
theorem ggX2_init_X0_init : GoodIn wsX2_init wsX0_init := goodIn_r _ [32, 33, 2, 3, 34, 35, 36, 37, 21, 38, 12, 13, 14, 39, 40, 41, 42, 43, 44, 57, 58, 59, 60, 61, 62, 63, 64] (by decide +kernel) (by decide +kernel)
set_option maxRecDepth 20000 in
theorem gX2_init_X0_init : GoodIn wsX2_init (wsX0_init) := ggX2_init_X0_init
set_option maxRecDepth 20000 in
theorem ggX2_init_X2_naturals : GoodIn wsX2_init wsX2_naturals := goodIn_r _ [38, 12, 13, 14, 39, 40, 41, 42, 2, 3, 43, 44, 63, 64] (by decide +kernel) (by decide +kernel)
set_option maxRecDepth 20000 in
theorem gX2_init_X2_naturals : GoodIn wsX2_init (va_wsS RX2 32 yX2_naturals wsX2_naturals) := goodIn_app (goodIn_of _ (by decide +kernel)) ggX2_init_X2_naturals
set_option maxRecDepth 20000 in
theorem ggX2_init_X1_init : GoodIn wsX2_init wsX1_init := goodIn_r _ [41, 42, 2, 3, 43, 44, 63, 64] (by decide +kernel) (by decide +kernel)
set_option maxRecDepth 20000 in
theorem gX2_init_X1_init : GoodIn wsX2_init (wsX1_init) := ggX2_init_X1_init
set_option maxRecDepth 20000 in
theorem ggX2_naturals_X1_init : GoodIn wsX2_naturals wsX1_init := goodIn_r _ [6, 7, 8, 9, 10, 11, 12, 13] (by decide +kernel) (by decide +kernel)
set_option maxRecDepth 20000 in
theorem gX2_naturals_X1_init : GoodIn wsX2_naturals (wsX1_init) := ggX2_naturals_X1_init
set_option maxRecDepth 20000 in
theorem ggX2_format_X2_loseMemory : GoodIn wsX2_format wsX2_loseMemory := goodIn_r _ [7, 8, 9, 10, 11, 6, 12, 13, 14, 15, 16, 17, 18, 19, 20, 48, 49, 50, 51, 52, 53, 54, 55, 56, 57, 58, 59, 60] (by decide +kernel) (by decide +kernel)
set_option maxRecDepth 20000 in
theorem gX2_format_X2_loseMemory : GoodIn wsX2_format (wsV RX2 64 RX2 yX2_loseMemory wsX2_loseMemory) := goodIn_app (goodIn_of _ (by decide +kernel)) ggX2_format_X2_loseMemory
set_option maxRecDepth 20000 in
theorem ggX2_format_X0_layOut : GoodIn wsX2_format wsX0_layOut := goodIn_r _ [25, 26, 27, 28, 24, 29, 30, 31, 32, 33, 34, 35, 36, 37, 38, 39, 40, 41, 42, 43, 44, 45, 46, 47, 15, 16, 17, 18, 19, 20, 61, 62, 63, 64, 65, 66, 59, 60] (by decide +kernel) (by decide +kernel)
set_option maxRecDepth 20000 in
theorem gX2_format_X0_layOut : GoodIn wsX2_format (wsV RX2 67 RX0 yX0_layOut wsX0_layOut) := goodIn_app (goodIn_of _ (by decide +kernel)) ggX2_format_X0_layOut
set_option maxRecDepth 20000 in
theorem ggX2_amountLimb_X1_append : GoodIn wsX2_amountLimb wsX1_append := goodIn_r _ [8, 9, 10, 11, 12, 7, 13, 14, 26, 27] (by decide +kernel) (by decide +kernel)
set_option maxRecDepth 20000 in
theorem gX2_amountLimb_X1_append : GoodIn wsX2_amountLimb (wsV RX2 78 RX1 yX1_append wsX1_append) := goodIn_app (goodIn_of _ (by decide +kernel)) ggX2_amountLimb_X1_append
set_option maxRecDepth 20000 in
theorem ggX2_clearAmount_X1_setZero : GoodIn wsX2_clearAmount wsX1_setZero := goodIn_r _ [7, 8, 9, 21, 22] (by decide +kernel) (by decide +kernel)
set_option maxRecDepth 20000 in
theorem gX2_clearAmount_X1_setZero : GoodIn wsX2_clearAmount (wsV RX2 81 RX1 yX1_setZero wsX1_setZero) := goodIn_app (goodIn_of _ (by decide +kernel)) ggX2_clearAmount_X1_setZero
set_option maxRecDepth 20000 in
theorem ggX2_deposit_X2_isAccount : GoodIn wsX2_deposit wsX2_isAccount := goodIn_r _ [7, 8, 65, 66, 67, 68, 69, 70, 71, 72, 73, 74, 75] (by decide +kernel) (by decide +kernel)
set_option maxRecDepth 20000 in
theorem gX2_deposit_X2_isAccount : GoodIn wsX2_deposit (wsV RX2 84 RX2 yX2_isAccount wsX2_isAccount) := goodIn_app (goodIn_of _ (by decide +kernel)) ggX2_deposit_X2_isAccount
set_option maxRecDepth 20000 in
theorem ggX2_deposit_X2_wouldBeTooGreat : GoodIn wsX2_deposit wsX2_wouldBeTooGreat := goodIn_r _ [12, 13, 2, 14, 15, 16, 17, 6, 18, 19, 20, 21, 22, 23, 24, 25, 26, 27, 28, 29, 30, 31, 32, 33, 34, 35, 36, 37, 38, 39, 40, 41, 42, 43, 44, 65, 66, 67, 68, 69, 70, 71, 72, 73, 74, 75, 76, 77, 78, 79, 80, 81, 82, 83] (by decide +kernel) (by decide +kernel)
set_option maxRecDepth 20000 in
theorem gX2_deposit_X2_wouldBeTooGreat : GoodIn wsX2_deposit (wsV RX2 88 RX2 yX2_wouldBeTooGreat wsX2_wouldBeTooGreat) := goodIn_app (goodIn_of _ (by decide +kernel)) ggX2_deposit_X2_wouldBeTooGreat
set_option maxRecDepth 20000 in
theorem ggX2_deposit_X2_totalBlock : GoodIn wsX2_deposit wsX2_totalBlock := goodIn_r _ [48, 8, 65, 66, 67, 68, 69, 70, 71, 72, 73, 74, 75] (by decide +kernel) (by decide +kernel)
set_option maxRecDepth 20000 in
theorem gX2_deposit_X2_totalBlock : GoodIn wsX2_deposit (wsV RX2 91 RX2 yX2_totalBlock wsX2_totalBlock) := goodIn_app (goodIn_of _ (by decide +kernel)) ggX2_deposit_X2_totalBlock
set_option maxRecDepth 20000 in
theorem ggX2_deposit_X2_hasRoomFor : GoodIn wsX2_deposit wsX2_hasRoomFor := goodIn_r _ [52, 19, 53, 54, 55, 56, 57, 58, 59, 60, 65, 66, 67, 68, 69, 70, 71, 72, 73, 74, 75] (by decide +kernel) (by decide +kernel)
set_option maxRecDepth 20000 in
theorem gX2_deposit_X2_hasRoomFor : GoodIn wsX2_deposit (wsV RX2 95 RX2 yX2_hasRoomFor wsX2_hasRoomFor) := goodIn_app (goodIn_of _ (by decide +kernel)) ggX2_deposit_X2_hasRoomFor
set_option maxRecDepth 20000 in
theorem ggX2_deposit_X2_touch : GoodIn wsX2_deposit wsX2_touch := goodIn_r _ [64, 19, 20, 21, 22, 23, 6, 24, 25, 26, 27, 28, 29, 30, 31, 32, 33, 34, 35, 36, 37, 38, 39, 65, 66, 67, 68, 69, 70, 71, 72, 73, 74, 75, 78, 79, 80, 81, 82, 83, 76, 77] (by decide +kernel) (by decide +kernel)
set_option maxRecDepth 20000 in
theorem gX2_deposit_X2_touch : GoodIn wsX2_deposit (wsV RX2 99 RX2 yX2_touch wsX2_touch) := goodIn_app (goodIn_of _ (by decide +kernel)) ggX2_deposit_X2_touch
set_option maxRecDepth 20000 in
theorem ggX2_deposit_X1_increase : GoodIn wsX2_deposit wsX1_increase := goodIn_r _ [43, 30, 44, 31, 32, 33, 28, 34, 35, 36, 37, 38, 39, 76, 77] (by decide +kernel) (by decide +kernel)
set_option maxRecDepth 20000 in
theorem gX2_deposit_X1_increase : GoodIn wsX2_deposit (wsV RX2 103 RX1 yX1_increase wsX1_increase) := goodIn_app (goodIn_of _ (by decide +kernel)) ggX2_deposit_X1_increase
set_option maxRecDepth 20000 in
theorem ggX2_withdraw_X2_isAccount : GoodIn wsX2_withdraw wsX2_isAccount := goodIn_r _ [7, 8, 70, 71, 72, 73, 74, 75, 76, 77, 78, 79, 80] (by decide +kernel) (by decide +kernel)
set_option maxRecDepth 20000 in
theorem gX2_withdraw_X2_isAccount : GoodIn wsX2_withdraw (wsV RX2 84 RX2 yX2_isAccount wsX2_isAccount) := goodIn_app (goodIn_of _ (by decide +kernel)) ggX2_withdraw_X2_isAccount
set_option maxRecDepth 20000 in
theorem ggX2_withdraw_X2_isAmountAbove : GoodIn wsX2_withdraw wsX2_isAmountAbove := goodIn_r _ [12, 2, 13, 14, 15, 6, 16, 17, 18, 19, 20, 21, 22, 23, 24, 25, 26, 27, 28, 29, 30, 31, 32, 33, 34, 35, 36, 37, 70, 71, 72, 73, 74, 75, 76, 77, 78, 79, 80, 81, 82, 83, 84, 85, 86, 87, 88] (by decide +kernel) (by decide +kernel)
set_option maxRecDepth 20000 in
theorem gX2_withdraw_X2_isAmountAbove : GoodIn wsX2_withdraw (wsV RX2 107 RX2 yX2_isAmountAbove wsX2_isAmountAbove) := goodIn_app (goodIn_of _ (by decide +kernel)) ggX2_withdraw_X2_isAmountAbove
set_option maxRecDepth 20000 in
theorem ggX2_withdraw_X2_totalBlock : GoodIn wsX2_withdraw wsX2_totalBlock := goodIn_r _ [41, 8, 70, 71, 72, 73, 74, 75, 76, 77, 78, 79, 80] (by decide +kernel) (by decide +kernel)
set_option maxRecDepth 20000 in
theorem gX2_withdraw_X2_totalBlock : GoodIn wsX2_withdraw (wsV RX2 91 RX2 yX2_totalBlock wsX2_totalBlock) := goodIn_app (goodIn_of _ (by decide +kernel)) ggX2_withdraw_X2_totalBlock
set_option maxRecDepth 20000 in
theorem ggX2_withdraw_X2_hasRoomFor : GoodIn wsX2_withdraw wsX2_hasRoomFor := goodIn_r _ [45, 17, 46, 47, 48, 36, 49, 50, 51, 52, 70, 71, 72, 73, 74, 75, 76, 77, 78, 79, 80] (by decide +kernel) (by decide +kernel)
set_option maxRecDepth 20000 in
theorem gX2_withdraw_X2_hasRoomFor : GoodIn wsX2_withdraw (wsV RX2 95 RX2 yX2_hasRoomFor wsX2_hasRoomFor) := goodIn_app (goodIn_of _ (by decide +kernel)) ggX2_withdraw_X2_hasRoomFor
set_option maxRecDepth 20000 in
theorem ggX2_withdraw_X2_touch : GoodIn wsX2_withdraw wsX2_touch := goodIn_r _ [56, 17, 18, 19, 20, 21, 6, 22, 57, 58, 59, 26, 60, 28, 29, 30, 31, 32, 33, 61, 62, 63, 64, 70, 71, 72, 73, 74, 75, 76, 77, 78, 79, 80, 81, 82, 83, 84, 85, 86, 87, 88] (by decide +kernel) (by decide +kernel)
set_option maxRecDepth 20000 in
theorem gX2_withdraw_X2_touch : GoodIn wsX2_withdraw (wsV RX2 99 RX2 yX2_touch wsX2_touch) := goodIn_app (goodIn_of _ (by decide +kernel)) ggX2_withdraw_X2_touch
set_option maxRecDepth 20000 in
theorem ggX2_withdraw_X1_decrease : GoodIn wsX2_withdraw wsX1_decrease := goodIn_r _ [68, 28, 69, 29, 30, 31, 26, 32, 33, 61, 62, 63, 64, 87, 88] (by decide +kernel) (by decide +kernel)
set_option maxRecDepth 20000 in
theorem gX2_withdraw_X1_decrease : GoodIn wsX2_withdraw (wsV RX2 110 RX1 yX1_decrease wsX1_decrease) := goodIn_app (goodIn_of _ (by decide +kernel)) ggX2_withdraw_X1_decrease
set_option maxRecDepth 20000 in
theorem ggX2_transfer_X2_isAccount : GoodIn wsX2_transfer wsX2_isAccount := goodIn_r _ [7, 8, 76, 77, 78, 79, 80, 81, 82, 83, 84, 85, 86] (by decide +kernel) (by decide +kernel)
set_option maxRecDepth 20000 in
theorem gX2_transfer_X2_isAccount : GoodIn wsX2_transfer (wsV RX2 84 RX2 yX2_isAccount wsX2_isAccount) := goodIn_app (goodIn_of _ (by decide +kernel)) ggX2_transfer_X2_isAccount
set_option maxRecDepth 20000 in
theorem ggX2_transfer_X2_isAmountAbove : GoodIn wsX2_transfer wsX2_isAmountAbove := goodIn_r _ [12, 2, 13, 14, 15, 6, 16, 17, 18, 19, 20, 21, 22, 23, 24, 25, 26, 27, 28, 29, 30, 31, 32, 33, 34, 35, 36, 37, 76, 77, 78, 79, 80, 81, 82, 83, 84, 85, 86, 87, 88, 89, 90, 91, 92, 93, 94] (by decide +kernel) (by decide +kernel)
set_option maxRecDepth 20000 in
theorem gX2_transfer_X2_isAmountAbove : GoodIn wsX2_transfer (wsV RX2 107 RX2 yX2_isAmountAbove wsX2_isAmountAbove) := goodIn_app (goodIn_of _ (by decide +kernel)) ggX2_transfer_X2_isAmountAbove
set_option maxRecDepth 20000 in
theorem ggX2_transfer_X2_wouldBeTooGreat : GoodIn wsX2_transfer wsX2_wouldBeTooGreat := goodIn_r _ [41, 42, 2, 43, 13, 14, 15, 6, 16, 17, 18, 19, 20, 21, 22, 44, 45, 46, 26, 47, 28, 29, 30, 31, 32, 33, 48, 49, 50, 51, 52, 53, 54, 55, 56, 76, 77, 78, 79, 80, 81, 82, 83, 84, 85, 86, 93, 94, 87, 88, 89, 90, 91, 92] (by decide +kernel) (by decide +kernel)
set_option maxRecDepth 20000 in
theorem gX2_transfer_X2_wouldBeTooGreat : GoodIn wsX2_transfer (wsV RX2 88 RX2 yX2_wouldBeTooGreat wsX2_wouldBeTooGreat) := goodIn_app (goodIn_of _ (by decide +kernel)) ggX2_transfer_X2_wouldBeTooGreat
set_option maxRecDepth 20000 in
theorem ggX2_transfer_X2_hasRoomFor : GoodIn wsX2_transfer wsX2_hasRoomFor := goodIn_r _ [60, 17, 61, 62, 63, 36, 64, 65, 66, 67, 76, 77, 78, 79, 80, 81, 82, 83, 84, 85, 86] (by decide +kernel) (by decide +kernel)
set_option maxRecDepth 20000 in
theorem gX2_transfer_X2_hasRoomFor : GoodIn wsX2_transfer (wsV RX2 95 RX2 yX2_hasRoomFor wsX2_hasRoomFor) := goodIn_app (goodIn_of _ (by decide +kernel)) ggX2_transfer_X2_hasRoomFor
set_option maxRecDepth 20000 in
theorem ggX2_transfer_X2_touch : GoodIn wsX2_transfer wsX2_touch := goodIn_r _ [71, 17, 18, 19, 20, 21, 6, 22, 44, 45, 46, 26, 47, 28, 29, 30, 31, 32, 33, 48, 49, 50, 51, 76, 77, 78, 79, 80, 81, 82, 83, 84, 85, 86, 87, 88, 89, 90, 91, 92, 93, 94] (by decide +kernel) (by decide +kernel)
set_option maxRecDepth 20000 in
theorem gX2_transfer_X2_touch : GoodIn wsX2_transfer (wsV RX2 99 RX2 yX2_touch wsX2_touch) := goodIn_app (goodIn_of _ (by decide +kernel)) ggX2_transfer_X2_touch
set_option maxRecDepth 20000 in
theorem ggX2_transfer_X1_decrease : GoodIn wsX2_transfer wsX1_decrease := goodIn_r _ [75, 28, 56, 29, 30, 31, 26, 32, 33, 48, 49, 50, 51, 93, 94] (by decide +kernel) (by decide +kernel)
set_option maxRecDepth 20000 in
theorem gX2_transfer_X1_decrease : GoodIn wsX2_transfer (wsV RX2 110 RX1 yX1_decrease wsX1_decrease) := goodIn_app (goodIn_of _ (by decide +kernel)) ggX2_transfer_X1_decrease
set_option maxRecDepth 20000 in
theorem ggX2_transfer_X1_increase : GoodIn wsX2_transfer wsX1_increase := goodIn_r _ [55, 28, 56, 29, 30, 31, 26, 32, 33, 48, 49, 50, 51, 93, 94] (by decide +kernel) (by decide +kernel)
set_option maxRecDepth 20000 in
theorem gX2_transfer_X1_increase : GoodIn wsX2_transfer (wsV RX2 103 RX1 yX1_increase wsX1_increase) := goodIn_app (goodIn_of _ (by decide +kernel)) ggX2_transfer_X1_increase
set_option maxRecDepth 20000 in
theorem ggX2_part_X2_isAccount : GoodIn wsX2_part wsX2_isAccount := goodIn_r _ [7, 8, 43, 44, 45, 46, 47, 48, 49, 50, 51, 52, 53] (by decide +kernel) (by decide +kernel)
set_option maxRecDepth 20000 in
theorem gX2_part_X2_isAccount : GoodIn wsX2_part (wsV RX2 84 RX2 yX2_isAccount wsX2_isAccount) := goodIn_app (goodIn_of _ (by decide +kernel)) ggX2_part_X2_isAccount
set_option maxRecDepth 20000 in
theorem ggX2_part_X2_seen : GoodIn wsX2_part wsX2_seen := goodIn_r _ [12, 13, 14, 15, 16, 17, 6, 18, 43, 44, 45, 46, 47, 48, 49, 50, 51, 52, 53, 54, 55, 56, 57, 58, 59] (by decide +kernel) (by decide +kernel)
set_option maxRecDepth 20000 in
theorem gX2_part_X2_seen : GoodIn wsX2_part (wsV RX2 113 RX2 yX2_seen wsX2_seen) := goodIn_app (goodIn_of _ (by decide +kernel)) ggX2_part_X2_seen
set_option maxRecDepth 20000 in
theorem ggX2_part_X1_setTo : GoodIn wsX2_part wsX1_setTo := goodIn_r _ [23, 24, 25, 26, 27, 22, 28, 29, 30, 31, 32, 33, 60, 61] (by decide +kernel) (by decide +kernel)
set_option maxRecDepth 20000 in
theorem gX2_part_X1_setTo : GoodIn wsX2_part (wsV RX2 116 RX1 yX1_setTo wsX1_setTo) := goodIn_app (goodIn_of _ (by decide +kernel)) ggX2_part_X1_setTo
set_option maxRecDepth 20000 in
theorem ggX2_part_X1_multiply : GoodIn wsX2_part wsX1_multiply := goodIn_r _ [37, 24, 38, 30, 31, 32, 22, 33, 29, 60, 61] (by decide +kernel) (by decide +kernel)
set_option maxRecDepth 20000 in
theorem gX2_part_X1_multiply : GoodIn wsX2_part (wsV RX2 119 RX1 yX1_multiply wsX1_multiply) := goodIn_app (goodIn_of _ (by decide +kernel)) ggX2_part_X1_multiply
set_option maxRecDepth 20000 in
theorem ggX2_part_X1_divide : GoodIn wsX2_part wsX1_divide := goodIn_r _ [42, 24, 30, 31, 32, 22, 33, 29, 60, 61] (by decide +kernel) (by decide +kernel)
set_option maxRecDepth 20000 in
theorem gX2_part_X1_divide : GoodIn wsX2_part (wsV RX2 122 RX1 yX1_divide wsX1_divide) := goodIn_app (goodIn_of _ (by decide +kernel)) ggX2_part_X1_divide
set_option maxRecDepth 20000 in
theorem ggX2_commit_X0_bringThroughLog : GoodIn wsX2_commit wsX0_bringThroughLog := goodIn_r _ [9, 10, 11, 12, 13, 8, 14, 15, 16, 17, 18, 19, 20, 21, 22, 23, 24, 25, 26, 27, 28, 29, 30, 31, 32, 33, 34, 35, 36, 37, 38, 39, 40, 41, 42, 43, 44, 45, 46, 47, 48, 73, 74, 75, 76, 77, 78, 79, 80] (by decide +kernel) (by decide +kernel)
set_option maxRecDepth 20000 in
theorem gX2_commit_X0_bringThroughLog : GoodIn wsX2_commit (wsV RX2 129 RX0 yX0_bringThroughLog wsX0_bringThroughLog) := goodIn_app (goodIn_of _ (by decide +kernel)) ggX2_commit_X0_bringThroughLog
set_option maxRecDepth 20000 in
theorem ggX2_commit_X2_loseMemory : GoodIn wsX2_commit wsX2_loseMemory := goodIn_r _ [52, 53, 54, 55, 56, 16, 57, 3, 58, 59, 60, 27, 61, 29, 34, 62, 63, 64, 65, 66, 67, 68, 69, 70, 71, 72, 79, 80] (by decide +kernel) (by decide +kernel)
set_option maxRecDepth 20000 in
theorem gX2_commit_X2_loseMemory : GoodIn wsX2_commit (wsV RX2 64 RX2 yX2_loseMemory wsX2_loseMemory) := goodIn_app (goodIn_of _ (by decide +kernel)) ggX2_commit_X2_loseMemory
set_option maxRecDepth 20000 in
theorem ggX2_commit_X2_dropPending : GoodIn wsX2_commit wsX2_dropPending := goodIn_r _ [57, 3, 62, 63, 64, 65, 66, 67, 68, 69, 70, 71, 72] (by decide +kernel) (by decide +kernel)
set_option maxRecDepth 20000 in
theorem gX2_commit_X2_dropPending : GoodIn wsX2_commit (wsV RX2 133 RX2 yX2_dropPending wsX2_dropPending) := goodIn_app (goodIn_of _ (by decide +kernel)) ggX2_commit_X2_dropPending
set_option maxRecDepth 20000 in
theorem ggX2_abort_X2_dropPending : GoodIn wsX2_abort wsX2_dropPending := goodIn_r _ [6, 7, 8, 9, 10, 11, 12, 13, 14, 15, 16, 17, 18] (by decide +kernel) (by decide +kernel)
set_option maxRecDepth 20000 in
theorem gX2_abort_X2_dropPending : GoodIn wsX2_abort (wsV RX2 133 RX2 yX2_dropPending wsX2_dropPending) := goodIn_app (goodIn_of _ (by decide +kernel)) ggX2_abort_X2_dropPending
set_option maxRecDepth 20000 in
theorem ggX2_balanceSize_X2_isAccount : GoodIn wsX2_balanceSize wsX2_isAccount := goodIn_r _ [6, 7, 18, 19, 20, 21, 22, 23, 24, 25, 26, 27, 28] (by decide +kernel) (by decide +kernel)
set_option maxRecDepth 20000 in
theorem gX2_balanceSize_X2_isAccount : GoodIn wsX2_balanceSize (wsV RX2 84 RX2 yX2_isAccount wsX2_isAccount) := goodIn_app (goodIn_of _ (by decide +kernel)) ggX2_balanceSize_X2_isAccount
set_option maxRecDepth 20000 in
theorem ggX2_balanceSize_X2_seen : GoodIn wsX2_balanceSize wsX2_seen := goodIn_r _ [11, 12, 13, 14, 15, 16, 5, 17, 18, 19, 20, 21, 22, 23, 24, 25, 26, 27, 28, 31, 32, 33, 34, 35, 36] (by decide +kernel) (by decide +kernel)
set_option maxRecDepth 20000 in
theorem gX2_balanceSize_X2_seen : GoodIn wsX2_balanceSize (wsV RX2 113 RX2 yX2_seen wsX2_seen) := goodIn_app (goodIn_of _ (by decide +kernel)) ggX2_balanceSize_X2_seen
set_option maxRecDepth 20000 in
theorem ggX2_balanceLimb_X2_isAccount : GoodIn wsX2_balanceLimb wsX2_isAccount := goodIn_r _ [6, 7, 25, 26, 27, 28, 29, 30, 31, 32, 33, 34, 35] (by decide +kernel) (by decide +kernel)
set_option maxRecDepth 20000 in
theorem gX2_balanceLimb_X2_isAccount : GoodIn wsX2_balanceLimb (wsV RX2 84 RX2 yX2_isAccount wsX2_isAccount) := goodIn_app (goodIn_of _ (by decide +kernel)) ggX2_balanceLimb_X2_isAccount
set_option maxRecDepth 20000 in
theorem ggX2_balanceLimb_X2_seen : GoodIn wsX2_balanceLimb wsX2_seen := goodIn_r _ [11, 12, 13, 14, 15, 16, 5, 17, 25, 26, 27, 28, 29, 30, 31, 32, 33, 34, 35, 36, 37, 38, 39, 40, 41] (by decide +kernel) (by decide +kernel)
set_option maxRecDepth 20000 in
theorem gX2_balanceLimb_X2_seen : GoodIn wsX2_balanceLimb (wsV RX2 113 RX2 yX2_seen wsX2_seen) := goodIn_app (goodIn_of _ (by decide +kernel)) ggX2_balanceLimb_X2_seen
set_option maxRecDepth 20000 in
theorem ggX2_balanceLimb_X1_limbAt : GoodIn wsX2_balanceLimb wsX1_limbAt := goodIn_r _ [22, 23, 24, 42, 43] (by decide +kernel) (by decide +kernel)
set_option maxRecDepth 20000 in
theorem gX2_balanceLimb_X1_limbAt : GoodIn wsX2_balanceLimb (wsV RX2 136 RX1 yX1_limbAt wsX1_limbAt) := goodIn_app (goodIn_of _ (by decide +kernel)) ggX2_balanceLimb_X1_limbAt
set_option maxRecDepth 20000 in
theorem ggX2_totalLimb_X2_totalBlock : GoodIn wsX2_totalLimb wsX2_totalBlock := goodIn_r _ [6, 7, 25, 26, 27, 28, 29, 30, 31, 32, 33, 34, 35] (by decide +kernel) (by decide +kernel)
set_option maxRecDepth 20000 in
theorem gX2_totalLimb_X2_totalBlock : GoodIn wsX2_totalLimb (wsV RX2 91 RX2 yX2_totalBlock wsX2_totalBlock) := goodIn_app (goodIn_of _ (by decide +kernel)) ggX2_totalLimb_X2_totalBlock
set_option maxRecDepth 20000 in
theorem ggX2_totalLimb_X2_seen : GoodIn wsX2_totalLimb wsX2_seen := goodIn_r _ [11, 12, 13, 14, 15, 16, 5, 17, 25, 26, 27, 28, 29, 30, 31, 32, 33, 34, 35, 36, 37, 38, 39, 40, 41] (by decide +kernel) (by decide +kernel)
set_option maxRecDepth 20000 in
theorem gX2_totalLimb_X2_seen : GoodIn wsX2_totalLimb (wsV RX2 113 RX2 yX2_seen wsX2_seen) := goodIn_app (goodIn_of _ (by decide +kernel)) ggX2_totalLimb_X2_seen
set_option maxRecDepth 20000 in
theorem ggX2_totalLimb_X1_limbAt : GoodIn wsX2_totalLimb wsX1_limbAt := goodIn_r _ [22, 23, 24, 42, 43] (by decide +kernel) (by decide +kernel)
set_option maxRecDepth 20000 in
theorem gX2_totalLimb_X1_limbAt : GoodIn wsX2_totalLimb (wsV RX2 136 RX1 yX1_limbAt wsX1_limbAt) := goodIn_app (goodIn_of _ (by decide +kernel)) ggX2_totalLimb_X1_limbAt
set_option maxRecDepth 20000 in
theorem ggX2_amount_X1_limbAt : GoodIn wsX2_amount wsX1_limbAt := goodIn_r _ [7, 8, 9, 21, 22] (by decide +kernel) (by decide +kernel)
set_option maxRecDepth 20000 in
theorem gX2_amount_X1_limbAt : GoodIn wsX2_amount (wsV RX2 136 RX1 yX1_limbAt wsX1_limbAt) := goodIn_app (goodIn_of _ (by decide +kernel)) ggX2_amount_X1_limbAt
set_option maxRecDepth 20000 in
theorem ggX2_compare_X2_isAccount : GoodIn wsX2_compare wsX2_isAccount := goodIn_r _ [6, 7, 33, 34, 35, 36, 37, 38, 39, 40, 41, 42, 43] (by decide +kernel) (by decide +kernel)
set_option maxRecDepth 20000 in
theorem gX2_compare_X2_isAccount : GoodIn wsX2_compare (wsV RX2 84 RX2 yX2_isAccount wsX2_isAccount) := goodIn_app (goodIn_of _ (by decide +kernel)) ggX2_compare_X2_isAccount
set_option maxRecDepth 20000 in
theorem ggX2_compare_X2_seen : GoodIn wsX2_compare wsX2_seen := goodIn_r _ [11, 12, 13, 14, 15, 16, 5, 17, 33, 34, 35, 36, 37, 38, 39, 40, 41, 42, 43, 44, 45, 46, 47, 48, 49] (by decide +kernel) (by decide +kernel)
set_option maxRecDepth 20000 in
theorem gX2_compare_X2_seen : GoodIn wsX2_compare (wsV RX2 113 RX2 yX2_seen wsX2_seen) := goodIn_app (goodIn_of _ (by decide +kernel)) ggX2_compare_X2_seen
set_option maxRecDepth 20000 in
theorem ggX2_compare_X1_standingTo : GoodIn wsX2_compare wsX1_standingTo := goodIn_r _ [22, 23, 24, 25, 26, 21, 27, 28, 29, 30, 31, 32, 50, 51] (by decide +kernel) (by decide +kernel)
set_option maxRecDepth 20000 in
theorem gX2_compare_X1_standingTo : GoodIn wsX2_compare (wsV RX2 139 RX1 yX1_standingTo wsX1_standingTo) := goodIn_app (goodIn_of _ (by decide +kernel)) ggX2_compare_X1_standingTo
set_option maxRecDepth 20000 in
theorem ggX2_recover_X2_loseMemory : GoodIn wsX2_recover wsX2_loseMemory := goodIn_r _ [7, 8, 9, 10, 11, 6, 12, 13, 14, 15, 16, 17, 18, 19, 20, 57, 58, 59, 60, 61, 62, 63, 64, 65, 66, 67, 74, 75] (by decide +kernel) (by decide +kernel)
set_option maxRecDepth 20000 in
theorem gX2_recover_X2_loseMemory : GoodIn wsX2_recover (wsV RX2 64 RX2 yX2_loseMemory wsX2_loseMemory) := goodIn_app (goodIn_of _ (by decide +kernel)) ggX2_recover_X2_loseMemory
set_option maxRecDepth 20000 in
theorem ggX2_recover_X0_bringLogHome : GoodIn wsX2_recover wsX0_bringLogHome := goodIn_r _ [25, 26, 27, 28, 29, 30, 31, 24, 32, 33, 6, 34, 35, 36, 37, 38, 39, 40, 41, 42, 43, 17, 44, 19, 45, 46, 47, 48, 20, 49, 50, 51, 52, 53, 54, 55, 56, 68, 69, 70, 71, 72, 73, 74, 75] (by decide +kernel) (by decide +kernel)
set_option maxRecDepth 20000 in
theorem gX2_recover_X0_bringLogHome : GoodIn wsX2_recover (wsV RX2 149 RX0 yX0_bringLogHome wsX0_bringLogHome) := goodIn_app (goodIn_of _ (by decide +kernel)) ggX2_recover_X0_bringLogHome
set_option maxRecDepth 20000 in
theorem ggX2_write_X2_isAccount : GoodIn wsX2_write wsX2_isAccount := goodIn_r _ [9, 10, 40, 41, 42, 43, 44, 45, 46, 47, 48, 49, 50] (by decide +kernel) (by decide +kernel)
set_option maxRecDepth 20000 in
theorem gX2_write_X2_isAccount : GoodIn wsX2_write (wsV RX2 84 RX2 yX2_isAccount wsX2_isAccount) := goodIn_app (goodIn_of _ (by decide +kernel)) ggX2_write_X2_isAccount
set_option maxRecDepth 20000 in
theorem ggX2_write_X2_seen : GoodIn wsX2_write wsX2_seen := goodIn_r _ [14, 15, 16, 17, 18, 19, 8, 20, 40, 41, 42, 43, 44, 45, 46, 47, 48, 49, 50, 53, 54, 55, 56, 57, 58] (by decide +kernel) (by decide +kernel)
set_option maxRecDepth 20000 in
theorem gX2_write_X2_seen : GoodIn wsX2_write (wsV RX2 113 RX2 yX2_seen wsX2_seen) := goodIn_app (goodIn_of _ (by decide +kernel)) ggX2_write_X2_seen
set_option maxRecDepth 20000 in
theorem ggX2_write_X1_setTo : GoodIn wsX2_write wsX1_setTo := goodIn_r _ [25, 26, 27, 28, 29, 24, 30, 31, 32, 33, 34, 35, 51, 52] (by decide +kernel) (by decide +kernel)
set_option maxRecDepth 20000 in
theorem gX2_write_X1_setTo : GoodIn wsX2_write (wsV RX2 116 RX1 yX1_setTo wsX1_setTo) := goodIn_app (goodIn_of _ (by decide +kernel)) ggX2_write_X1_setTo
set_option maxRecDepth 20000 in
theorem ggX2_write_X1_divide : GoodIn wsX2_write wsX1_divide := goodIn_r _ [39, 26, 32, 33, 34, 24, 35, 31, 51, 52] (by decide +kernel) (by decide +kernel)
set_option maxRecDepth 20000 in
theorem gX2_write_X1_divide : GoodIn wsX2_write (wsV RX2 122 RX1 yX1_divide wsX1_divide) := goodIn_app (goodIn_of _ (by decide +kernel)) ggX2_write_X1_divide
set_option maxRecDepth 20000 in
theorem ggX2_count_J6_bitCount_0f7a4 : GoodIn wsX2_count wsJ6_bitCount_0f7a4 := goodIn_r _ [11, 12, 13, 14] (by decide +kernel) (by decide +kernel)
set_option maxRecDepth 20000 in
theorem gX2_count_J6_bitCount_0f7a4 : GoodIn wsX2_count (va_wsS RX2 165 yJ6_bitCount_0f7a4 wsJ6_bitCount_0f7a4) := goodIn_app (goodIn_of _ (by decide +kernel)) ggX2_count_J6_bitCount_0f7a4
set_option maxRecDepth 20000 in
theorem ggX2_count_X2_totalBlock : GoodIn wsX2_count wsX2_totalBlock := goodIn_r _ [19, 1, 28, 29, 30, 31, 32, 33, 34, 35, 36, 37, 38] (by decide +kernel) (by decide +kernel)
set_option maxRecDepth 20000 in
theorem gX2_count_X2_totalBlock : GoodIn wsX2_count (wsV RX2 91 RX2 yX2_totalBlock wsX2_totalBlock) := goodIn_app (goodIn_of _ (by decide +kernel)) ggX2_count_X2_totalBlock
set_option maxRecDepth 20000 in
theorem ggX2_count_X2_seen : GoodIn wsX2_count wsX2_seen := goodIn_r _ [23, 6, 24, 4, 25, 26, 18, 27, 28, 29, 30, 31, 32, 33, 34, 35, 36, 37, 38, 39, 40, 41, 42, 43, 44] (by decide +kernel) (by decide +kernel)
set_option maxRecDepth 20000 in
theorem gX2_count_X2_seen : GoodIn wsX2_count (wsV RX2 113 RX2 yX2_seen wsX2_seen) := goodIn_app (goodIn_of _ (by decide +kernel)) ggX2_count_X2_seen
set_option maxRecDepth 20000 in
theorem ggX2_seen_X2_has : GoodIn wsX2_seen wsX2_has := goodIn_r _ [7] (by decide +kernel) (by decide +kernel)
set_option maxRecDepth 20000 in
theorem gX2_seen_X2_has : GoodIn wsX2_seen (va_wsS RX2 170 yX2_has wsX2_has) := goodIn_app (goodIn_of _ (by decide +kernel)) ggX2_seen_X2_has
set_option maxRecDepth 20000 in
theorem ggX2_touch_X2_has : GoodIn wsX2_touch wsX2_has := goodIn_r _ [7] (by decide +kernel) (by decide +kernel)
set_option maxRecDepth 20000 in
theorem gX2_touch_X2_has : GoodIn wsX2_touch (va_wsS RX2 170 yX2_has wsX2_has) := goodIn_app (goodIn_of _ (by decide +kernel)) ggX2_touch_X2_has
set_option maxRecDepth 20000 in
theorem ggX2_touch_X1_setTo : GoodIn wsX2_touch wsX1_setTo := goodIn_r _ [12, 13, 14, 15, 16, 11, 17, 18, 19, 20, 21, 22, 40, 41] (by decide +kernel) (by decide +kernel)
set_option maxRecDepth 20000 in
theorem gX2_touch_X1_setTo : GoodIn wsX2_touch (wsV RX2 116 RX1 yX1_setTo wsX1_setTo) := goodIn_app (goodIn_of _ (by decide +kernel)) ggX2_touch_X1_setTo
set_option maxRecDepth 20000 in
theorem ggX2_hasRoomFor_J6_bitCount_0f7a4 : GoodIn wsX2_hasRoomFor wsJ6_bitCount_0f7a4 := goodIn_r _ [6, 7, 8, 9] (by decide +kernel) (by decide +kernel)
set_option maxRecDepth 20000 in
theorem gX2_hasRoomFor_J6_bitCount_0f7a4 : GoodIn wsX2_hasRoomFor (va_wsS RX2 165 yJ6_bitCount_0f7a4 wsJ6_bitCount_0f7a4) := goodIn_app (goodIn_of _ (by decide +kernel)) ggX2_hasRoomFor_J6_bitCount_0f7a4
set_option maxRecDepth 20000 in
theorem ggX2_isAmountAbove_X2_seen : GoodIn wsX2_isAmountAbove wsX2_seen := goodIn_r _ [6, 7, 8, 9, 10, 11, 5, 12, 28, 29, 30, 31, 32, 33, 34, 35, 36, 37, 38, 39, 40, 41, 42, 43, 44] (by decide +kernel) (by decide +kernel)
set_option maxRecDepth 20000 in
theorem gX2_isAmountAbove_X2_seen : GoodIn wsX2_isAmountAbove (wsV RX2 113 RX2 yX2_seen wsX2_seen) := goodIn_app (goodIn_of _ (by decide +kernel)) ggX2_isAmountAbove_X2_seen
set_option maxRecDepth 20000 in
theorem ggX2_isAmountAbove_X1_standingTo : GoodIn wsX2_isAmountAbove wsX1_standingTo := goodIn_r _ [17, 18, 19, 20, 21, 16, 22, 23, 24, 25, 26, 27, 45, 46] (by decide +kernel) (by decide +kernel)
set_option maxRecDepth 20000 in
theorem gX2_isAmountAbove_X1_standingTo : GoodIn wsX2_isAmountAbove (wsV RX2 139 RX1 yX1_standingTo wsX1_standingTo) := goodIn_app (goodIn_of _ (by decide +kernel)) ggX2_isAmountAbove_X1_standingTo
set_option maxRecDepth 20000 in
theorem ggX2_wouldBeTooGreat_X2_seen : GoodIn wsX2_wouldBeTooGreat wsX2_seen := goodIn_r _ [8, 9, 10, 11, 12, 13, 7, 14, 35, 36, 37, 38, 39, 40, 41, 42, 43, 44, 45, 48, 49, 50, 51, 52, 53] (by decide +kernel) (by decide +kernel)
set_option maxRecDepth 20000 in
theorem gX2_wouldBeTooGreat_X2_seen : GoodIn wsX2_wouldBeTooGreat (wsV RX2 113 RX2 yX2_seen wsX2_seen) := goodIn_app (goodIn_of _ (by decide +kernel)) ggX2_wouldBeTooGreat_X2_seen
set_option maxRecDepth 20000 in
theorem ggX2_wouldBeTooGreat_X1_setTo : GoodIn wsX2_wouldBeTooGreat wsX1_setTo := goodIn_r _ [19, 20, 21, 22, 23, 18, 24, 25, 26, 27, 28, 29, 46, 47] (by decide +kernel) (by decide +kernel)
set_option maxRecDepth 20000 in
theorem gX2_wouldBeTooGreat_X1_setTo : GoodIn wsX2_wouldBeTooGreat (wsV RX2 116 RX1 yX1_setTo wsX1_setTo) := goodIn_app (goodIn_of _ (by decide +kernel)) ggX2_wouldBeTooGreat_X1_setTo
set_option maxRecDepth 20000 in
theorem ggX2_wouldBeTooGreat_X1_increase : GoodIn wsX2_wouldBeTooGreat wsX1_increase := goodIn_r _ [33, 20, 34, 21, 22, 23, 18, 24, 25, 26, 27, 28, 29, 46, 47] (by decide +kernel) (by decide +kernel)
set_option maxRecDepth 20000 in
theorem gX2_wouldBeTooGreat_X1_increase : GoodIn wsX2_wouldBeTooGreat (wsV RX2 103 RX1 yX1_increase wsX1_increase) := goodIn_app (goodIn_of _ (by decide +kernel)) ggX2_wouldBeTooGreat_X1_increase
set_option maxRecDepth 20000 in
theorem ggX2_loseMemory_X2_dropPending : GoodIn wsX2_loseMemory wsX2_dropPending := goodIn_r _ [6, 7, 15, 16, 17, 18, 19, 20, 21, 22, 23, 24, 25] (by decide +kernel) (by decide +kernel)
set_option maxRecDepth 20000 in
theorem gX2_loseMemory_X2_dropPending : GoodIn wsX2_loseMemory (wsV RX2 133 RX2 yX2_dropPending wsX2_dropPending) := goodIn_app (goodIn_of _ (by decide +kernel)) ggX2_loseMemory_X2_dropPending
set_option maxRecDepth 20000 in
theorem ggX2_loseMemory_X1_setZero : GoodIn wsX2_loseMemory wsX1_setZero := goodIn_r _ [12, 13, 14, 26, 27] (by decide +kernel) (by decide +kernel)
set_option maxRecDepth 20000 in
theorem gX2_loseMemory_X1_setZero : GoodIn wsX2_loseMemory (wsV RX2 81 RX1 yX1_setZero wsX1_setZero) := goodIn_app (goodIn_of _ (by decide +kernel)) ggX2_loseMemory_X1_setZero
set_option maxRecDepth 20000 in
theorem ggX3_down_X3_forget : GoodIn wsX3_down wsX3_forget := goodIn_r _ [6, 7, 8, 9, 10, 11, 12, 13, 14, 15, 16, 17, 18, 19, 20, 21, 22, 23, 24, 25, 26, 27, 28] (by decide +kernel) (by decide +kernel)
set_option maxRecDepth 20000 in
theorem gX3_down_X3_forget : GoodIn wsX3_down (wsV RX3 56 RX3 yX3_forget wsX3_forget) := goodIn_app (goodIn_of _ (by decide +kernel)) ggX3_down_X3_forget
set_option maxRecDepth 20000 in
theorem ggX3_writes_X3_down : GoodIn wsX3_writes wsX3_down := goodIn_r _ [7, 8, 9, 10, 11, 6, 12, 13, 14, 15, 16, 17, 18, 19, 20, 21, 22, 23, 24, 25, 26, 27, 28, 29, 30, 31, 32, 33, 34] (by decide +kernel) (by decide +kernel)
set_option maxRecDepth 20000 in
theorem gX3_writes_X3_down : GoodIn wsX3_writes (wsV RX3 59 RX3 yX3_down wsX3_down) := goodIn_app (goodIn_of _ (by decide +kernel)) ggX3_writes_X3_down
set_option maxRecDepth 20000 in
theorem ggX3_emptyLog_X3_writes : GoodIn wsX3_emptyLog wsX3_writes := goodIn_r _ [6, 7, 8, 9, 10, 11, 5, 12, 13, 14, 15, 16, 17, 18, 19, 20, 21, 22, 23, 24, 25, 26, 27, 28, 29, 30, 31, 32, 33, 34, 35, 36, 37, 38, 39] (by decide +kernel) (by decide +kernel)
set_option maxRecDepth 20000 in
theorem gX3_emptyLog_X3_writes : GoodIn wsX3_emptyLog (wsV RX3 65 RX3 yX3_writes wsX3_writes) := goodIn_app (goodIn_of _ (by decide +kernel)) ggX3_emptyLog_X3_writes
set_option maxRecDepth 20000 in
theorem ggX3_goHome_X3_writes : GoodIn wsX3_goHome wsX3_writes := goodIn_r _ [8, 9, 10, 11, 12, 13, 7, 14, 15, 16, 17, 18, 19, 20, 21, 22, 2, 28, 29, 30, 31, 32, 33, 34, 35, 36, 37, 38, 39, 40, 41, 42, 43, 44, 45] (by decide +kernel) (by decide +kernel)
set_option maxRecDepth 20000 in
theorem gX3_goHome_X3_writes : GoodIn wsX3_goHome (wsV RX3 65 RX3 yX3_writes wsX3_writes) := goodIn_app (goodIn_of _ (by decide +kernel)) ggX3_goHome_X3_writes
set_option maxRecDepth 20000 in
theorem ggX3_goHome_X3_emptyLog : GoodIn wsX3_goHome wsX3_emptyLog := goodIn_r _ [26, 27, 4, 5, 6, 7, 8, 9, 10, 11, 12, 13, 14, 15, 16, 17, 18, 19, 20, 21, 22, 2, 28, 29, 30, 31, 32, 33, 34, 35, 36, 37, 38, 39, 40, 41, 42, 43, 44, 45] (by decide +kernel) (by decide +kernel)
set_option maxRecDepth 20000 in
theorem gX3_goHome_X3_emptyLog : GoodIn wsX3_goHome (wsV RX3 71 RX3 yX3_emptyLog wsX3_emptyLog) := goodIn_app (goodIn_of _ (by decide +kernel)) ggX3_goHome_X3_emptyLog
set_option maxRecDepth 20000 in
theorem ggX3_format_X3_writes : GoodIn wsX3_format wsX3_writes := goodIn_r _ [10, 11, 12, 13, 14, 15, 9, 16, 5, 17, 18, 19, 20, 21, 22, 23, 4, 29, 30, 31, 32, 33, 34, 35, 36, 37, 38, 39, 40, 41, 42, 43, 44, 45, 46] (by decide +kernel) (by decide +kernel)
set_option maxRecDepth 20000 in
theorem gX3_format_X3_writes : GoodIn wsX3_format (wsV RX3 65 RX3 yX3_writes wsX3_writes) := goodIn_app (goodIn_of _ (by decide +kernel)) ggX3_format_X3_writes
set_option maxRecDepth 20000 in
theorem ggX3_format_X3_emptyLog : GoodIn wsX3_format wsX3_emptyLog := goodIn_r _ [27, 28, 6, 7, 8, 9, 10, 11, 12, 13, 14, 15, 16, 5, 17, 18, 19, 20, 21, 22, 23, 4, 29, 30, 31, 32, 33, 34, 35, 36, 37, 38, 39, 40, 41, 42, 43, 44, 45, 46] (by decide +kernel) (by decide +kernel)
set_option maxRecDepth 20000 in
theorem gX3_format_X3_emptyLog : GoodIn wsX3_format (wsV RX3 71 RX3 yX3_emptyLog wsX3_emptyLog) := goodIn_app (goodIn_of _ (by decide +kernel)) ggX3_format_X3_emptyLog
set_option maxRecDepth 20000 in
theorem ggX3_format_X3_forget : GoodIn wsX3_format wsX3_forget := goodIn_r _ [20, 21, 22, 23, 4, 29, 30, 31, 32, 33, 34, 35, 36, 37, 38, 39, 40, 41, 42, 43, 44, 45, 46] (by decide +kernel) (by decide +kernel)
set_option maxRecDepth 20000 in
theorem gX3_format_X3_forget : GoodIn wsX3_format (wsV RX3 56 RX3 yX3_forget wsX3_forget) := goodIn_app (goodIn_of _ (by decide +kernel)) ggX3_format_X3_forget
set_option maxRecDepth 20000 in
theorem ggX3_commit_X3_touches : GoodIn wsX3_commit wsX3_touches := goodIn_r _ [12, 4, 37, 38, 39, 40, 41, 42, 43, 44, 45, 46, 47, 48, 49, 50, 51, 52, 53, 54] (by decide +kernel) (by decide +kernel)
set_option maxRecDepth 20000 in
theorem gX3_commit_X3_touches : GoodIn wsX3_commit (wsV RX3 77 RX3 yX3_touches wsX3_touches) := goodIn_app (goodIn_of _ (by decide +kernel)) ggX3_commit_X3_touches
set_option maxRecDepth 20000 in
theorem ggX3_commit_X3_writes : GoodIn wsX3_commit wsX3_writes := goodIn_r _ [16, 17, 18, 19, 20, 21, 11, 22, 2, 23, 24, 25, 26, 27, 4, 6, 28, 37, 38, 39, 40, 41, 42, 43, 44, 45, 46, 47, 48, 49, 50, 51, 52, 53, 54] (by decide +kernel) (by decide +kernel)
set_option maxRecDepth 20000 in
theorem gX3_commit_X3_writes : GoodIn wsX3_commit (wsV RX3 65 RX3 yX3_writes wsX3_writes) := goodIn_app (goodIn_of _ (by decide +kernel)) ggX3_commit_X3_writes
set_option maxRecDepth 20000 in
theorem ggX3_commit_X3_goHome : GoodIn wsX3_commit wsX3_goHome := goodIn_r _ [32, 3, 28, 5, 13, 14, 15, 11, 16, 17, 18, 19, 20, 21, 22, 2, 23, 24, 25, 26, 27, 4, 6, 33, 34, 35, 36, 7, 37, 38, 39, 40, 41, 42, 43, 44, 45, 46, 47, 48, 49, 50, 51, 52, 53, 54] (by decide +kernel) (by decide +kernel)
set_option maxRecDepth 20000 in
theorem gX3_commit_X3_goHome : GoodIn wsX3_commit (wsV RX3 81 RX3 yX3_goHome wsX3_goHome) := goodIn_app (goodIn_of _ (by decide +kernel)) ggX3_commit_X3_goHome
set_option maxRecDepth 20000 in
theorem ggX3_recover_X3_down : GoodIn wsX3_recover wsX3_down := goodIn_r _ [9, 4, 10, 11, 12, 8, 13, 14, 15, 16, 17, 34, 35, 36, 37, 38, 39, 40, 41, 42, 43, 44, 45, 46, 47, 48, 49, 50, 51] (by decide +kernel) (by decide +kernel)
set_option maxRecDepth 20000 in
theorem gX3_recover_X3_down : GoodIn wsX3_recover (wsV RX3 59 RX3 yX3_down wsX3_down) := goodIn_app (goodIn_of _ (by decide +kernel)) ggX3_recover_X3_down
set_option maxRecDepth 20000 in
theorem ggX3_recover_X3_goHome : GoodIn wsX3_recover wsX3_goHome := goodIn_r _ [21, 22, 17, 23, 24, 25, 26, 8, 27, 28, 29, 5, 6, 7, 9, 4, 10, 11, 12, 13, 14, 15, 16, 30, 31, 32, 33, 3, 34, 35, 36, 37, 38, 39, 40, 41, 42, 43, 44, 45, 46, 47, 48, 49, 50, 51] (by decide +kernel) (by decide +kernel)
set_option maxRecDepth 20000 in
theorem gX3_recover_X3_goHome : GoodIn wsX3_recover (wsV RX3 81 RX3 yX3_goHome wsX3_goHome) := goodIn_app (goodIn_of _ (by decide +kernel)) ggX3_recover_X3_goHome
set_option maxRecDepth 20000 in
theorem ggX3_recover_X3_forget : GoodIn wsX3_recover wsX3_forget := goodIn_r _ [13, 14, 15, 16, 17, 34, 35, 36, 37, 38, 39, 40, 41, 42, 43, 44, 45, 46, 47, 48, 49, 50, 51] (by decide +kernel) (by decide +kernel)
set_option maxRecDepth 20000 in
theorem gX3_recover_X3_forget : GoodIn wsX3_recover (wsV RX3 56 RX3 yX3_forget wsX3_forget) := goodIn_app (goodIn_of _ (by decide +kernel)) ggX3_recover_X3_forget
set_option maxRecDepth 20000 in
theorem ggX3_isFull_X3_touches : GoodIn wsX3_isFull wsX3_touches := goodIn_r _ [7, 1, 8, 9, 10, 11, 12, 13, 14, 15, 16, 17, 18, 19, 20, 21, 22, 23, 24, 25] (by decide +kernel) (by decide +kernel)
set_option maxRecDepth 20000 in
theorem gX3_isFull_X3_touches : GoodIn wsX3_isFull (wsV RX3 77 RX3 yX3_touches wsX3_touches) := goodIn_app (goodIn_of _ (by decide +kernel)) ggX3_isFull_X3_touches
set_option maxRecDepth 20000 in
theorem ggX3_deposit_X3_no : GoodIn wsX3_deposit wsX3_no := goodIn_r _ [8, 9, 32, 33, 34, 35, 36, 37, 38, 39, 40, 41, 42, 43, 44, 45, 46, 47, 48, 49] (by decide +kernel) (by decide +kernel)
set_option maxRecDepth 20000 in
theorem gX3_deposit_X3_no : GoodIn wsX3_deposit (wsV RX3 88 RX3 yX3_no wsX3_no) := goodIn_app (goodIn_of _ (by decide +kernel)) ggX3_deposit_X3_no
set_option maxRecDepth 20000 in
theorem ggX3_deposit_X3_isGreat : GoodIn wsX3_deposit wsX3_isGreat := goodIn_r _ [13, 14, 15, 16, 17, 32, 33, 34, 35, 36, 37, 38, 39, 40, 41, 42, 43, 44, 45, 46, 47, 48, 49] (by decide +kernel) (by decide +kernel)
set_option maxRecDepth 20000 in
theorem gX3_deposit_X3_isGreat : GoodIn wsX3_deposit (wsV RX3 92 RX3 yX3_isGreat wsX3_isGreat) := goodIn_app (goodIn_of _ (by decide +kernel)) ggX3_deposit_X3_isGreat
set_option maxRecDepth 20000 in
theorem ggX3_deposit_X3_isFull : GoodIn wsX3_deposit wsX3_isFull := goodIn_r _ [21, 3, 22, 23, 24, 25, 7, 26, 32, 33, 34, 35, 36, 37, 38, 39, 40, 41, 42, 43, 44, 45, 46, 47, 48, 49] (by decide +kernel) (by decide +kernel)
set_option maxRecDepth 20000 in
theorem gX3_deposit_X3_isFull : GoodIn wsX3_deposit (wsV RX3 95 RX3 yX3_isFull wsX3_isFull) := goodIn_app (goodIn_of _ (by decide +kernel)) ggX3_deposit_X3_isFull
set_option maxRecDepth 20000 in
theorem ggX3_deposit_X3_change : GoodIn wsX3_deposit wsX3_change := goodIn_r _ [30, 15, 16, 31, 17, 32, 33, 34, 35, 36, 37, 38, 39, 40, 41, 42, 43, 44, 45, 46, 47, 48, 49] (by decide +kernel) (by decide +kernel)
set_option maxRecDepth 20000 in
theorem gX3_deposit_X3_change : GoodIn wsX3_deposit (wsV RX3 99 RX3 yX3_change wsX3_change) := goodIn_app (goodIn_of _ (by decide +kernel)) ggX3_deposit_X3_change
set_option maxRecDepth 20000 in
theorem ggX3_withdraw_X3_no : GoodIn wsX3_withdraw wsX3_no := goodIn_r _ [10, 11, 30, 31, 32, 33, 34, 35, 36, 37, 38, 39, 40, 41, 42, 43, 44, 45, 46, 47] (by decide +kernel) (by decide +kernel)
set_option maxRecDepth 20000 in
theorem gX3_withdraw_X3_no : GoodIn wsX3_withdraw (wsV RX3 88 RX3 yX3_no wsX3_no) := goodIn_app (goodIn_of _ (by decide +kernel)) ggX3_withdraw_X3_no
set_option maxRecDepth 20000 in
theorem ggX3_withdraw_X3_compared : GoodIn wsX3_withdraw wsX3_compared := goodIn_r _ [14] (by decide +kernel) (by decide +kernel)
set_option maxRecDepth 20000 in
theorem gX3_withdraw_X3_compared : GoodIn wsX3_withdraw (va_wsS RX3 103 yX3_compared wsX3_compared) := goodIn_app (goodIn_of _ (by decide +kernel)) ggX3_withdraw_X3_compared
set_option maxRecDepth 20000 in
theorem ggX3_withdraw_X3_isFull : GoodIn wsX3_withdraw wsX3_isFull := goodIn_r _ [18, 5, 19, 20, 21, 22, 9, 23, 30, 31, 32, 33, 34, 35, 36, 37, 38, 39, 40, 41, 42, 43, 44, 45, 46, 47] (by decide +kernel) (by decide +kernel)
set_option maxRecDepth 20000 in
theorem gX3_withdraw_X3_isFull : GoodIn wsX3_withdraw (wsV RX3 95 RX3 yX3_isFull wsX3_isFull) := goodIn_app (goodIn_of _ (by decide +kernel)) ggX3_withdraw_X3_isFull
set_option maxRecDepth 20000 in
theorem ggX3_withdraw_X3_change : GoodIn wsX3_withdraw wsX3_change := goodIn_r _ [27, 4, 3, 28, 29, 30, 31, 32, 33, 34, 35, 36, 37, 38, 39, 40, 41, 42, 43, 44, 45, 46, 47] (by decide +kernel) (by decide +kernel)
set_option maxRecDepth 20000 in
theorem gX3_withdraw_X3_change : GoodIn wsX3_withdraw (wsV RX3 99 RX3 yX3_change wsX3_change) := goodIn_app (goodIn_of _ (by decide +kernel)) ggX3_withdraw_X3_change
set_option maxRecDepth 20000 in
theorem ggX3_transfer_X3_no : GoodIn wsX3_transfer wsX3_no := goodIn_r _ [10, 11, 35, 36, 37, 38, 39, 40, 41, 42, 43, 44, 45, 46, 47, 48, 49, 50, 51, 52] (by decide +kernel) (by decide +kernel)
set_option maxRecDepth 20000 in
theorem gX3_transfer_X3_no : GoodIn wsX3_transfer (wsV RX3 88 RX3 yX3_no wsX3_no) := goodIn_app (goodIn_of _ (by decide +kernel)) ggX3_transfer_X3_no
set_option maxRecDepth 20000 in
theorem ggX3_transfer_X3_compared : GoodIn wsX3_transfer wsX3_compared := goodIn_r _ [14] (by decide +kernel) (by decide +kernel)
set_option maxRecDepth 20000 in
theorem gX3_transfer_X3_compared : GoodIn wsX3_transfer (va_wsS RX3 103 yX3_compared wsX3_compared) := goodIn_app (goodIn_of _ (by decide +kernel)) ggX3_transfer_X3_compared
set_option maxRecDepth 20000 in
theorem ggX3_transfer_X3_isGreat : GoodIn wsX3_transfer wsX3_isGreat := goodIn_r _ [18, 19, 4, 3, 20, 35, 36, 37, 38, 39, 40, 41, 42, 43, 44, 45, 46, 47, 48, 49, 50, 51, 52] (by decide +kernel) (by decide +kernel)
set_option maxRecDepth 20000 in
theorem gX3_transfer_X3_isGreat : GoodIn wsX3_transfer (wsV RX3 92 RX3 yX3_isGreat wsX3_isGreat) := goodIn_app (goodIn_of _ (by decide +kernel)) ggX3_transfer_X3_isGreat
set_option maxRecDepth 20000 in
theorem ggX3_transfer_X3_isFull : GoodIn wsX3_transfer wsX3_isFull := goodIn_r _ [24, 5, 25, 26, 27, 28, 9, 29, 35, 36, 37, 38, 39, 40, 41, 42, 43, 44, 45, 46, 47, 48, 49, 50, 51, 52] (by decide +kernel) (by decide +kernel)
set_option maxRecDepth 20000 in
theorem gX3_transfer_X3_isFull : GoodIn wsX3_transfer (wsV RX3 95 RX3 yX3_isFull wsX3_isFull) := goodIn_app (goodIn_of _ (by decide +kernel)) ggX3_transfer_X3_isFull
set_option maxRecDepth 20000 in
theorem ggX3_transfer_X3_change : GoodIn wsX3_transfer wsX3_change := goodIn_r _ [33, 4, 3, 34, 20, 35, 36, 37, 38, 39, 40, 41, 42, 43, 44, 45, 46, 47, 48, 49, 50, 51, 52] (by decide +kernel) (by decide +kernel)
set_option maxRecDepth 20000 in
theorem gX3_transfer_X3_change : GoodIn wsX3_transfer (wsV RX3 99 RX3 yX3_change wsX3_change) := goodIn_app (goodIn_of _ (by decide +kernel)) ggX3_transfer_X3_change
set_option maxRecDepth 20000 in
theorem ggX3_part_X3_no : GoodIn wsX3_part wsX3_no := goodIn_r _ [11, 12, 13, 14, 15, 16, 17, 18, 19, 20, 21, 22, 23, 24, 25, 26, 27, 28, 29, 30] (by decide +kernel) (by decide +kernel)
set_option maxRecDepth 20000 in
theorem gX3_part_X3_no : GoodIn wsX3_part (wsV RX3 88 RX3 yX3_no wsX3_no) := goodIn_app (goodIn_of _ (by decide +kernel)) ggX3_part_X3_no
set_option maxRecDepth 20000 in
theorem ggX3_balanceSize_X3_no : GoodIn wsX3_balanceSize wsX3_no := goodIn_r _ [8, 9, 13, 14, 15, 16, 17, 18, 19, 20, 21, 22, 23, 24, 25, 26, 27, 28, 29, 30] (by decide +kernel) (by decide +kernel)
set_option maxRecDepth 20000 in
theorem gX3_balanceSize_X3_no : GoodIn wsX3_balanceSize (wsV RX3 88 RX3 yX3_no wsX3_no) := goodIn_app (goodIn_of _ (by decide +kernel)) ggX3_balanceSize_X3_no
set_option maxRecDepth 20000 in
theorem ggX3_balanceSize_X3_size : GoodIn wsX3_balanceSize wsX3_size := goodIn_r _ [12] (by decide +kernel) (by decide +kernel)
set_option maxRecDepth 20000 in
theorem gX3_balanceSize_X3_size : GoodIn wsX3_balanceSize (va_wsS RX3 107 yX3_size wsX3_size) := goodIn_app (goodIn_of _ (by decide +kernel)) ggX3_balanceSize_X3_size
set_option maxRecDepth 20000 in
theorem ggX3_balanceLimb_X3_no : GoodIn wsX3_balanceLimb wsX3_no := goodIn_r _ [8, 9, 10, 11, 12, 13, 14, 15, 16, 17, 18, 19, 20, 21, 22, 23, 24, 25, 26, 27] (by decide +kernel) (by decide +kernel)
set_option maxRecDepth 20000 in
theorem gX3_balanceLimb_X3_no : GoodIn wsX3_balanceLimb (wsV RX3 88 RX3 yX3_no wsX3_no) := goodIn_app (goodIn_of _ (by decide +kernel)) ggX3_balanceLimb_X3_no
set_option maxRecDepth 20000 in
theorem ggX3_compare_X3_no : GoodIn wsX3_compare wsX3_no := goodIn_r _ [8, 9, 13, 14, 15, 16, 17, 18, 19, 20, 21, 22, 23, 24, 25, 26, 27, 28, 29, 30] (by decide +kernel) (by decide +kernel)
set_option maxRecDepth 20000 in
theorem gX3_compare_X3_no : GoodIn wsX3_compare (wsV RX3 88 RX3 yX3_no wsX3_no) := goodIn_app (goodIn_of _ (by decide +kernel)) ggX3_compare_X3_no
set_option maxRecDepth 20000 in
theorem ggX3_compare_X3_compared : GoodIn wsX3_compare wsX3_compared := goodIn_r _ [12] (by decide +kernel) (by decide +kernel)
set_option maxRecDepth 20000 in
theorem gX3_compare_X3_compared : GoodIn wsX3_compare (va_wsS RX3 103 yX3_compared wsX3_compared) := goodIn_app (goodIn_of _ (by decide +kernel)) ggX3_compare_X3_compared
set_option maxRecDepth 20000 in
theorem ggX3_write_X3_no : GoodIn wsX3_write wsX3_no := goodIn_r _ [14, 15, 19, 20, 21, 22, 23, 24, 25, 26, 27, 28, 29, 30, 31, 32, 33, 34, 35, 36] (by decide +kernel) (by decide +kernel)
set_option maxRecDepth 20000 in
theorem gX3_write_X3_no : GoodIn wsX3_write (wsV RX3 88 RX3 yX3_no wsX3_no) := goodIn_app (goodIn_of _ (by decide +kernel)) ggX3_write_X3_no
set_option maxRecDepth 20000 in
theorem ggX3_write_X3_size : GoodIn wsX3_write wsX3_size := goodIn_r _ [18] (by decide +kernel) (by decide +kernel)
set_option maxRecDepth 20000 in
theorem gX3_write_X3_size : GoodIn wsX3_write (va_wsS RX3 107 yX3_size wsX3_size) := goodIn_app (goodIn_of _ (by decide +kernel)) ggX3_write_X3_size
set_option maxRecDepth 20000 in
theorem ggX3_count_X3_touches : GoodIn wsX3_count wsX3_touches := goodIn_r _ [14, 15, 19, 20, 21, 22, 23, 24, 25, 26, 27, 28, 29, 30, 31, 32, 33, 34, 35, 36] (by decide +kernel) (by decide +kernel)
set_option maxRecDepth 20000 in
theorem gX3_count_X3_touches : GoodIn wsX3_count (wsV RX3 77 RX3 yX3_touches wsX3_touches) := goodIn_app (goodIn_of _ (by decide +kernel)) ggX3_count_X3_touches
set_option maxRecDepth 20000 in
theorem ggX3_count_X3_size : GoodIn wsX3_count wsX3_size := goodIn_r _ [18] (by decide +kernel) (by decide +kernel)
set_option maxRecDepth 20000 in
theorem gX3_count_X3_size : GoodIn wsX3_count (va_wsS RX3 107 yX3_size wsX3_size) := goodIn_app (goodIn_of _ (by decide +kernel)) ggX3_count_X3_size
abbrev vwCl : List vw_C := [(RX0, TX0, 6), (RX1, TX1, 2), (RX2, TX2, 11), (RX3, TX3, 18)]


