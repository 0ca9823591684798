section
-- ===== PART A: goes FIRST, ahead of the names: the tables' words, and 'selects' of the private methods out of them =====
/-- a private method of a class that the tables say can be made, by its rows of tables_1 -/
def lw_okq (q : MethodName × Nat) : Prop := (q.1.cls ≠ "java/lang/invoke/MethodHandle" ∧ q.1.cls ≠ "java/lang/invoke/VarHandle") ∧ Cond.instantiable q.1.cls q.2 ∈ tables_1 ∧ Cond.privateMethod q.1 ∈ tables_1 ∧ Cond.instanceMethod q.1 ∈ tables_1
theorem lw_p0 : lw_okq (⟨"BigLedger", "loseMemory", "()V"⟩, 11) := ⟨⟨by decide +kernel, by decide +kernel⟩, List.mem_of_getElem? (i := 12) (by decide +kernel), List.mem_of_getElem? (i := 117) (by decide +kernel), List.mem_of_getElem? (i := 118) (by decide +kernel)⟩
theorem lw_p1 : lw_okq (⟨"BigLedger", "dropPending", "()V"⟩, 11) := ⟨⟨by decide +kernel, by decide +kernel⟩, List.mem_of_getElem? (i := 12) (by decide +kernel), List.mem_of_getElem? (i := 121) (by decide +kernel), List.mem_of_getElem? (i := 122) (by decide +kernel)⟩
theorem lw_p2 : lw_okq (⟨"BigLedger$Disk", "writeFormatted", "(Z)Z"⟩, 6) := ⟨⟨by decide +kernel, by decide +kernel⟩, List.mem_of_getElem? (i := 29) (by decide +kernel), List.mem_of_getElem? (i := 133) (by decide +kernel), List.mem_of_getElem? (i := 134) (by decide +kernel)⟩
theorem lw_p3 : lw_okq (⟨"BigLedger$Disk", "passStop", "()Z"⟩, 6) := ⟨⟨by decide +kernel, by decide +kernel⟩, List.mem_of_getElem? (i := 29) (by decide +kernel), List.mem_of_getElem? (i := 137) (by decide +kernel), List.mem_of_getElem? (i := 138) (by decide +kernel)⟩
theorem lw_p4 : lw_okq (⟨"BigLedger$Disk", "writeLogState", "(I)Z"⟩, 6) := ⟨⟨by decide +kernel, by decide +kernel⟩, List.mem_of_getElem? (i := 29) (by decide +kernel), List.mem_of_getElem? (i := 141) (by decide +kernel), List.mem_of_getElem? (i := 142) (by decide +kernel)⟩
theorem lw_p5 : lw_okq (⟨"BigLedger$Disk", "clearHomes", "()Z"⟩, 6) := ⟨⟨by decide +kernel, by decide +kernel⟩, List.mem_of_getElem? (i := 29) (by decide +kernel), List.mem_of_getElem? (i := 145) (by decide +kernel), List.mem_of_getElem? (i := 146) (by decide +kernel)⟩
theorem lw_p6 : lw_okq (⟨"BigLedger$Natural", "measure", "()V"⟩, 2) := ⟨⟨by decide +kernel, by decide +kernel⟩, List.mem_of_getElem? (i := 39) (by decide +kernel), List.mem_of_getElem? (i := 158) (by decide +kernel), List.mem_of_getElem? (i := 159) (by decide +kernel)⟩
theorem lw_p7 : lw_okq (⟨"BigLedger", "isAccount", "(I)Z"⟩, 11) := ⟨⟨by decide +kernel, by decide +kernel⟩, List.mem_of_getElem? (i := 12) (by decide +kernel), List.mem_of_getElem? (i := 170) (by decide +kernel), List.mem_of_getElem? (i := 171) (by decide +kernel)⟩
theorem lw_p8 : lw_okq (⟨"BigLedger", "wouldBeTooGreat", "(I)Z"⟩, 11) := ⟨⟨by decide +kernel, by decide +kernel⟩, List.mem_of_getElem? (i := 12) (by decide +kernel), List.mem_of_getElem? (i := 174) (by decide +kernel), List.mem_of_getElem? (i := 175) (by decide +kernel)⟩
theorem lw_p9 : lw_okq (⟨"BigLedger", "seen", "(I)LBigLedger$Natural;"⟩, 11) := ⟨⟨by decide +kernel, by decide +kernel⟩, List.mem_of_getElem? (i := 12) (by decide +kernel), List.mem_of_getElem? (i := 178) (by decide +kernel), List.mem_of_getElem? (i := 179) (by decide +kernel)⟩
theorem lw_p10 : lw_okq (⟨"BigLedger", "totalBlock", "()I"⟩, 11) := ⟨⟨by decide +kernel, by decide +kernel⟩, List.mem_of_getElem? (i := 12) (by decide +kernel), List.mem_of_getElem? (i := 198) (by decide +kernel), List.mem_of_getElem? (i := 199) (by decide +kernel)⟩
theorem lw_p11 : lw_okq (⟨"BigLedger", "hasRoomFor", "(II)Z"⟩, 11) := ⟨⟨by decide +kernel, by decide +kernel⟩, List.mem_of_getElem? (i := 12) (by decide +kernel), List.mem_of_getElem? (i := 202) (by decide +kernel), List.mem_of_getElem? (i := 203) (by decide +kernel)⟩
theorem lw_p12 : lw_okq (⟨"BigLedger", "touch", "(I)LBigLedger$Natural;"⟩, 11) := ⟨⟨by decide +kernel, by decide +kernel⟩, List.mem_of_getElem? (i := 12) (by decide +kernel), List.mem_of_getElem? (i := 212) (by decide +kernel), List.mem_of_getElem? (i := 213) (by decide +kernel)⟩
theorem lw_p13 : lw_okq (⟨"BigLedger", "isAmountAbove", "(I)Z"⟩, 11) := ⟨⟨by decide +kernel, by decide +kernel⟩, List.mem_of_getElem? (i := 12) (by decide +kernel), List.mem_of_getElem? (i := 220) (by decide +kernel), List.mem_of_getElem? (i := 221) (by decide +kernel)⟩
theorem lw_p14 : lw_okq (⟨"BigLedger$Disk", "writeBlocks", "([LBigLedger$Natural;I[LBigLedger$Natural;)Z"⟩, 6) := ⟨⟨by decide +kernel, by decide +kernel⟩, List.mem_of_getElem? (i := 29) (by decide +kernel), List.mem_of_getElem? (i := 259) (by decide +kernel), List.mem_of_getElem? (i := 260) (by decide +kernel)⟩
theorem lw_p15 : lw_okq (⟨"java/lang/Throwable", "fillInStackTrace", "(I)Ljava/lang/Throwable;"⟩, 6) := ⟨⟨by decide +kernel, by decide +kernel⟩, List.mem_of_getElem? (i := 358) (by decide +kernel), List.mem_of_getElem? (i := 356) (by decide +kernel), List.mem_of_getElem? (i := 357) (by decide +kernel)⟩
def lw_privs_1 : List (MethodName × Nat) := [(⟨"BigLedger", "loseMemory", "()V"⟩, 11), (⟨"BigLedger", "dropPending", "()V"⟩, 11), (⟨"BigLedger$Disk", "writeFormatted", "(Z)Z"⟩, 6), (⟨"BigLedger$Disk", "passStop", "()Z"⟩, 6), (⟨"BigLedger$Disk", "writeLogState", "(I)Z"⟩, 6), (⟨"BigLedger$Disk", "clearHomes", "()Z"⟩, 6), (⟨"BigLedger$Natural", "measure", "()V"⟩, 2), (⟨"BigLedger", "isAccount", "(I)Z"⟩, 11), (⟨"BigLedger", "wouldBeTooGreat", "(I)Z"⟩, 11), (⟨"BigLedger", "seen", "(I)LBigLedger$Natural;"⟩, 11), (⟨"BigLedger", "totalBlock", "()I"⟩, 11), (⟨"BigLedger", "hasRoomFor", "(II)Z"⟩, 11), (⟨"BigLedger", "touch", "(I)LBigLedger$Natural;"⟩, 11), (⟨"BigLedger", "isAmountAbove", "(I)Z"⟩, 11), (⟨"BigLedger$Disk", "writeBlocks", "([LBigLedger$Natural;I[LBigLedger$Natural;)Z"⟩, 6), (⟨"java/lang/Throwable", "fillInStackTrace", "(I)Ljava/lang/Throwable;"⟩, 6)]
theorem lw_r1 : ∀ q ∈ lw_privs_1, lw_okq q := List.forall_mem_cons.mpr ⟨lw_p0, List.forall_mem_cons.mpr ⟨lw_p1, List.forall_mem_cons.mpr ⟨lw_p2, List.forall_mem_cons.mpr ⟨lw_p3, List.forall_mem_cons.mpr ⟨lw_p4, List.forall_mem_cons.mpr ⟨lw_p5, List.forall_mem_cons.mpr ⟨lw_p6, List.forall_mem_cons.mpr ⟨lw_p7, List.forall_mem_cons.mpr ⟨lw_p8, List.forall_mem_cons.mpr ⟨lw_p9, List.forall_mem_cons.mpr ⟨lw_p10, List.forall_mem_cons.mpr ⟨lw_p11, List.forall_mem_cons.mpr ⟨lw_p12, List.forall_mem_cons.mpr ⟨lw_p13, List.forall_mem_cons.mpr ⟨lw_p14, List.forall_mem_cons.mpr ⟨lw_p15, fun _ h => absurd h List.not_mem_nil⟩⟩⟩⟩⟩⟩⟩⟩⟩⟩⟩⟩⟩⟩⟩⟩
theorem lw_p16 : lw_okq (⟨"BigLedgerModel", "writes", "()Z"⟩, 18) := ⟨⟨by decide +kernel, by decide +kernel⟩, List.mem_of_getElem? (i := 391) (by decide +kernel), List.mem_of_getElem? (i := 457) (by decide +kernel), List.mem_of_getElem? (i := 458) (by decide +kernel)⟩
theorem lw_p17 : lw_okq (⟨"BigLedgerModel", "down", "()V"⟩, 18) := ⟨⟨by decide +kernel, by decide +kernel⟩, List.mem_of_getElem? (i := 391) (by decide +kernel), List.mem_of_getElem? (i := 461) (by decide +kernel), List.mem_of_getElem? (i := 462) (by decide +kernel)⟩
theorem lw_p18 : lw_okq (⟨"BigLedgerModel", "forget", "()V"⟩, 18) := ⟨⟨by decide +kernel, by decide +kernel⟩, List.mem_of_getElem? (i := 391) (by decide +kernel), List.mem_of_getElem? (i := 465) (by decide +kernel), List.mem_of_getElem? (i := 466) (by decide +kernel)⟩
theorem lw_p19 : lw_okq (⟨"BigLedgerModel", "emptyLog", "()Z"⟩, 18) := ⟨⟨by decide +kernel, by decide +kernel⟩, List.mem_of_getElem? (i := 391) (by decide +kernel), List.mem_of_getElem? (i := 469) (by decide +kernel), List.mem_of_getElem? (i := 470) (by decide +kernel)⟩
theorem lw_p20 : lw_okq (⟨"BigLedgerModel", "touches", "()I"⟩, 18) := ⟨⟨by decide +kernel, by decide +kernel⟩, List.mem_of_getElem? (i := 391) (by decide +kernel), List.mem_of_getElem? (i := 477) (by decide +kernel), List.mem_of_getElem? (i := 478) (by decide +kernel)⟩
theorem lw_p21 : lw_okq (⟨"BigLedgerModel", "goHome", "()Z"⟩, 18) := ⟨⟨by decide +kernel, by decide +kernel⟩, List.mem_of_getElem? (i := 391) (by decide +kernel), List.mem_of_getElem? (i := 481) (by decide +kernel), List.mem_of_getElem? (i := 482) (by decide +kernel)⟩
theorem lw_p22 : lw_okq (⟨"BigLedgerModel", "no", "(I)Z"⟩, 18) := ⟨⟨by decide +kernel, by decide +kernel⟩, List.mem_of_getElem? (i := 391) (by decide +kernel), List.mem_of_getElem? (i := 509) (by decide +kernel), List.mem_of_getElem? (i := 510) (by decide +kernel)⟩
theorem lw_p23 : lw_okq (⟨"BigLedgerModel", "isGreat", "(I)Z"⟩, 18) := ⟨⟨by decide +kernel, by decide +kernel⟩, List.mem_of_getElem? (i := 391) (by decide +kernel), List.mem_of_getElem? (i := 513) (by decide +kernel), List.mem_of_getElem? (i := 514) (by decide +kernel)⟩
theorem lw_p24 : lw_okq (⟨"BigLedgerModel", "isFull", "(II)Z"⟩, 18) := ⟨⟨by decide +kernel, by decide +kernel⟩, List.mem_of_getElem? (i := 391) (by decide +kernel), List.mem_of_getElem? (i := 518) (by decide +kernel), List.mem_of_getElem? (i := 519) (by decide +kernel)⟩
theorem lw_p25 : lw_okq (⟨"BigLedgerModel", "change", "(IZ)V"⟩, 18) := ⟨⟨by decide +kernel, by decide +kernel⟩, List.mem_of_getElem? (i := 391) (by decide +kernel), List.mem_of_getElem? (i := 522) (by decide +kernel), List.mem_of_getElem? (i := 523) (by decide +kernel)⟩
def lw_privs_2 : List (MethodName × Nat) := [(⟨"BigLedgerModel", "writes", "()Z"⟩, 18), (⟨"BigLedgerModel", "down", "()V"⟩, 18), (⟨"BigLedgerModel", "forget", "()V"⟩, 18), (⟨"BigLedgerModel", "emptyLog", "()Z"⟩, 18), (⟨"BigLedgerModel", "touches", "()I"⟩, 18), (⟨"BigLedgerModel", "goHome", "()Z"⟩, 18), (⟨"BigLedgerModel", "no", "(I)Z"⟩, 18), (⟨"BigLedgerModel", "isGreat", "(I)Z"⟩, 18), (⟨"BigLedgerModel", "isFull", "(II)Z"⟩, 18), (⟨"BigLedgerModel", "change", "(IZ)V"⟩, 18)]
theorem lw_r2 : ∀ q ∈ lw_privs_2, lw_okq q := List.forall_mem_cons.mpr ⟨lw_p16, List.forall_mem_cons.mpr ⟨lw_p17, List.forall_mem_cons.mpr ⟨lw_p18, List.forall_mem_cons.mpr ⟨lw_p19, List.forall_mem_cons.mpr ⟨lw_p20, List.forall_mem_cons.mpr ⟨lw_p21, List.forall_mem_cons.mpr ⟨lw_p22, List.forall_mem_cons.mpr ⟨lw_p23, List.forall_mem_cons.mpr ⟨lw_p24, List.forall_mem_cons.mpr ⟨lw_p25, fun _ h => absurd h List.not_mem_nil⟩⟩⟩⟩⟩⟩⟩⟩⟩⟩
def lw_privs : List (MethodName × Nat) := lw_privs_1 ++ (lw_privs_2)
def lw_tbl : List Cond := k2_sels lw_privs ++ tables_1
theorem lw_privs_ok : ∀ q ∈ lw_privs, lw_okq q := by
  show ∀ q ∈ lw_privs_1 ++ (lw_privs_2), lw_okq q
  exact List.forall_mem_append.mpr ⟨lw_r1, lw_r2⟩
end
section
/-! ===== BEGIN words of one list among another's, by their places ===== -/
theorem goodIn_r {big : List Cond} (ws : List Cond) (ps : List Nat) (hp : ws = ps.filterMap (fun i => big[i]?)) (h : ws.all goodWord = true) : GoodIn big ws := by
  intro w hw
  have h1 := List.all_eq_true.mp h w hw
  rw [hp] at hw
  obtain ⟨i, -, hi⟩ := List.mem_filterMap.mp hw
  have hm : w ∈ big := by first | exact List.mem_of_getElem? hi | exact List.getElem?_mem hi
  exact ⟨hm, good_of_word h1⟩
theorem goodIn_app {big a b : List Cond} (ha : GoodIn big a) (hb : GoodIn big b) : GoodIn big (a ++ b) := fun w h => (List.mem_append.mp h).elim (ha w) (hb w)
theorem goodIn_ca {big a b : List Cond} {c : Cond} (ha : GoodIn big (c :: a)) (hb : GoodIn big b) : GoodIn big (c :: (a ++ b)) := fun w h => (List.mem_cons.mp h).elim (fun e => ha w (List.mem_cons.mpr (Or.inl e))) (fun h => (List.mem_append.mp h).elim (fun h => ha w (List.mem_cons.mpr (Or.inr h))) (hb w))
theorem goodIn_sub {big ws : List Cond} (hm : ∀ w ∈ ws, w ∈ big) (h : ws.all goodWord = true) : GoodIn big ws := fun w hw => ⟨hm w hw, good_of_word (List.all_eq_true.mp h w hw)⟩
/-! ===== END ===== -/
/-! ===== BEGIN printed: names, fields, word lists, decode rows ===== -/
def RX0 : String := "BigLedger$Disk"
def TX0 : u_T := fun k => match k with
  | 0 => ("BigLedger$Disk", "home", "[LBigLedger$Natural;", true)
  | 1 => ("BigLedger$Disk", "log", "[LBigLedger$Natural;", true)
  | 2 => ("BigLedger$Disk", "committed", "I", false)
  | 3 => ("BigLedger$Disk", "formatted", "Z", false)
  | 4 => ("BigLedger$Disk", "writesDone", "I", false)
  | _ => ("BigLedger$Disk", "writesUntilStop", "I", false)
def tyX0 : Nat → FieldType := fun k => match k with
  | 0 => .array (.object "BigLedger$Natural")
  | 1 => .array (.object "BigLedger$Natural")
  | 2 => .int
  | 3 => .boolean
  | 4 => .int
  | _ => .int
abbrev wsX00 : List Cond := u_ws RX0 TX0 6
theorem nmX0 : ∀ a, a < 6 → ∀ b, b < 6 → a ≠ b → (TX0 a).2.1 ≠ (TX0 b).2.1 := by decide +kernel
theorem tyX0_ok : ∀ k, k < 6 → parseFieldDescriptor (TX0 k).2.2.1 = some (tyX0 k) := by decide +kernel
abbrev cX0_init : ByteArray := prog_2_method_1_code
def yX0_init : MethodName := ⟨RX0, "<init>", "(II)V"⟩
abbrev cX0_layOut : ByteArray := prog_2_method_2_code
def yX0_layOut : MethodName := ⟨RX0, "layOut", "()Z"⟩
abbrev cX0_bringThroughLog : ByteArray := prog_2_method_3_code
def yX0_bringThroughLog : MethodName := ⟨RX0, "bringThroughLog", "(I[LBigLedger$Natural;)Z"⟩
abbrev cX0_bringLogHome : ByteArray := prog_2_method_4_code
def yX0_bringLogHome : MethodName := ⟨RX0, "bringLogHome", "()Z"⟩
abbrev cX0_passStop : ByteArray := prog_2_method_5_code
def yX0_passStop : MethodName := ⟨RX0, "passStop", "()Z"⟩
abbrev cX0_writeFormatted : ByteArray := prog_2_method_6_code
def yX0_writeFormatted : MethodName := ⟨RX0, "writeFormatted", "(Z)Z"⟩
abbrev cX0_writeLogState : ByteArray := prog_2_method_7_code
def yX0_writeLogState : MethodName := ⟨RX0, "writeLogState", "(I)Z"⟩
abbrev cX0_writeBlocks : ByteArray := prog_2_method_8_code
def yX0_writeBlocks : MethodName := ⟨RX0, "writeBlocks", "([LBigLedger$Natural;I[LBigLedger$Natural;)Z"⟩
abbrev cX0_clearHomes : ByteArray := prog_2_method_9_code
def yX0_clearHomes : MethodName := ⟨RX0, "clearHomes", "()Z"⟩
def RX1 : String := "BigLedger$Natural"
def TX1 : u_T := fun k => match k with
  | 0 => ("BigLedger$Natural", "limbs", "[I", true)
  | _ => ("BigLedger$Natural", "size", "I", false)
def tyX1 : Nat → FieldType := fun k => match k with
  | 0 => .array .int
  | _ => .int
abbrev wsX10 : List Cond := u_ws RX1 TX1 2
theorem nmX1 : ∀ a, a < 2 → ∀ b, b < 2 → a ≠ b → (TX1 a).2.1 ≠ (TX1 b).2.1 := by decide +kernel
theorem tyX1_ok : ∀ k, k < 2 → parseFieldDescriptor (TX1 k).2.2.1 = some (tyX1 k) := by decide +kernel
abbrev cX1_init : ByteArray := prog_3_method_1_code
def yX1_init : MethodName := ⟨RX1, "<init>", "(I)V"⟩
abbrev cX1_limbAt : ByteArray := prog_3_method_2_code
def yX1_limbAt : MethodName := ⟨RX1, "limbAt", "(I)I"⟩
abbrev cX1_setZero : ByteArray := prog_3_method_3_code
def yX1_setZero : MethodName := ⟨RX1, "setZero", "()V"⟩
abbrev cX1_setTo : ByteArray := prog_3_method_4_code
def yX1_setTo : MethodName := ⟨RX1, "setTo", "(LBigLedger$Natural;)V"⟩
abbrev cX1_append : ByteArray := prog_3_method_5_code
def yX1_append : MethodName := ⟨RX1, "append", "(I)V"⟩
abbrev cX1_increase : ByteArray := prog_3_method_6_code
def yX1_increase : MethodName := ⟨RX1, "increase", "(LBigLedger$Natural;)V"⟩
abbrev cX1_decrease : ByteArray := prog_3_method_7_code
def yX1_decrease : MethodName := ⟨RX1, "decrease", "(LBigLedger$Natural;)V"⟩
abbrev cX1_multiply : ByteArray := prog_3_method_8_code
def yX1_multiply : MethodName := ⟨RX1, "multiply", "(I)V"⟩
abbrev cX1_divide : ByteArray := prog_3_method_9_code
def yX1_divide : MethodName := ⟨RX1, "divide", "(I)I"⟩
abbrev cX1_standingTo : ByteArray := prog_3_method_10_code
def yX1_standingTo : MethodName := ⟨RX1, "standingTo", "(LBigLedger$Natural;)I"⟩
abbrev cX1_measure : ByteArray := prog_3_method_11_code
def yX1_measure : MethodName := ⟨RX1, "measure", "()V"⟩
def RX2 : String := "BigLedger"
def TX2 : u_T := fun k => match k with
  | 0 => ("BigLedger", "accounts", "I", true)
  | 1 => ("BigLedger", "limbs", "I", true)
  | 2 => ("BigLedger", "room", "I", true)
  | 3 => ("BigLedger", "disk", "LBigLedger$Disk;", true)
  | 4 => ("BigLedger", "pending", "[LBigLedger$Natural;", true)
  | 5 => ("BigLedger", "touched", "I", false)
  | 6 => ("BigLedger", "amount", "LBigLedger$Natural;", true)
  | 7 => ("BigLedger", "up", "Z", false)
  | 8 => ("BigLedger", "scratch", "LBigLedger$Natural;", true)
  | 9 => ("BigLedger", "outBackwards", "[B", true)
  | _ => ("BigLedger", "outLength", "I", false)
def tyX2 : Nat → FieldType := fun k => match k with
  | 0 => .int
  | 1 => .int
  | 2 => .int
  | 3 => .object "BigLedger$Disk"
  | 4 => .array (.object "BigLedger$Natural")
  | 5 => .int
  | 6 => .object "BigLedger$Natural"
  | 7 => .boolean
  | 8 => .object "BigLedger$Natural"
  | 9 => .array .byte
  | _ => .int
abbrev wsX20 : List Cond := u_ws RX2 TX2 11
theorem nmX2 : ∀ a, a < 11 → ∀ b, b < 11 → a ≠ b → (TX2 a).2.1 ≠ (TX2 b).2.1 := by decide +kernel
theorem tyX2_ok : ∀ k, k < 11 → parseFieldDescriptor (TX2 k).2.2.1 = some (tyX2 k) := by decide +kernel
abbrev cX2_init : ByteArray := prog_1_method_1_code
def yX2_init : MethodName := ⟨RX2, "<init>", "(III)V"⟩
abbrev cX2_within : ByteArray := prog_1_method_2_code
def yX2_within : MethodName := ⟨RX2, "within", "(II)I"⟩
abbrev cX2_naturals : ByteArray := prog_1_method_3_code
def yX2_naturals : MethodName := ⟨RX2, "naturals", "(II)[LBigLedger$Natural;"⟩
abbrev cX2_format : ByteArray := prog_1_method_4_code
def yX2_format : MethodName := ⟨RX2, "format", "()Z"⟩
abbrev cX2_amountLimb : ByteArray := prog_1_method_5_code
def yX2_amountLimb : MethodName := ⟨RX2, "amountLimb", "(I)Z"⟩
abbrev cX2_clearAmount : ByteArray := prog_1_method_6_code
def yX2_clearAmount : MethodName := ⟨RX2, "clearAmount", "()Z"⟩
abbrev cX2_deposit : ByteArray := prog_1_method_7_code
def yX2_deposit : MethodName := ⟨RX2, "deposit", "(I)I"⟩
abbrev cX2_withdraw : ByteArray := prog_1_method_8_code
def yX2_withdraw : MethodName := ⟨RX2, "withdraw", "(I)I"⟩
abbrev cX2_transfer : ByteArray := prog_1_method_9_code
def yX2_transfer : MethodName := ⟨RX2, "transfer", "(II)I"⟩
abbrev cX2_part : ByteArray := prog_1_method_10_code
def yX2_part : MethodName := ⟨RX2, "part", "(III)I"⟩
abbrev cX2_commit : ByteArray := prog_1_method_11_code
def yX2_commit : MethodName := ⟨RX2, "commit", "()I"⟩
abbrev cX2_abort : ByteArray := prog_1_method_12_code
def yX2_abort : MethodName := ⟨RX2, "abort", "()Z"⟩
abbrev cX2_balanceSize : ByteArray := prog_1_method_13_code
def yX2_balanceSize : MethodName := ⟨RX2, "balanceSize", "(I)I"⟩
abbrev cX2_balanceLimb : ByteArray := prog_1_method_14_code
def yX2_balanceLimb : MethodName := ⟨RX2, "balanceLimb", "(II)I"⟩
abbrev cX2_totalLimb : ByteArray := prog_1_method_15_code
def yX2_totalLimb : MethodName := ⟨RX2, "totalLimb", "(I)I"⟩
abbrev cX2_amount : ByteArray := prog_1_method_16_code
def yX2_amount : MethodName := ⟨RX2, "amount", "(I)I"⟩
abbrev cX2_compare : ByteArray := prog_1_method_17_code
def yX2_compare : MethodName := ⟨RX2, "compare", "(II)I"⟩
abbrev cX2_stopAfter : ByteArray := prog_1_method_18_code
def yX2_stopAfter : MethodName := ⟨RX2, "stopAfter", "(I)V"⟩
abbrev cX2_recover : ByteArray := prog_1_method_19_code
def yX2_recover : MethodName := ⟨RX2, "recover", "()Z"⟩
abbrev cX2_write : ByteArray := prog_1_method_20_code
def yX2_write : MethodName := ⟨RX2, "write", "(I)I"⟩
abbrev cX2_octet : ByteArray := prog_1_method_21_code
def yX2_octet : MethodName := ⟨RX2, "octet", "(I)I"⟩
abbrev cX2_count : ByteArray := prog_1_method_22_code
def yX2_count : MethodName := ⟨RX2, "count", "(I)I"⟩
abbrev cX2_isAccount : ByteArray := prog_1_method_23_code
def yX2_isAccount : MethodName := ⟨RX2, "isAccount", "(I)Z"⟩
abbrev cX2_totalBlock : ByteArray := prog_1_method_24_code
def yX2_totalBlock : MethodName := ⟨RX2, "totalBlock", "()I"⟩
abbrev cX2_has : ByteArray := prog_1_method_25_code
def yX2_has : MethodName := ⟨RX2, "has", "(II)Z"⟩
abbrev cX2_seen : ByteArray := prog_1_method_26_code
def yX2_seen : MethodName := ⟨RX2, "seen", "(I)LBigLedger$Natural;"⟩
abbrev cX2_touch : ByteArray := prog_1_method_27_code
def yX2_touch : MethodName := ⟨RX2, "touch", "(I)LBigLedger$Natural;"⟩
abbrev cX2_hasRoomFor : ByteArray := prog_1_method_28_code
def yX2_hasRoomFor : MethodName := ⟨RX2, "hasRoomFor", "(II)Z"⟩
abbrev cX2_isAmountAbove : ByteArray := prog_1_method_29_code
def yX2_isAmountAbove : MethodName := ⟨RX2, "isAmountAbove", "(I)Z"⟩
abbrev cX2_wouldBeTooGreat : ByteArray := prog_1_method_30_code
def yX2_wouldBeTooGreat : MethodName := ⟨RX2, "wouldBeTooGreat", "(I)Z"⟩
abbrev cX2_dropPending : ByteArray := prog_1_method_31_code
def yX2_dropPending : MethodName := ⟨RX2, "dropPending", "()V"⟩
abbrev cX2_loseMemory : ByteArray := prog_1_method_32_code
def yX2_loseMemory : MethodName := ⟨RX2, "loseMemory", "()V"⟩
def RX3 : String := "BigLedgerModel"
def TX3 : u_T := fun k => match k with
  | 0 => ("BigLedgerModel", "thrown", "I", false)
  | 1 => ("BigLedgerModel", "accounts", "I", true)
  | 2 => ("BigLedgerModel", "limbs", "I", true)
  | 3 => ("BigLedgerModel", "room", "I", true)
  | 4 => ("BigLedgerModel", "now", "[I", true)
  | 5 => ("BigLedgerModel", "home", "[I", true)
  | 6 => ("BigLedgerModel", "log", "[I", true)
  | 7 => ("BigLedgerModel", "amount", "[I", true)
  | 8 => ("BigLedgerModel", "work", "[I", true)
  | 9 => ("BigLedgerModel", "touched", "[Z", true)
  | 10 => ("BigLedgerModel", "logged", "[Z", true)
  | 11 => ("BigLedgerModel", "up", "Z", false)
  | 12 => ("BigLedgerModel", "formatted", "Z", false)
  | 13 => ("BigLedgerModel", "committed", "Z", false)
  | 14 => ("BigLedgerModel", "writes", "I", false)
  | 15 => ("BigLedgerModel", "left", "I", false)
  | 16 => ("BigLedgerModel", "out", "[B", true)
  | _ => ("BigLedgerModel", "outMany", "I", false)
def tyX3 : Nat → FieldType := fun k => match k with
  | 0 => .int
  | 1 => .int
  | 2 => .int
  | 3 => .int
  | 4 => .array .int
  | 5 => .array .int
  | 6 => .array .int
  | 7 => .array .int
  | 8 => .array .int
  | 9 => .array .boolean
  | 10 => .array .boolean
  | 11 => .boolean
  | 12 => .boolean
  | 13 => .boolean
  | 14 => .int
  | 15 => .int
  | 16 => .array .byte
  | _ => .int
abbrev wsX30 : List Cond := u_ws RX3 TX3 18
theorem nmX3 : ∀ a, a < 18 → ∀ b, b < 18 → a ≠ b → (TX3 a).2.1 ≠ (TX3 b).2.1 := by decide +kernel
theorem tyX3_ok : ∀ k, k < 18 → parseFieldDescriptor (TX3 k).2.2.1 = some (tyX3 k) := by decide +kernel
abbrev cX3_thrown : ByteArray := prog_5_method_1_code
def yX3_thrown : MethodName := ⟨RX3, "thrown", "()I"⟩
abbrev cX3_init : ByteArray := prog_5_method_2_code
def yX3_init : MethodName := ⟨RX3, "<init>", "(III)V"⟩
abbrev cX3_down : ByteArray := prog_5_method_3_code
def yX3_down : MethodName := ⟨RX3, "down", "()V"⟩
abbrev cX3_forget : ByteArray := prog_5_method_4_code
def yX3_forget : MethodName := ⟨RX3, "forget", "()V"⟩
abbrev cX3_writes : ByteArray := prog_5_method_5_code
def yX3_writes : MethodName := ⟨RX3, "writes", "()Z"⟩
abbrev cX3_emptyLog : ByteArray := prog_5_method_6_code
def yX3_emptyLog : MethodName := ⟨RX3, "emptyLog", "()Z"⟩
abbrev cX3_goHome : ByteArray := prog_5_method_7_code
def yX3_goHome : MethodName := ⟨RX3, "goHome", "()Z"⟩
abbrev cX3_format : ByteArray := prog_5_method_8_code
def yX3_format : MethodName := ⟨RX3, "format", "()Z"⟩
abbrev cX3_commit : ByteArray := prog_5_method_9_code
def yX3_commit : MethodName := ⟨RX3, "commit", "()I"⟩
abbrev cX3_recover : ByteArray := prog_5_method_10_code
def yX3_recover : MethodName := ⟨RX3, "recover", "()Z"⟩
abbrev cX3_abort : ByteArray := prog_5_method_11_code
def yX3_abort : MethodName := ⟨RX3, "abort", "()Z"⟩
abbrev cX3_stopAfter : ByteArray := prog_5_method_12_code
def yX3_stopAfter : MethodName := ⟨RX3, "stopAfter", "(I)V"⟩
abbrev cX3_touches : ByteArray := prog_5_method_13_code
def yX3_touches : MethodName := ⟨RX3, "touches", "()I"⟩
abbrev cX3_size : ByteArray := prog_5_method_14_code
def yX3_size : MethodName := ⟨RX3, "size", "([II)I"⟩
abbrev cX3_compared : ByteArray := prog_5_method_15_code
def yX3_compared : MethodName := ⟨RX3, "compared", "([II[II)I"⟩
abbrev cX3_change : ByteArray := prog_5_method_16_code
def yX3_change : MethodName := ⟨RX3, "change", "(IZ)V"⟩
abbrev cX3_isGreat : ByteArray := prog_5_method_17_code
def yX3_isGreat : MethodName := ⟨RX3, "isGreat", "(I)Z"⟩
abbrev cX3_amountLimb : ByteArray := prog_5_method_18_code
def yX3_amountLimb : MethodName := ⟨RX3, "amountLimb", "(I)Z"⟩
abbrev cX3_clearAmount : ByteArray := prog_5_method_19_code
def yX3_clearAmount : MethodName := ⟨RX3, "clearAmount", "()Z"⟩
abbrev cX3_no : ByteArray := prog_5_method_20_code
def yX3_no : MethodName := ⟨RX3, "no", "(I)Z"⟩
abbrev cX3_isFull : ByteArray := prog_5_method_21_code
def yX3_isFull : MethodName := ⟨RX3, "isFull", "(II)Z"⟩
abbrev cX3_deposit : ByteArray := prog_5_method_22_code
def yX3_deposit : MethodName := ⟨RX3, "deposit", "(I)I"⟩
abbrev cX3_withdraw : ByteArray := prog_5_method_23_code
def yX3_withdraw : MethodName := ⟨RX3, "withdraw", "(I)I"⟩
abbrev cX3_transfer : ByteArray := prog_5_method_24_code
def yX3_transfer : MethodName := ⟨RX3, "transfer", "(II)I"⟩
abbrev cX3_part : ByteArray := prog_5_method_25_code
def yX3_part : MethodName := ⟨RX3, "part", "(III)I"⟩
abbrev cX3_balanceSize : ByteArray := prog_5_method_26_code
def yX3_balanceSize : MethodName := ⟨RX3, "balanceSize", "(I)I"⟩
abbrev cX3_balanceLimb : ByteArray := prog_5_method_27_code
def yX3_balanceLimb : MethodName := ⟨RX3, "balanceLimb", "(II)I"⟩
abbrev cX3_totalLimb : ByteArray := prog_5_method_28_code
def yX3_totalLimb : MethodName := ⟨RX3, "totalLimb", "(I)I"⟩
abbrev cX3_amount : ByteArray := prog_5_method_29_code
def yX3_amount : MethodName := ⟨RX3, "amount", "(I)I"⟩
abbrev cX3_compare : ByteArray := prog_5_method_30_code
def yX3_compare : MethodName := ⟨RX3, "compare", "(II)I"⟩
abbrev cX3_write : ByteArray := prog_5_method_31_code
def yX3_write : MethodName := ⟨RX3, "write", "(I)I"⟩
abbrev cX3_octet : ByteArray := prog_5_method_32_code
def yX3_octet : MethodName := ⟨RX3, "octet", "(I)I"⟩
abbrev cX3_count : ByteArray := prog_5_method_33_code
def yX3_count : MethodName := ⟨RX3, "count", "(I)I"⟩
def RJ6 : String := "java/lang/Integer"
def TJ6 : u_T := fun k => match k with
  | _ => ("", "", "", false)
def tyJ6 : Nat → FieldType := fun k => match k with
  | _ => .int
abbrev wsJ60 : List Cond := u_ws RJ6 TJ6 0
theorem nmJ6 : ∀ a, a < 0 → ∀ b, b < 0 → a ≠ b → (TJ6 a).2.1 ≠ (TJ6 b).2.1 := by decide +kernel
theorem tyJ6_ok : ∀ k, k < 0 → parseFieldDescriptor (TJ6 k).2.2.1 = some (tyJ6 k) := by decide +kernel
abbrev cJ6_compare_7cf53 : ByteArray := prog_7_method_40_code
def yJ6_compare_7cf53 : MethodName := ⟨RJ6, "compare", "(II)I"⟩
abbrev cJ6_bitCount_0f7a4 : ByteArray := prog_7_method_49_code
def yJ6_bitCount_0f7a4 : MethodName := ⟨RJ6, "bitCount", "(I)I"⟩
def RJ9 : String := "java/lang/Math"
def TJ9 : u_T := fun k => match k with
  | _ => ("", "", "", false)
def tyJ9 : Nat → FieldType := fun k => match k with
  | _ => .int
abbrev wsJ90 : List Cond := u_ws RJ9 TJ9 0
theorem nmJ9 : ∀ a, a < 0 → ∀ b, b < 0 → a ≠ b → (TJ9 a).2.1 ≠ (TJ9 b).2.1 := by decide +kernel
theorem tyJ9_ok : ∀ k, k < 0 → parseFieldDescriptor (TJ9 k).2.2.1 = some (tyJ9 k) := by decide +kernel
abbrev cJ9_max_7cf53 : ByteArray := prog_8_method_65_code
def yJ9_max_7cf53 : MethodName := ⟨RJ9, "max", "(II)I"⟩
abbrev cJ9_min_7cf53 : ByteArray := prog_8_method_69_code
def yJ9_min_7cf53 : MethodName := ⟨RJ9, "min", "(II)I"⟩
def RJ0 : String := "java/lang/String"
def TJ0 : u_T := fun k => match k with
  | _ => ("", "", "", false)
def tyJ0 : Nat → FieldType := fun k => match k with
  | _ => .int
abbrev wsJ00 : List Cond := u_ws RJ0 TJ0 0
theorem nmJ0 : ∀ a, a < 0 → ∀ b, b < 0 → a ≠ b → (TJ0 a).2.1 ≠ (TJ0 b).2.1 := by decide +kernel
theorem tyJ0_ok : ∀ k, k < 0 → parseFieldDescriptor (TJ0 k).2.2.1 = some (tyJ0 k) := by decide +kernel
def RL : String := "BigLedgerLaw"
abbrev cL_cell : ByteArray := method_2_code
def yL_cell : MethodName := ⟨RL, "cell", "([II)I"⟩
abbrev cL_octet : ByteArray := method_3_code
def yL_octet : MethodName := ⟨RL, "octet", "(LBigLedger;I[J)I"⟩
abbrev cL_law : ByteArray := code
def yL_law : MethodName := ⟨RL, "law", "([I)Z"⟩
def wsX1_init : List Cond := .code yX1_init cX1_init 2 none :: ([.methodLink RX1 3 objectInit, .instanceMethod objectInit, .code objectInit ⟨#[0xb1]⟩ 1 none, .arrayClass .int, .fieldLink RX1 9 "BigLedger$Natural" "limbs" "[I"] ++ wsX10)
def wsX2_naturals : List Cond := .code yX2_naturals cX2_naturals 4 (some (.array (.object "BigLedger$Natural"))) :: ([.classLink RX2 40 RX1, .instantiable RX1 2, .initialized RX1, .methodLink RX2 42 yX1_init, .instanceMethod yX1_init, .code yX1_init cX1_init 2 none, .methodLink RX1 3 objectInit, .instanceMethod objectInit, .code objectInit ⟨#[0xb1]⟩ 1 none, .arrayClass .int, .fieldLink RX1 9 "BigLedger$Natural" "limbs" "[I"] ++ wsX10)
def wsX0_init : List Cond := .code yX0_init cX0_init 3 none :: ([.methodLink RX0 3 objectInit, .instanceMethod objectInit, .code objectInit ⟨#[0xb1]⟩ 1 none, .fieldLink RX0 13 "BigLedger$Disk" "home" "[LBigLedger$Natural;", .fieldLink RX0 19 "BigLedger$Disk" "log" "[LBigLedger$Natural;", .fieldLink RX0 22 "BigLedger$Disk" "writesUntilStop" "I", .static yX2_naturals, .initialized RX2, .code yX2_naturals cX2_naturals 4 (some (.array (.object "BigLedger$Natural"))), .classLink RX2 40 RX1, .instantiable RX1 2, .initialized RX1, .methodLink RX2 42 yX1_init, .instanceMethod yX1_init, .code yX1_init cX1_init 2 none, .methodLink RX1 3 objectInit, .arrayClass .int, .fieldLink RX1 9 "BigLedger$Natural" "limbs" "[I"] ++ wsX00 ++ wsX10)
def wsX0_passStop : List Cond := .code yX0_passStop cX0_passStop 1 (some .boolean) :: ([.fieldLink RX0 22 "BigLedger$Disk" "writesUntilStop" "I", .fieldLink RX0 48 "BigLedger$Disk" "writesDone" "I"] ++ wsX00)
def wsX0_writeFormatted : List Cond := .code yX0_writeFormatted cX0_writeFormatted 2 (some .boolean) :: ([.fieldLink RX0 54 "BigLedger$Disk" "formatted" "Z", .methodLink RX0 51 yX0_passStop, .instanceMethod yX0_passStop, .selects RX0 yX0_passStop yX0_passStop, .initialized RX0, .code yX0_passStop cX0_passStop 1 (some .boolean), .fieldLink RX0 22 "BigLedger$Disk" "writesUntilStop" "I", .fieldLink RX0 48 "BigLedger$Disk" "writesDone" "I"] ++ wsX00)
def wsX0_writeLogState : List Cond := .code yX0_writeLogState cX0_writeLogState 2 (some .boolean) :: ([.fieldLink RX0 45 "BigLedger$Disk" "committed" "I", .methodLink RX0 51 yX0_passStop, .instanceMethod yX0_passStop, .selects RX0 yX0_passStop yX0_passStop, .initialized RX0, .code yX0_passStop cX0_passStop 1 (some .boolean), .fieldLink RX0 22 "BigLedger$Disk" "writesUntilStop" "I", .fieldLink RX0 48 "BigLedger$Disk" "writesDone" "I"] ++ wsX00)
def wsX1_setZero : List Cond := .code yX1_setZero cX1_setZero 2 none :: ([.fieldLink RX1 9 "BigLedger$Natural" "limbs" "[I", .fieldLink RX1 15 "BigLedger$Natural" "size" "I"] ++ wsX10)
def wsX0_clearHomes : List Cond := .code yX0_clearHomes cX0_clearHomes 2 (some .boolean) :: ([.fieldLink RX0 13 "BigLedger$Disk" "home" "[LBigLedger$Natural;", .methodLink RX0 51 yX0_passStop, .instanceMethod yX0_passStop, .selects RX0 yX0_passStop yX0_passStop, .initialized RX0, .code yX0_passStop cX0_passStop 1 (some .boolean), .fieldLink RX0 22 "BigLedger$Disk" "writesUntilStop" "I", .fieldLink RX0 48 "BigLedger$Disk" "writesDone" "I", .methodLink RX0 68 yX1_setZero, .instanceMethod yX1_setZero, .selects RX1 yX1_setZero yX1_setZero, .initialized RX1, .code yX1_setZero cX1_setZero 2 none, .fieldLink RX1 9 "BigLedger$Natural" "limbs" "[I", .fieldLink RX1 15 "BigLedger$Natural" "size" "I"] ++ wsX00 ++ wsX10)
def wsX0_layOut_r1 : List Cond := [Cond.methodLink RX0 26 yX0_writeFormatted, Cond.instanceMethod yX0_writeFormatted, Cond.selects RX0 yX0_writeFormatted yX0_writeFormatted, Cond.initialized RX0, Cond.code yX0_writeFormatted cX0_writeFormatted 2 (some .boolean), Cond.fieldLink RX0 54 "BigLedger$Disk" "formatted" "Z", Cond.methodLink RX0 51 yX0_passStop, Cond.instanceMethod yX0_passStop, Cond.selects RX0 yX0_passStop yX0_passStop, Cond.code yX0_passStop cX0_passStop 1 (some .boolean), Cond.fieldLink RX0 22 "BigLedger$Disk" "writesUntilStop" "I", Cond.fieldLink RX0 48 "BigLedger$Disk" "writesDone" "I", Cond.methodLink RX0 30 yX0_writeLogState, Cond.instanceMethod yX0_writeLogState, Cond.selects RX0 yX0_writeLogState yX0_writeLogState, Cond.code yX0_writeLogState cX0_writeLogState 2 (some .boolean), Cond.fieldLink RX0 45 "BigLedger$Disk" "committed" "I", Cond.methodLink RX0 34 yX0_clearHomes, Cond.instanceMethod yX0_clearHomes, Cond.selects RX0 yX0_clearHomes yX0_clearHomes, Cond.code yX0_clearHomes cX0_clearHomes 2 (some .boolean), Cond.fieldLink RX0 13 "BigLedger$Disk" "home" "[LBigLedger$Natural;", Cond.methodLink RX0 68 yX1_setZero, Cond.instanceMethod yX1_setZero]
def wsX0_layOut_r2 : List Cond := [Cond.selects RX1 yX1_setZero yX1_setZero, Cond.initialized RX1, Cond.code yX1_setZero cX1_setZero 2 none, Cond.fieldLink RX1 9 "BigLedger$Natural" "limbs" "[I", Cond.fieldLink RX1 15 "BigLedger$Natural" "size" "I"]
def wsX0_layOut : List Cond := .code yX0_layOut cX0_layOut 1 (some .boolean) :: ((wsX0_layOut_r1 ++ wsX0_layOut_r2) ++ wsX00 ++ wsX10)
def wsX2_has : List Cond := .code yX2_has cX2_has 2 (some .boolean) :: ([])
def wsX1_limbAt : List Cond := .code yX1_limbAt cX1_limbAt 2 (some .int) :: ([.fieldLink RX1 15 "BigLedger$Natural" "size" "I", .fieldLink RX1 9 "BigLedger$Natural" "limbs" "[I"] ++ wsX10)
def wsX1_measure : List Cond := .code yX1_measure cX1_measure 1 none :: ([.fieldLink RX1 9 "BigLedger$Natural" "limbs" "[I", .fieldLink RX1 15 "BigLedger$Natural" "size" "I"] ++ wsX10)
def wsX1_setTo : List Cond := .code yX1_setTo cX1_setTo 3 none :: ([.fieldLink RX1 9 "BigLedger$Natural" "limbs" "[I", .methodLink RX1 19 yX1_limbAt, .instanceMethod yX1_limbAt, .selects RX1 yX1_limbAt yX1_limbAt, .initialized RX1, .code yX1_limbAt cX1_limbAt 2 (some .int), .fieldLink RX1 15 "BigLedger$Natural" "size" "I", .methodLink RX1 23 yX1_measure, .instanceMethod yX1_measure, .selects RX1 yX1_measure yX1_measure, .code yX1_measure cX1_measure 1 none] ++ wsX10)
def wsX0_writeBlocks_r1 : List Cond := [Cond.static yX2_has, Cond.initialized RX2, Cond.code yX2_has cX2_has 2 (some .boolean), Cond.methodLink RX0 51 yX0_passStop, Cond.instanceMethod yX0_passStop, Cond.selects RX0 yX0_passStop yX0_passStop, Cond.initialized RX0, Cond.code yX0_passStop cX0_passStop 1 (some .boolean), Cond.fieldLink RX0 22 "BigLedger$Disk" "writesUntilStop" "I", Cond.fieldLink RX0 48 "BigLedger$Disk" "writesDone" "I", Cond.methodLink RX0 62 yX1_setTo, Cond.instanceMethod yX1_setTo, Cond.selects RX1 yX1_setTo yX1_setTo, Cond.initialized RX1, Cond.code yX1_setTo cX1_setTo 3 none, Cond.fieldLink RX1 9 "BigLedger$Natural" "limbs" "[I", Cond.methodLink RX1 19 yX1_limbAt, Cond.instanceMethod yX1_limbAt, Cond.selects RX1 yX1_limbAt yX1_limbAt, Cond.code yX1_limbAt cX1_limbAt 2 (some .int), Cond.fieldLink RX1 15 "BigLedger$Natural" "size" "I", Cond.methodLink RX1 23 yX1_measure, Cond.instanceMethod yX1_measure, Cond.selects RX1 yX1_measure yX1_measure]
def wsX0_writeBlocks_r2 : List Cond := [Cond.code yX1_measure cX1_measure 1 none]
def wsX0_writeBlocks : List Cond := .code yX0_writeBlocks cX0_writeBlocks 5 (some .boolean) :: ((wsX0_writeBlocks_r1 ++ wsX0_writeBlocks_r2) ++ wsX00 ++ wsX10)
def wsX0_bringLogHome_r1 : List Cond := [Cond.fieldLink RX0 45 "BigLedger$Disk" "committed" "I", Cond.fieldLink RX0 13 "BigLedger$Disk" "home" "[LBigLedger$Natural;", Cond.fieldLink RX0 19 "BigLedger$Disk" "log" "[LBigLedger$Natural;", Cond.methodLink RX0 38 yX0_writeBlocks, Cond.instanceMethod yX0_writeBlocks, Cond.selects RX0 yX0_writeBlocks yX0_writeBlocks, Cond.initialized RX0, Cond.code yX0_writeBlocks cX0_writeBlocks 5 (some .boolean), Cond.static yX2_has, Cond.initialized RX2, Cond.code yX2_has cX2_has 2 (some .boolean), Cond.methodLink RX0 51 yX0_passStop, Cond.instanceMethod yX0_passStop, Cond.selects RX0 yX0_passStop yX0_passStop, Cond.code yX0_passStop cX0_passStop 1 (some .boolean), Cond.fieldLink RX0 22 "BigLedger$Disk" "writesUntilStop" "I", Cond.fieldLink RX0 48 "BigLedger$Disk" "writesDone" "I", Cond.methodLink RX0 62 yX1_setTo, Cond.instanceMethod yX1_setTo, Cond.selects RX1 yX1_setTo yX1_setTo, Cond.initialized RX1, Cond.code yX1_setTo cX1_setTo 3 none, Cond.fieldLink RX1 9 "BigLedger$Natural" "limbs" "[I", Cond.methodLink RX1 19 yX1_limbAt]
def wsX0_bringLogHome_r2 : List Cond := [Cond.instanceMethod yX1_limbAt, Cond.selects RX1 yX1_limbAt yX1_limbAt, Cond.code yX1_limbAt cX1_limbAt 2 (some .int), Cond.fieldLink RX1 15 "BigLedger$Natural" "size" "I", Cond.methodLink RX1 23 yX1_measure, Cond.instanceMethod yX1_measure, Cond.selects RX1 yX1_measure yX1_measure, Cond.code yX1_measure cX1_measure 1 none, Cond.methodLink RX0 30 yX0_writeLogState, Cond.instanceMethod yX0_writeLogState, Cond.selects RX0 yX0_writeLogState yX0_writeLogState, Cond.code yX0_writeLogState cX0_writeLogState 2 (some .boolean)]
def wsX0_bringLogHome : List Cond := .code yX0_bringLogHome cX0_bringLogHome 1 (some .boolean) :: ((wsX0_bringLogHome_r1 ++ wsX0_bringLogHome_r2) ++ wsX00 ++ wsX10)
def wsX0_bringThroughLog_r1 : List Cond := [Cond.fieldLink RX0 19 "BigLedger$Disk" "log" "[LBigLedger$Natural;", Cond.methodLink RX0 38 yX0_writeBlocks, Cond.instanceMethod yX0_writeBlocks, Cond.selects RX0 yX0_writeBlocks yX0_writeBlocks, Cond.initialized RX0, Cond.code yX0_writeBlocks cX0_writeBlocks 5 (some .boolean), Cond.static yX2_has, Cond.initialized RX2, Cond.code yX2_has cX2_has 2 (some .boolean), Cond.methodLink RX0 51 yX0_passStop, Cond.instanceMethod yX0_passStop, Cond.selects RX0 yX0_passStop yX0_passStop, Cond.code yX0_passStop cX0_passStop 1 (some .boolean), Cond.fieldLink RX0 22 "BigLedger$Disk" "writesUntilStop" "I", Cond.fieldLink RX0 48 "BigLedger$Disk" "writesDone" "I", Cond.methodLink RX0 62 yX1_setTo, Cond.instanceMethod yX1_setTo, Cond.selects RX1 yX1_setTo yX1_setTo, Cond.initialized RX1, Cond.code yX1_setTo cX1_setTo 3 none, Cond.fieldLink RX1 9 "BigLedger$Natural" "limbs" "[I", Cond.methodLink RX1 19 yX1_limbAt, Cond.instanceMethod yX1_limbAt, Cond.selects RX1 yX1_limbAt yX1_limbAt]
def wsX0_bringThroughLog_r2 : List Cond := [Cond.code yX1_limbAt cX1_limbAt 2 (some .int), Cond.fieldLink RX1 15 "BigLedger$Natural" "size" "I", Cond.methodLink RX1 23 yX1_measure, Cond.instanceMethod yX1_measure, Cond.selects RX1 yX1_measure yX1_measure, Cond.code yX1_measure cX1_measure 1 none, Cond.methodLink RX0 30 yX0_writeLogState, Cond.instanceMethod yX0_writeLogState, Cond.selects RX0 yX0_writeLogState yX0_writeLogState, Cond.code yX0_writeLogState cX0_writeLogState 2 (some .boolean), Cond.fieldLink RX0 45 "BigLedger$Disk" "committed" "I", Cond.methodLink RX0 42 yX0_bringLogHome, Cond.instanceMethod yX0_bringLogHome, Cond.selects RX0 yX0_bringLogHome yX0_bringLogHome, Cond.code yX0_bringLogHome cX0_bringLogHome 1 (some .boolean), Cond.fieldLink RX0 13 "BigLedger$Disk" "home" "[LBigLedger$Natural;"]
def wsX0_bringThroughLog : List Cond := .code yX0_bringThroughLog cX0_bringThroughLog 3 (some .boolean) :: ((wsX0_bringThroughLog_r1 ++ wsX0_bringThroughLog_r2) ++ wsX00 ++ wsX10)
def wsX1_append : List Cond := .code yX1_append cX1_append 3 none :: ([.fieldLink RX1 9 "BigLedger$Natural" "limbs" "[I", .methodLink RX1 23 yX1_measure, .instanceMethod yX1_measure, .selects RX1 yX1_measure yX1_measure, .initialized RX1, .code yX1_measure cX1_measure 1 none, .fieldLink RX1 15 "BigLedger$Natural" "size" "I"] ++ wsX10)
def wsX1_increase : List Cond := .code yX1_increase cX1_increase 7 none :: ([.fieldLink RX1 9 "BigLedger$Natural" "limbs" "[I", .constantLong RX1 26 (2147483647), .methodLink RX1 19 yX1_limbAt, .instanceMethod yX1_limbAt, .selects RX1 yX1_limbAt yX1_limbAt, .initialized RX1, .code yX1_limbAt cX1_limbAt 2 (some .int), .fieldLink RX1 15 "BigLedger$Natural" "size" "I", .methodLink RX1 23 yX1_measure, .instanceMethod yX1_measure, .selects RX1 yX1_measure yX1_measure, .code yX1_measure cX1_measure 1 none] ++ wsX10)
def wsX1_decrease : List Cond := .code yX1_decrease cX1_decrease 7 none :: ([.fieldLink RX1 9 "BigLedger$Natural" "limbs" "[I", .constantLong RX1 26 (2147483647), .methodLink RX1 19 yX1_limbAt, .instanceMethod yX1_limbAt, .selects RX1 yX1_limbAt yX1_limbAt, .initialized RX1, .code yX1_limbAt cX1_limbAt 2 (some .int), .fieldLink RX1 15 "BigLedger$Natural" "size" "I", .methodLink RX1 23 yX1_measure, .instanceMethod yX1_measure, .selects RX1 yX1_measure yX1_measure, .code yX1_measure cX1_measure 1 none] ++ wsX10)
def wsX1_multiply : List Cond := .code yX1_multiply cX1_multiply 7 none :: ([.fieldLink RX1 9 "BigLedger$Natural" "limbs" "[I", .constantLong RX1 26 (2147483647), .methodLink RX1 23 yX1_measure, .instanceMethod yX1_measure, .selects RX1 yX1_measure yX1_measure, .initialized RX1, .code yX1_measure cX1_measure 1 none, .fieldLink RX1 15 "BigLedger$Natural" "size" "I"] ++ wsX10)
def wsX1_divide : List Cond := .code yX1_divide cX1_divide 7 (some .int) :: ([.fieldLink RX1 9 "BigLedger$Natural" "limbs" "[I", .methodLink RX1 23 yX1_measure, .instanceMethod yX1_measure, .selects RX1 yX1_measure yX1_measure, .initialized RX1, .code yX1_measure cX1_measure 1 none, .fieldLink RX1 15 "BigLedger$Natural" "size" "I"] ++ wsX10)
def wsJ6_compare_7cf53 : List Cond := .code yJ6_compare_7cf53 cJ6_compare_7cf53 2 (some .int) :: ([])
def wsX1_standingTo : List Cond := .code yX1_standingTo cX1_standingTo 4 (some .int) :: ([.fieldLink RX1 9 "BigLedger$Natural" "limbs" "[I", .methodLink RX1 19 yX1_limbAt, .instanceMethod yX1_limbAt, .selects RX1 yX1_limbAt yX1_limbAt, .initialized RX1, .code yX1_limbAt cX1_limbAt 2 (some .int), .fieldLink RX1 15 "BigLedger$Natural" "size" "I", .methodLink RX1 28 yJ6_compare_7cf53, .static yJ6_compare_7cf53, .initialized RJ6, .code yJ6_compare_7cf53 cJ6_compare_7cf53 2 (some .int)] ++ wsX10)
def wsX2_within : List Cond := .code yX2_within cX2_within 2 (some .int) :: ([.methodLink RX2 56 Lib.Math.min.name, .static Lib.Math.min.name, .initialized "java/lang/Math", .code Lib.Math.min.name Lib.Math.min.code 2 (some .int), .methodLink RX2 61 Lib.Math.max.name, .static Lib.Math.max.name, .code Lib.Math.max.name Lib.Math.max.code 2 (some .int)])
def wsX2_init_r1 : List Cond := [Cond.methodLink RX2 1 objectInit, Cond.instanceMethod objectInit, Cond.code objectInit ⟨#[0xb1]⟩ 1 none, Cond.fieldLink RX2 13 "BigLedger" "accounts" "I", Cond.fieldLink RX2 17 "BigLedger" "limbs" "I", Cond.fieldLink RX2 20 "BigLedger" "room" "I", Cond.classLink RX2 23 RX0, Cond.instantiable RX0 6, Cond.initialized RX0, Cond.fieldLink RX2 28 "BigLedger" "disk" "LBigLedger$Disk;", Cond.fieldLink RX2 36 "BigLedger" "pending" "[LBigLedger$Natural;", Cond.classLink RX2 40 RX1, Cond.instantiable RX1 2, Cond.initialized RX1, Cond.fieldLink RX2 45 "BigLedger" "amount" "LBigLedger$Natural;", Cond.fieldLink RX2 49 "BigLedger" "scratch" "LBigLedger$Natural;", Cond.arrayClass .byte, Cond.fieldLink RX2 52 "BigLedger" "outBackwards" "[B", Cond.methodLink RX2 9 yX2_within, Cond.static yX2_within, Cond.initialized RX2, Cond.code yX2_within cX2_within 2 (some .int), Cond.methodLink RX2 56 Lib.Math.min.name, Cond.static Lib.Math.min.name]
def wsX2_init_r2 : List Cond := [Cond.initialized "java/lang/Math", Cond.code Lib.Math.min.name Lib.Math.min.code 2 (some .int), Cond.methodLink RX2 61 Lib.Math.max.name, Cond.static Lib.Math.max.name, Cond.code Lib.Math.max.name Lib.Math.max.code 2 (some .int), Cond.methodLink RX2 25 yX0_init, Cond.instanceMethod yX0_init, Cond.code yX0_init cX0_init 3 none, Cond.methodLink RX0 3 objectInit, Cond.fieldLink RX0 13 "BigLedger$Disk" "home" "[LBigLedger$Natural;", Cond.fieldLink RX0 19 "BigLedger$Disk" "log" "[LBigLedger$Natural;", Cond.fieldLink RX0 22 "BigLedger$Disk" "writesUntilStop" "I", Cond.static yX2_naturals, Cond.code yX2_naturals cX2_naturals 4 (some (.array (.object "BigLedger$Natural"))), Cond.methodLink RX2 42 yX1_init, Cond.instanceMethod yX1_init, Cond.code yX1_init cX1_init 2 none, Cond.methodLink RX1 3 objectInit, Cond.arrayClass .int, Cond.fieldLink RX1 9 "BigLedger$Natural" "limbs" "[I", Cond.methodLink RX2 32 yX2_naturals]
def wsX2_init : List Cond := .code yX2_init cX2_init 6 none :: ((wsX2_init_r1 ++ wsX2_init_r2) ++ wsX20 ++ wsX00 ++ wsX10)
def wsX2_dropPending : List Cond := .code yX2_dropPending cX2_dropPending 1 none :: ([.fieldLink RX2 126 "BigLedger" "touched" "I"] ++ wsX20)
def wsX2_loseMemory : List Cond := .code yX2_loseMemory cX2_loseMemory 1 none :: ([.fieldLink RX2 45 "BigLedger" "amount" "LBigLedger$Natural;", .methodLink RX2 133 yX2_dropPending, .instanceMethod yX2_dropPending, .selects RX2 yX2_dropPending yX2_dropPending, .initialized RX2, .code yX2_dropPending cX2_dropPending 1 none, .fieldLink RX2 126 "BigLedger" "touched" "I", .methodLink RX2 81 yX1_setZero, .instanceMethod yX1_setZero, .selects RX1 yX1_setZero yX1_setZero, .initialized RX1, .code yX1_setZero cX1_setZero 2 none, .fieldLink RX1 9 "BigLedger$Natural" "limbs" "[I", .fieldLink RX1 15 "BigLedger$Natural" "size" "I"] ++ wsX20 ++ wsX10)
def wsX2_format_r1 : List Cond := [Cond.fieldLink RX2 28 "BigLedger" "disk" "LBigLedger$Disk;", Cond.fieldLink RX2 71 "BigLedger" "up" "Z", Cond.methodLink RX2 64 yX2_loseMemory, Cond.instanceMethod yX2_loseMemory, Cond.selects RX2 yX2_loseMemory yX2_loseMemory, Cond.initialized RX2, Cond.code yX2_loseMemory cX2_loseMemory 1 none, Cond.fieldLink RX2 45 "BigLedger" "amount" "LBigLedger$Natural;", Cond.methodLink RX2 133 yX2_dropPending, Cond.instanceMethod yX2_dropPending, Cond.selects RX2 yX2_dropPending yX2_dropPending, Cond.code yX2_dropPending cX2_dropPending 1 none, Cond.fieldLink RX2 126 "BigLedger" "touched" "I", Cond.methodLink RX2 81 yX1_setZero, Cond.instanceMethod yX1_setZero, Cond.selects RX1 yX1_setZero yX1_setZero, Cond.initialized RX1, Cond.code yX1_setZero cX1_setZero 2 none, Cond.fieldLink RX1 9 "BigLedger$Natural" "limbs" "[I", Cond.fieldLink RX1 15 "BigLedger$Natural" "size" "I", Cond.methodLink RX2 67 yX0_layOut, Cond.instanceMethod yX0_layOut, Cond.selects RX0 yX0_layOut yX0_layOut, Cond.initialized RX0]
def wsX2_format_r2 : List Cond := [Cond.code yX0_layOut cX0_layOut 1 (some .boolean), Cond.methodLink RX0 26 yX0_writeFormatted, Cond.instanceMethod yX0_writeFormatted, Cond.selects RX0 yX0_writeFormatted yX0_writeFormatted, Cond.code yX0_writeFormatted cX0_writeFormatted 2 (some .boolean), Cond.fieldLink RX0 54 "BigLedger$Disk" "formatted" "Z", Cond.methodLink RX0 51 yX0_passStop, Cond.instanceMethod yX0_passStop, Cond.selects RX0 yX0_passStop yX0_passStop, Cond.code yX0_passStop cX0_passStop 1 (some .boolean), Cond.fieldLink RX0 22 "BigLedger$Disk" "writesUntilStop" "I", Cond.fieldLink RX0 48 "BigLedger$Disk" "writesDone" "I", Cond.methodLink RX0 30 yX0_writeLogState, Cond.instanceMethod yX0_writeLogState, Cond.selects RX0 yX0_writeLogState yX0_writeLogState, Cond.code yX0_writeLogState cX0_writeLogState 2 (some .boolean), Cond.fieldLink RX0 45 "BigLedger$Disk" "committed" "I", Cond.methodLink RX0 34 yX0_clearHomes, Cond.instanceMethod yX0_clearHomes, Cond.selects RX0 yX0_clearHomes yX0_clearHomes, Cond.code yX0_clearHomes cX0_clearHomes 2 (some .boolean), Cond.fieldLink RX0 13 "BigLedger$Disk" "home" "[LBigLedger$Natural;", Cond.methodLink RX0 68 yX1_setZero]
def wsX2_format : List Cond := .code yX2_format cX2_format 1 (some .boolean) :: ((wsX2_format_r1 ++ wsX2_format_r2) ++ wsX20 ++ wsX10 ++ wsX00)
def wsX2_amountLimb : List Cond := .code yX2_amountLimb cX2_amountLimb 2 (some .boolean) :: ([.fieldLink RX2 71 "BigLedger" "up" "Z", .fieldLink RX2 45 "BigLedger" "amount" "LBigLedger$Natural;", .fieldLink RX2 17 "BigLedger" "limbs" "I", .methodLink RX2 78 yX1_append, .instanceMethod yX1_append, .selects RX1 yX1_append yX1_append, .initialized RX1, .code yX1_append cX1_append 3 none, .fieldLink RX1 9 "BigLedger$Natural" "limbs" "[I", .methodLink RX1 23 yX1_measure, .instanceMethod yX1_measure, .selects RX1 yX1_measure yX1_measure, .code yX1_measure cX1_measure 1 none, .fieldLink RX1 15 "BigLedger$Natural" "size" "I"] ++ wsX20 ++ wsX10)
def wsX2_clearAmount : List Cond := .code yX2_clearAmount cX2_clearAmount 1 (some .boolean) :: ([.fieldLink RX2 71 "BigLedger" "up" "Z", .fieldLink RX2 45 "BigLedger" "amount" "LBigLedger$Natural;", .methodLink RX2 81 yX1_setZero, .instanceMethod yX1_setZero, .selects RX1 yX1_setZero yX1_setZero, .initialized RX1, .code yX1_setZero cX1_setZero 2 none, .fieldLink RX1 9 "BigLedger$Natural" "limbs" "[I", .fieldLink RX1 15 "BigLedger$Natural" "size" "I"] ++ wsX20 ++ wsX10)
def wsX2_isAccount : List Cond := .code yX2_isAccount cX2_isAccount 2 (some .boolean) :: ([.fieldLink RX2 13 "BigLedger" "accounts" "I"] ++ wsX20)
def wsX2_seen : List Cond := .code yX2_seen cX2_seen 2 (some (.object "BigLedger$Natural")) :: ([.fieldLink RX2 126 "BigLedger" "touched" "I", .fieldLink RX2 36 "BigLedger" "pending" "[LBigLedger$Natural;", .fieldLink RX2 28 "BigLedger" "disk" "LBigLedger$Disk;", .methodLink RX2 170 yX2_has, .static yX2_has, .initialized RX2, .code yX2_has cX2_has 2 (some .boolean)] ++ wsX20 ++ wsX00)
def wsX2_wouldBeTooGreat_r1 : List Cond := [Cond.fieldLink RX2 49 "BigLedger" "scratch" "LBigLedger$Natural;", Cond.fieldLink RX2 45 "BigLedger" "amount" "LBigLedger$Natural;", Cond.fieldLink RX2 17 "BigLedger" "limbs" "I", Cond.methodLink RX2 113 yX2_seen, Cond.instanceMethod yX2_seen, Cond.selects RX2 yX2_seen yX2_seen, Cond.initialized RX2, Cond.code yX2_seen cX2_seen 2 (some (.object "BigLedger$Natural")), Cond.fieldLink RX2 126 "BigLedger" "touched" "I", Cond.fieldLink RX2 36 "BigLedger" "pending" "[LBigLedger$Natural;", Cond.fieldLink RX2 28 "BigLedger" "disk" "LBigLedger$Disk;", Cond.methodLink RX2 170 yX2_has, Cond.static yX2_has, Cond.code yX2_has cX2_has 2 (some .boolean), Cond.methodLink RX2 116 yX1_setTo, Cond.instanceMethod yX1_setTo, Cond.selects RX1 yX1_setTo yX1_setTo, Cond.initialized RX1, Cond.code yX1_setTo cX1_setTo 3 none, Cond.fieldLink RX1 9 "BigLedger$Natural" "limbs" "[I", Cond.methodLink RX1 19 yX1_limbAt, Cond.instanceMethod yX1_limbAt, Cond.selects RX1 yX1_limbAt yX1_limbAt, Cond.code yX1_limbAt cX1_limbAt 2 (some .int)]
def wsX2_wouldBeTooGreat_r2 : List Cond := [Cond.fieldLink RX1 15 "BigLedger$Natural" "size" "I", Cond.methodLink RX1 23 yX1_measure, Cond.instanceMethod yX1_measure, Cond.selects RX1 yX1_measure yX1_measure, Cond.code yX1_measure cX1_measure 1 none, Cond.methodLink RX2 103 yX1_increase, Cond.instanceMethod yX1_increase, Cond.selects RX1 yX1_increase yX1_increase, Cond.code yX1_increase cX1_increase 7 none, Cond.constantLong RX1 26 (2147483647)]
def wsX2_wouldBeTooGreat : List Cond := .code yX2_wouldBeTooGreat cX2_wouldBeTooGreat 2 (some .boolean) :: ((wsX2_wouldBeTooGreat_r1 ++ wsX2_wouldBeTooGreat_r2) ++ wsX20 ++ wsX10 ++ wsX00)
def wsX2_totalBlock : List Cond := .code yX2_totalBlock cX2_totalBlock 1 (some .int) :: ([.fieldLink RX2 13 "BigLedger" "accounts" "I"] ++ wsX20)
def wsJ6_bitCount_0f7a4 : List Cond := .code yJ6_bitCount_0f7a4 cJ6_bitCount_0f7a4 1 (some .int) :: ([.constant RJ6 265 (1431655765), .constant RJ6 266 (858993459), .constant RJ6 267 (252645135)])
def wsX2_hasRoomFor : List Cond := .code yX2_hasRoomFor cX2_hasRoomFor 3 (some .boolean) :: ([.fieldLink RX2 126 "BigLedger" "touched" "I", .fieldLink RX2 20 "BigLedger" "room" "I", .methodLink RX2 165 yJ6_bitCount_0f7a4, .static yJ6_bitCount_0f7a4, .initialized RJ6, .code yJ6_bitCount_0f7a4 cJ6_bitCount_0f7a4 1 (some .int), .constant RJ6 265 (1431655765), .constant RJ6 266 (858993459), .constant RJ6 267 (252645135)] ++ wsX20)
def wsX2_touch : List Cond := .code yX2_touch cX2_touch 2 (some (.object "BigLedger$Natural")) :: ([.fieldLink RX2 126 "BigLedger" "touched" "I", .fieldLink RX2 36 "BigLedger" "pending" "[LBigLedger$Natural;", .fieldLink RX2 28 "BigLedger" "disk" "LBigLedger$Disk;", .methodLink RX2 170 yX2_has, .static yX2_has, .initialized RX2, .code yX2_has cX2_has 2 (some .boolean), .methodLink RX2 116 yX1_setTo, .instanceMethod yX1_setTo, .selects RX1 yX1_setTo yX1_setTo, .initialized RX1, .code yX1_setTo cX1_setTo 3 none, .fieldLink RX1 9 "BigLedger$Natural" "limbs" "[I", .methodLink RX1 19 yX1_limbAt, .instanceMethod yX1_limbAt, .selects RX1 yX1_limbAt yX1_limbAt, .code yX1_limbAt cX1_limbAt 2 (some .int), .fieldLink RX1 15 "BigLedger$Natural" "size" "I", .methodLink RX1 23 yX1_measure, .instanceMethod yX1_measure, .selects RX1 yX1_measure yX1_measure, .code yX1_measure cX1_measure 1 none] ++ wsX20 ++ wsX00 ++ wsX10)
def wsX2_deposit_r1 : List Cond := [Cond.fieldLink RX2 71 "BigLedger" "up" "Z", Cond.fieldLink RX2 45 "BigLedger" "amount" "LBigLedger$Natural;", Cond.methodLink RX2 84 yX2_isAccount, Cond.instanceMethod yX2_isAccount, Cond.selects RX2 yX2_isAccount yX2_isAccount, Cond.initialized RX2, Cond.code yX2_isAccount cX2_isAccount 2 (some .boolean), Cond.fieldLink RX2 13 "BigLedger" "accounts" "I", Cond.methodLink RX2 88 yX2_wouldBeTooGreat, Cond.instanceMethod yX2_wouldBeTooGreat, Cond.selects RX2 yX2_wouldBeTooGreat yX2_wouldBeTooGreat, Cond.code yX2_wouldBeTooGreat cX2_wouldBeTooGreat 2 (some .boolean), Cond.fieldLink RX2 49 "BigLedger" "scratch" "LBigLedger$Natural;", Cond.fieldLink RX2 17 "BigLedger" "limbs" "I", Cond.methodLink RX2 113 yX2_seen, Cond.instanceMethod yX2_seen, Cond.selects RX2 yX2_seen yX2_seen, Cond.code yX2_seen cX2_seen 2 (some (.object "BigLedger$Natural")), Cond.fieldLink RX2 126 "BigLedger" "touched" "I", Cond.fieldLink RX2 36 "BigLedger" "pending" "[LBigLedger$Natural;", Cond.fieldLink RX2 28 "BigLedger" "disk" "LBigLedger$Disk;", Cond.methodLink RX2 170 yX2_has, Cond.static yX2_has, Cond.code yX2_has cX2_has 2 (some .boolean)]
def wsX2_deposit_r2 : List Cond := [Cond.methodLink RX2 116 yX1_setTo, Cond.instanceMethod yX1_setTo, Cond.selects RX1 yX1_setTo yX1_setTo, Cond.initialized RX1, Cond.code yX1_setTo cX1_setTo 3 none, Cond.fieldLink RX1 9 "BigLedger$Natural" "limbs" "[I", Cond.methodLink RX1 19 yX1_limbAt, Cond.instanceMethod yX1_limbAt, Cond.selects RX1 yX1_limbAt yX1_limbAt, Cond.code yX1_limbAt cX1_limbAt 2 (some .int), Cond.fieldLink RX1 15 "BigLedger$Natural" "size" "I", Cond.methodLink RX1 23 yX1_measure, Cond.instanceMethod yX1_measure, Cond.selects RX1 yX1_measure yX1_measure, Cond.code yX1_measure cX1_measure 1 none, Cond.methodLink RX2 103 yX1_increase, Cond.instanceMethod yX1_increase, Cond.selects RX1 yX1_increase yX1_increase, Cond.code yX1_increase cX1_increase 7 none, Cond.constantLong RX1 26 (2147483647), Cond.methodLink RX2 91 yX2_totalBlock, Cond.instanceMethod yX2_totalBlock, Cond.selects RX2 yX2_totalBlock yX2_totalBlock, Cond.code yX2_totalBlock cX2_totalBlock 1 (some .int)]
def wsX2_deposit_r3 : List Cond := [Cond.methodLink RX2 95 yX2_hasRoomFor, Cond.instanceMethod yX2_hasRoomFor, Cond.selects RX2 yX2_hasRoomFor yX2_hasRoomFor, Cond.code yX2_hasRoomFor cX2_hasRoomFor 3 (some .boolean), Cond.fieldLink RX2 20 "BigLedger" "room" "I", Cond.methodLink RX2 165 yJ6_bitCount_0f7a4, Cond.static yJ6_bitCount_0f7a4, Cond.initialized RJ6, Cond.code yJ6_bitCount_0f7a4 cJ6_bitCount_0f7a4 1 (some .int), Cond.constant RJ6 265 (1431655765), Cond.constant RJ6 266 (858993459), Cond.constant RJ6 267 (252645135), Cond.methodLink RX2 99 yX2_touch, Cond.instanceMethod yX2_touch, Cond.selects RX2 yX2_touch yX2_touch, Cond.code yX2_touch cX2_touch 2 (some (.object "BigLedger$Natural"))]
def wsX2_deposit : List Cond := .code yX2_deposit cX2_deposit 2 (some .int) :: ((wsX2_deposit_r1 ++ (wsX2_deposit_r2 ++ wsX2_deposit_r3)) ++ wsX20 ++ wsX10 ++ wsX00)
def wsX2_isAmountAbove_r1 : List Cond := [Cond.fieldLink RX2 45 "BigLedger" "amount" "LBigLedger$Natural;", Cond.methodLink RX2 113 yX2_seen, Cond.instanceMethod yX2_seen, Cond.selects RX2 yX2_seen yX2_seen, Cond.initialized RX2, Cond.code yX2_seen cX2_seen 2 (some (.object "BigLedger$Natural")), Cond.fieldLink RX2 126 "BigLedger" "touched" "I", Cond.fieldLink RX2 36 "BigLedger" "pending" "[LBigLedger$Natural;", Cond.fieldLink RX2 28 "BigLedger" "disk" "LBigLedger$Disk;", Cond.methodLink RX2 170 yX2_has, Cond.static yX2_has, Cond.code yX2_has cX2_has 2 (some .boolean), Cond.methodLink RX2 139 yX1_standingTo, Cond.instanceMethod yX1_standingTo, Cond.selects RX1 yX1_standingTo yX1_standingTo, Cond.initialized RX1, Cond.code yX1_standingTo cX1_standingTo 4 (some .int), Cond.fieldLink RX1 9 "BigLedger$Natural" "limbs" "[I", Cond.methodLink RX1 19 yX1_limbAt, Cond.instanceMethod yX1_limbAt, Cond.selects RX1 yX1_limbAt yX1_limbAt, Cond.code yX1_limbAt cX1_limbAt 2 (some .int), Cond.fieldLink RX1 15 "BigLedger$Natural" "size" "I", Cond.methodLink RX1 28 yJ6_compare_7cf53]
def wsX2_isAmountAbove_r2 : List Cond := [Cond.static yJ6_compare_7cf53, Cond.initialized RJ6, Cond.code yJ6_compare_7cf53 cJ6_compare_7cf53 2 (some .int)]
def wsX2_isAmountAbove : List Cond := .code yX2_isAmountAbove cX2_isAmountAbove 2 (some .boolean) :: ((wsX2_isAmountAbove_r1 ++ wsX2_isAmountAbove_r2) ++ wsX20 ++ wsX00 ++ wsX10)
def wsX2_withdraw_r1 : List Cond := [Cond.fieldLink RX2 71 "BigLedger" "up" "Z", Cond.fieldLink RX2 45 "BigLedger" "amount" "LBigLedger$Natural;", Cond.methodLink RX2 84 yX2_isAccount, Cond.instanceMethod yX2_isAccount, Cond.selects RX2 yX2_isAccount yX2_isAccount, Cond.initialized RX2, Cond.code yX2_isAccount cX2_isAccount 2 (some .boolean), Cond.fieldLink RX2 13 "BigLedger" "accounts" "I", Cond.methodLink RX2 107 yX2_isAmountAbove, Cond.instanceMethod yX2_isAmountAbove, Cond.selects RX2 yX2_isAmountAbove yX2_isAmountAbove, Cond.code yX2_isAmountAbove cX2_isAmountAbove 2 (some .boolean), Cond.methodLink RX2 113 yX2_seen, Cond.instanceMethod yX2_seen, Cond.selects RX2 yX2_seen yX2_seen, Cond.code yX2_seen cX2_seen 2 (some (.object "BigLedger$Natural")), Cond.fieldLink RX2 126 "BigLedger" "touched" "I", Cond.fieldLink RX2 36 "BigLedger" "pending" "[LBigLedger$Natural;", Cond.fieldLink RX2 28 "BigLedger" "disk" "LBigLedger$Disk;", Cond.methodLink RX2 170 yX2_has, Cond.static yX2_has, Cond.code yX2_has cX2_has 2 (some .boolean), Cond.methodLink RX2 139 yX1_standingTo, Cond.instanceMethod yX1_standingTo]
def wsX2_withdraw_r2 : List Cond := [Cond.selects RX1 yX1_standingTo yX1_standingTo, Cond.initialized RX1, Cond.code yX1_standingTo cX1_standingTo 4 (some .int), Cond.fieldLink RX1 9 "BigLedger$Natural" "limbs" "[I", Cond.methodLink RX1 19 yX1_limbAt, Cond.instanceMethod yX1_limbAt, Cond.selects RX1 yX1_limbAt yX1_limbAt, Cond.code yX1_limbAt cX1_limbAt 2 (some .int), Cond.fieldLink RX1 15 "BigLedger$Natural" "size" "I", Cond.methodLink RX1 28 yJ6_compare_7cf53, Cond.static yJ6_compare_7cf53, Cond.initialized RJ6, Cond.code yJ6_compare_7cf53 cJ6_compare_7cf53 2 (some .int), Cond.methodLink RX2 91 yX2_totalBlock, Cond.instanceMethod yX2_totalBlock, Cond.selects RX2 yX2_totalBlock yX2_totalBlock, Cond.code yX2_totalBlock cX2_totalBlock 1 (some .int), Cond.methodLink RX2 95 yX2_hasRoomFor, Cond.instanceMethod yX2_hasRoomFor, Cond.selects RX2 yX2_hasRoomFor yX2_hasRoomFor, Cond.code yX2_hasRoomFor cX2_hasRoomFor 3 (some .boolean), Cond.fieldLink RX2 20 "BigLedger" "room" "I", Cond.methodLink RX2 165 yJ6_bitCount_0f7a4, Cond.static yJ6_bitCount_0f7a4]
def wsX2_withdraw_r3 : List Cond := [Cond.code yJ6_bitCount_0f7a4 cJ6_bitCount_0f7a4 1 (some .int), Cond.constant RJ6 265 (1431655765), Cond.constant RJ6 266 (858993459), Cond.constant RJ6 267 (252645135), Cond.methodLink RX2 99 yX2_touch, Cond.instanceMethod yX2_touch, Cond.selects RX2 yX2_touch yX2_touch, Cond.code yX2_touch cX2_touch 2 (some (.object "BigLedger$Natural")), Cond.methodLink RX2 116 yX1_setTo, Cond.instanceMethod yX1_setTo, Cond.selects RX1 yX1_setTo yX1_setTo, Cond.code yX1_setTo cX1_setTo 3 none, Cond.methodLink RX1 23 yX1_measure, Cond.instanceMethod yX1_measure, Cond.selects RX1 yX1_measure yX1_measure, Cond.code yX1_measure cX1_measure 1 none, Cond.methodLink RX2 110 yX1_decrease, Cond.instanceMethod yX1_decrease, Cond.selects RX1 yX1_decrease yX1_decrease, Cond.code yX1_decrease cX1_decrease 7 none, Cond.constantLong RX1 26 (2147483647)]
def wsX2_withdraw : List Cond := .code yX2_withdraw cX2_withdraw 2 (some .int) :: ((wsX2_withdraw_r1 ++ (wsX2_withdraw_r2 ++ wsX2_withdraw_r3)) ++ wsX20 ++ wsX00 ++ wsX10)
def wsX2_transfer_r1 : List Cond := [Cond.fieldLink RX2 71 "BigLedger" "up" "Z", Cond.fieldLink RX2 45 "BigLedger" "amount" "LBigLedger$Natural;", Cond.methodLink RX2 84 yX2_isAccount, Cond.instanceMethod yX2_isAccount, Cond.selects RX2 yX2_isAccount yX2_isAccount, Cond.initialized RX2, Cond.code yX2_isAccount cX2_isAccount 2 (some .boolean), Cond.fieldLink RX2 13 "BigLedger" "accounts" "I", Cond.methodLink RX2 107 yX2_isAmountAbove, Cond.instanceMethod yX2_isAmountAbove, Cond.selects RX2 yX2_isAmountAbove yX2_isAmountAbove, Cond.code yX2_isAmountAbove cX2_isAmountAbove 2 (some .boolean), Cond.methodLink RX2 113 yX2_seen, Cond.instanceMethod yX2_seen, Cond.selects RX2 yX2_seen yX2_seen, Cond.code yX2_seen cX2_seen 2 (some (.object "BigLedger$Natural")), Cond.fieldLink RX2 126 "BigLedger" "touched" "I", Cond.fieldLink RX2 36 "BigLedger" "pending" "[LBigLedger$Natural;", Cond.fieldLink RX2 28 "BigLedger" "disk" "LBigLedger$Disk;", Cond.methodLink RX2 170 yX2_has, Cond.static yX2_has, Cond.code yX2_has cX2_has 2 (some .boolean), Cond.methodLink RX2 139 yX1_standingTo, Cond.instanceMethod yX1_standingTo]
def wsX2_transfer_r2 : List Cond := [Cond.selects RX1 yX1_standingTo yX1_standingTo, Cond.initialized RX1, Cond.code yX1_standingTo cX1_standingTo 4 (some .int), Cond.fieldLink RX1 9 "BigLedger$Natural" "limbs" "[I", Cond.methodLink RX1 19 yX1_limbAt, Cond.instanceMethod yX1_limbAt, Cond.selects RX1 yX1_limbAt yX1_limbAt, Cond.code yX1_limbAt cX1_limbAt 2 (some .int), Cond.fieldLink RX1 15 "BigLedger$Natural" "size" "I", Cond.methodLink RX1 28 yJ6_compare_7cf53, Cond.static yJ6_compare_7cf53, Cond.initialized RJ6, Cond.code yJ6_compare_7cf53 cJ6_compare_7cf53 2 (some .int), Cond.methodLink RX2 88 yX2_wouldBeTooGreat, Cond.instanceMethod yX2_wouldBeTooGreat, Cond.selects RX2 yX2_wouldBeTooGreat yX2_wouldBeTooGreat, Cond.code yX2_wouldBeTooGreat cX2_wouldBeTooGreat 2 (some .boolean), Cond.fieldLink RX2 49 "BigLedger" "scratch" "LBigLedger$Natural;", Cond.fieldLink RX2 17 "BigLedger" "limbs" "I", Cond.methodLink RX2 116 yX1_setTo, Cond.instanceMethod yX1_setTo, Cond.selects RX1 yX1_setTo yX1_setTo, Cond.code yX1_setTo cX1_setTo 3 none, Cond.methodLink RX1 23 yX1_measure]
def wsX2_transfer_r3 : List Cond := [Cond.instanceMethod yX1_measure, Cond.selects RX1 yX1_measure yX1_measure, Cond.code yX1_measure cX1_measure 1 none, Cond.methodLink RX2 103 yX1_increase, Cond.instanceMethod yX1_increase, Cond.selects RX1 yX1_increase yX1_increase, Cond.code yX1_increase cX1_increase 7 none, Cond.constantLong RX1 26 (2147483647), Cond.methodLink RX2 95 yX2_hasRoomFor, Cond.instanceMethod yX2_hasRoomFor, Cond.selects RX2 yX2_hasRoomFor yX2_hasRoomFor, Cond.code yX2_hasRoomFor cX2_hasRoomFor 3 (some .boolean), Cond.fieldLink RX2 20 "BigLedger" "room" "I", Cond.methodLink RX2 165 yJ6_bitCount_0f7a4, Cond.static yJ6_bitCount_0f7a4, Cond.code yJ6_bitCount_0f7a4 cJ6_bitCount_0f7a4 1 (some .int), Cond.constant RJ6 265 (1431655765), Cond.constant RJ6 266 (858993459), Cond.constant RJ6 267 (252645135), Cond.methodLink RX2 99 yX2_touch, Cond.instanceMethod yX2_touch, Cond.selects RX2 yX2_touch yX2_touch, Cond.code yX2_touch cX2_touch 2 (some (.object "BigLedger$Natural")), Cond.methodLink RX2 110 yX1_decrease]
def wsX2_transfer_r4 : List Cond := [Cond.instanceMethod yX1_decrease, Cond.selects RX1 yX1_decrease yX1_decrease, Cond.code yX1_decrease cX1_decrease 7 none]
def wsX2_transfer : List Cond := .code yX2_transfer cX2_transfer 3 (some .int) :: ((wsX2_transfer_r1 ++ (wsX2_transfer_r2 ++ (wsX2_transfer_r3 ++ wsX2_transfer_r4))) ++ wsX20 ++ wsX00 ++ wsX10)
def wsX2_part_r1 : List Cond := [Cond.fieldLink RX2 71 "BigLedger" "up" "Z", Cond.fieldLink RX2 45 "BigLedger" "amount" "LBigLedger$Natural;", Cond.methodLink RX2 84 yX2_isAccount, Cond.instanceMethod yX2_isAccount, Cond.selects RX2 yX2_isAccount yX2_isAccount, Cond.initialized RX2, Cond.code yX2_isAccount cX2_isAccount 2 (some .boolean), Cond.fieldLink RX2 13 "BigLedger" "accounts" "I", Cond.methodLink RX2 113 yX2_seen, Cond.instanceMethod yX2_seen, Cond.selects RX2 yX2_seen yX2_seen, Cond.code yX2_seen cX2_seen 2 (some (.object "BigLedger$Natural")), Cond.fieldLink RX2 126 "BigLedger" "touched" "I", Cond.fieldLink RX2 36 "BigLedger" "pending" "[LBigLedger$Natural;", Cond.fieldLink RX2 28 "BigLedger" "disk" "LBigLedger$Disk;", Cond.methodLink RX2 170 yX2_has, Cond.static yX2_has, Cond.code yX2_has cX2_has 2 (some .boolean), Cond.methodLink RX2 116 yX1_setTo, Cond.instanceMethod yX1_setTo, Cond.selects RX1 yX1_setTo yX1_setTo, Cond.initialized RX1, Cond.code yX1_setTo cX1_setTo 3 none, Cond.fieldLink RX1 9 "BigLedger$Natural" "limbs" "[I"]
def wsX2_part_r2 : List Cond := [Cond.methodLink RX1 19 yX1_limbAt, Cond.instanceMethod yX1_limbAt, Cond.selects RX1 yX1_limbAt yX1_limbAt, Cond.code yX1_limbAt cX1_limbAt 2 (some .int), Cond.fieldLink RX1 15 "BigLedger$Natural" "size" "I", Cond.methodLink RX1 23 yX1_measure, Cond.instanceMethod yX1_measure, Cond.selects RX1 yX1_measure yX1_measure, Cond.code yX1_measure cX1_measure 1 none, Cond.methodLink RX2 119 yX1_multiply, Cond.instanceMethod yX1_multiply, Cond.selects RX1 yX1_multiply yX1_multiply, Cond.code yX1_multiply cX1_multiply 7 none, Cond.constantLong RX1 26 (2147483647), Cond.methodLink RX2 122 yX1_divide, Cond.instanceMethod yX1_divide, Cond.selects RX1 yX1_divide yX1_divide, Cond.code yX1_divide cX1_divide 7 (some .int)]
def wsX2_part : List Cond := .code yX2_part cX2_part 4 (some .int) :: ((wsX2_part_r1 ++ wsX2_part_r2) ++ wsX20 ++ wsX00 ++ wsX10)
def wsX2_commit_r1 : List Cond := [Cond.fieldLink RX2 71 "BigLedger" "up" "Z", Cond.fieldLink RX2 28 "BigLedger" "disk" "LBigLedger$Disk;", Cond.fieldLink RX2 126 "BigLedger" "touched" "I", Cond.fieldLink RX2 36 "BigLedger" "pending" "[LBigLedger$Natural;", Cond.methodLink RX2 129 yX0_bringThroughLog, Cond.instanceMethod yX0_bringThroughLog, Cond.selects RX0 yX0_bringThroughLog yX0_bringThroughLog, Cond.initialized RX0, Cond.code yX0_bringThroughLog cX0_bringThroughLog 3 (some .boolean), Cond.fieldLink RX0 19 "BigLedger$Disk" "log" "[LBigLedger$Natural;", Cond.methodLink RX0 38 yX0_writeBlocks, Cond.instanceMethod yX0_writeBlocks, Cond.selects RX0 yX0_writeBlocks yX0_writeBlocks, Cond.code yX0_writeBlocks cX0_writeBlocks 5 (some .boolean), Cond.static yX2_has, Cond.initialized RX2, Cond.code yX2_has cX2_has 2 (some .boolean), Cond.methodLink RX0 51 yX0_passStop, Cond.instanceMethod yX0_passStop, Cond.selects RX0 yX0_passStop yX0_passStop, Cond.code yX0_passStop cX0_passStop 1 (some .boolean), Cond.fieldLink RX0 22 "BigLedger$Disk" "writesUntilStop" "I", Cond.fieldLink RX0 48 "BigLedger$Disk" "writesDone" "I", Cond.methodLink RX0 62 yX1_setTo]
def wsX2_commit_r2 : List Cond := [Cond.instanceMethod yX1_setTo, Cond.selects RX1 yX1_setTo yX1_setTo, Cond.initialized RX1, Cond.code yX1_setTo cX1_setTo 3 none, Cond.fieldLink RX1 9 "BigLedger$Natural" "limbs" "[I", Cond.methodLink RX1 19 yX1_limbAt, Cond.instanceMethod yX1_limbAt, Cond.selects RX1 yX1_limbAt yX1_limbAt, Cond.code yX1_limbAt cX1_limbAt 2 (some .int), Cond.fieldLink RX1 15 "BigLedger$Natural" "size" "I", Cond.methodLink RX1 23 yX1_measure, Cond.instanceMethod yX1_measure, Cond.selects RX1 yX1_measure yX1_measure, Cond.code yX1_measure cX1_measure 1 none, Cond.methodLink RX0 30 yX0_writeLogState, Cond.instanceMethod yX0_writeLogState, Cond.selects RX0 yX0_writeLogState yX0_writeLogState, Cond.code yX0_writeLogState cX0_writeLogState 2 (some .boolean), Cond.fieldLink RX0 45 "BigLedger$Disk" "committed" "I", Cond.methodLink RX0 42 yX0_bringLogHome, Cond.instanceMethod yX0_bringLogHome, Cond.selects RX0 yX0_bringLogHome yX0_bringLogHome, Cond.code yX0_bringLogHome cX0_bringLogHome 1 (some .boolean), Cond.fieldLink RX0 13 "BigLedger$Disk" "home" "[LBigLedger$Natural;"]
def wsX2_commit_r3 : List Cond := [Cond.methodLink RX2 64 yX2_loseMemory, Cond.instanceMethod yX2_loseMemory, Cond.selects RX2 yX2_loseMemory yX2_loseMemory, Cond.code yX2_loseMemory cX2_loseMemory 1 none, Cond.fieldLink RX2 45 "BigLedger" "amount" "LBigLedger$Natural;", Cond.methodLink RX2 133 yX2_dropPending, Cond.instanceMethod yX2_dropPending, Cond.selects RX2 yX2_dropPending yX2_dropPending, Cond.code yX2_dropPending cX2_dropPending 1 none, Cond.methodLink RX2 81 yX1_setZero, Cond.instanceMethod yX1_setZero, Cond.selects RX1 yX1_setZero yX1_setZero, Cond.code yX1_setZero cX1_setZero 2 none]
def wsX2_commit : List Cond := .code yX2_commit cX2_commit 1 (some .int) :: ((wsX2_commit_r1 ++ (wsX2_commit_r2 ++ wsX2_commit_r3)) ++ wsX20 ++ wsX00 ++ wsX10)
def wsX2_abort : List Cond := .code yX2_abort cX2_abort 1 (some .boolean) :: ([.fieldLink RX2 71 "BigLedger" "up" "Z", .methodLink RX2 133 yX2_dropPending, .instanceMethod yX2_dropPending, .selects RX2 yX2_dropPending yX2_dropPending, .initialized RX2, .code yX2_dropPending cX2_dropPending 1 none, .fieldLink RX2 126 "BigLedger" "touched" "I"] ++ wsX20)
def wsX2_balanceSize : List Cond := .code yX2_balanceSize cX2_balanceSize 2 (some .int) :: ([.fieldLink RX2 71 "BigLedger" "up" "Z", .methodLink RX2 84 yX2_isAccount, .instanceMethod yX2_isAccount, .selects RX2 yX2_isAccount yX2_isAccount, .initialized RX2, .code yX2_isAccount cX2_isAccount 2 (some .boolean), .fieldLink RX2 13 "BigLedger" "accounts" "I", .methodLink RX2 113 yX2_seen, .instanceMethod yX2_seen, .selects RX2 yX2_seen yX2_seen, .code yX2_seen cX2_seen 2 (some (.object "BigLedger$Natural")), .fieldLink RX2 126 "BigLedger" "touched" "I", .fieldLink RX2 36 "BigLedger" "pending" "[LBigLedger$Natural;", .fieldLink RX2 28 "BigLedger" "disk" "LBigLedger$Disk;", .methodLink RX2 170 yX2_has, .static yX2_has, .code yX2_has cX2_has 2 (some .boolean)] ++ wsX20 ++ wsX10 ++ wsX00)
def wsX2_balanceLimb : List Cond := .code yX2_balanceLimb cX2_balanceLimb 3 (some .int) :: ([.fieldLink RX2 71 "BigLedger" "up" "Z", .methodLink RX2 84 yX2_isAccount, .instanceMethod yX2_isAccount, .selects RX2 yX2_isAccount yX2_isAccount, .initialized RX2, .code yX2_isAccount cX2_isAccount 2 (some .boolean), .fieldLink RX2 13 "BigLedger" "accounts" "I", .methodLink RX2 113 yX2_seen, .instanceMethod yX2_seen, .selects RX2 yX2_seen yX2_seen, .code yX2_seen cX2_seen 2 (some (.object "BigLedger$Natural")), .fieldLink RX2 126 "BigLedger" "touched" "I", .fieldLink RX2 36 "BigLedger" "pending" "[LBigLedger$Natural;", .fieldLink RX2 28 "BigLedger" "disk" "LBigLedger$Disk;", .methodLink RX2 170 yX2_has, .static yX2_has, .code yX2_has cX2_has 2 (some .boolean), .methodLink RX2 136 yX1_limbAt, .instanceMethod yX1_limbAt, .selects RX1 yX1_limbAt yX1_limbAt, .initialized RX1, .code yX1_limbAt cX1_limbAt 2 (some .int), .fieldLink RX1 15 "BigLedger$Natural" "size" "I", .fieldLink RX1 9 "BigLedger$Natural" "limbs" "[I"] ++ wsX20 ++ wsX00 ++ wsX10)
def wsX2_totalLimb : List Cond := .code yX2_totalLimb cX2_totalLimb 2 (some .int) :: ([.fieldLink RX2 71 "BigLedger" "up" "Z", .methodLink RX2 91 yX2_totalBlock, .instanceMethod yX2_totalBlock, .selects RX2 yX2_totalBlock yX2_totalBlock, .initialized RX2, .code yX2_totalBlock cX2_totalBlock 1 (some .int), .fieldLink RX2 13 "BigLedger" "accounts" "I", .methodLink RX2 113 yX2_seen, .instanceMethod yX2_seen, .selects RX2 yX2_seen yX2_seen, .code yX2_seen cX2_seen 2 (some (.object "BigLedger$Natural")), .fieldLink RX2 126 "BigLedger" "touched" "I", .fieldLink RX2 36 "BigLedger" "pending" "[LBigLedger$Natural;", .fieldLink RX2 28 "BigLedger" "disk" "LBigLedger$Disk;", .methodLink RX2 170 yX2_has, .static yX2_has, .code yX2_has cX2_has 2 (some .boolean), .methodLink RX2 136 yX1_limbAt, .instanceMethod yX1_limbAt, .selects RX1 yX1_limbAt yX1_limbAt, .initialized RX1, .code yX1_limbAt cX1_limbAt 2 (some .int), .fieldLink RX1 15 "BigLedger$Natural" "size" "I", .fieldLink RX1 9 "BigLedger$Natural" "limbs" "[I"] ++ wsX20 ++ wsX00 ++ wsX10)
def wsX2_amount : List Cond := .code yX2_amount cX2_amount 2 (some .int) :: ([.fieldLink RX2 71 "BigLedger" "up" "Z", .fieldLink RX2 45 "BigLedger" "amount" "LBigLedger$Natural;", .methodLink RX2 136 yX1_limbAt, .instanceMethod yX1_limbAt, .selects RX1 yX1_limbAt yX1_limbAt, .initialized RX1, .code yX1_limbAt cX1_limbAt 2 (some .int), .fieldLink RX1 15 "BigLedger$Natural" "size" "I", .fieldLink RX1 9 "BigLedger$Natural" "limbs" "[I"] ++ wsX20 ++ wsX10)
def wsX2_compare_r1 : List Cond := [Cond.fieldLink RX2 71 "BigLedger" "up" "Z", Cond.methodLink RX2 84 yX2_isAccount, Cond.instanceMethod yX2_isAccount, Cond.selects RX2 yX2_isAccount yX2_isAccount, Cond.initialized RX2, Cond.code yX2_isAccount cX2_isAccount 2 (some .boolean), Cond.fieldLink RX2 13 "BigLedger" "accounts" "I", Cond.methodLink RX2 113 yX2_seen, Cond.instanceMethod yX2_seen, Cond.selects RX2 yX2_seen yX2_seen, Cond.code yX2_seen cX2_seen 2 (some (.object "BigLedger$Natural")), Cond.fieldLink RX2 126 "BigLedger" "touched" "I", Cond.fieldLink RX2 36 "BigLedger" "pending" "[LBigLedger$Natural;", Cond.fieldLink RX2 28 "BigLedger" "disk" "LBigLedger$Disk;", Cond.methodLink RX2 170 yX2_has, Cond.static yX2_has, Cond.code yX2_has cX2_has 2 (some .boolean), Cond.methodLink RX2 139 yX1_standingTo, Cond.instanceMethod yX1_standingTo, Cond.selects RX1 yX1_standingTo yX1_standingTo, Cond.initialized RX1, Cond.code yX1_standingTo cX1_standingTo 4 (some .int), Cond.fieldLink RX1 9 "BigLedger$Natural" "limbs" "[I", Cond.methodLink RX1 19 yX1_limbAt]
def wsX2_compare_r2 : List Cond := [Cond.instanceMethod yX1_limbAt, Cond.selects RX1 yX1_limbAt yX1_limbAt, Cond.code yX1_limbAt cX1_limbAt 2 (some .int), Cond.fieldLink RX1 15 "BigLedger$Natural" "size" "I", Cond.methodLink RX1 28 yJ6_compare_7cf53, Cond.static yJ6_compare_7cf53, Cond.initialized RJ6, Cond.code yJ6_compare_7cf53 cJ6_compare_7cf53 2 (some .int)]
def wsX2_compare : List Cond := .code yX2_compare cX2_compare 3 (some .int) :: ((wsX2_compare_r1 ++ wsX2_compare_r2) ++ wsX20 ++ wsX00 ++ wsX10)
def wsX2_stopAfter : List Cond := .code yX2_stopAfter cX2_stopAfter 2 none :: ([.fieldLink RX2 28 "BigLedger" "disk" "LBigLedger$Disk;"] ++ wsX20 ++ wsX00)
def wsX2_recover_r1 : List Cond := [Cond.fieldLink RX2 28 "BigLedger" "disk" "LBigLedger$Disk;", Cond.fieldLink RX2 71 "BigLedger" "up" "Z", Cond.methodLink RX2 64 yX2_loseMemory, Cond.instanceMethod yX2_loseMemory, Cond.selects RX2 yX2_loseMemory yX2_loseMemory, Cond.initialized RX2, Cond.code yX2_loseMemory cX2_loseMemory 1 none, Cond.fieldLink RX2 45 "BigLedger" "amount" "LBigLedger$Natural;", Cond.methodLink RX2 133 yX2_dropPending, Cond.instanceMethod yX2_dropPending, Cond.selects RX2 yX2_dropPending yX2_dropPending, Cond.code yX2_dropPending cX2_dropPending 1 none, Cond.fieldLink RX2 126 "BigLedger" "touched" "I", Cond.methodLink RX2 81 yX1_setZero, Cond.instanceMethod yX1_setZero, Cond.selects RX1 yX1_setZero yX1_setZero, Cond.initialized RX1, Cond.code yX1_setZero cX1_setZero 2 none, Cond.fieldLink RX1 9 "BigLedger$Natural" "limbs" "[I", Cond.fieldLink RX1 15 "BigLedger$Natural" "size" "I", Cond.methodLink RX2 149 yX0_bringLogHome, Cond.instanceMethod yX0_bringLogHome, Cond.selects RX0 yX0_bringLogHome yX0_bringLogHome, Cond.initialized RX0]
def wsX2_recover_r2 : List Cond := [Cond.code yX0_bringLogHome cX0_bringLogHome 1 (some .boolean), Cond.fieldLink RX0 45 "BigLedger$Disk" "committed" "I", Cond.fieldLink RX0 13 "BigLedger$Disk" "home" "[LBigLedger$Natural;", Cond.fieldLink RX0 19 "BigLedger$Disk" "log" "[LBigLedger$Natural;", Cond.methodLink RX0 38 yX0_writeBlocks, Cond.instanceMethod yX0_writeBlocks, Cond.selects RX0 yX0_writeBlocks yX0_writeBlocks, Cond.code yX0_writeBlocks cX0_writeBlocks 5 (some .boolean), Cond.static yX2_has, Cond.code yX2_has cX2_has 2 (some .boolean), Cond.methodLink RX0 51 yX0_passStop, Cond.instanceMethod yX0_passStop, Cond.selects RX0 yX0_passStop yX0_passStop, Cond.code yX0_passStop cX0_passStop 1 (some .boolean), Cond.fieldLink RX0 22 "BigLedger$Disk" "writesUntilStop" "I", Cond.fieldLink RX0 48 "BigLedger$Disk" "writesDone" "I", Cond.methodLink RX0 62 yX1_setTo, Cond.instanceMethod yX1_setTo, Cond.selects RX1 yX1_setTo yX1_setTo, Cond.code yX1_setTo cX1_setTo 3 none, Cond.methodLink RX1 19 yX1_limbAt, Cond.instanceMethod yX1_limbAt, Cond.selects RX1 yX1_limbAt yX1_limbAt, Cond.code yX1_limbAt cX1_limbAt 2 (some .int)]
def wsX2_recover_r3 : List Cond := [Cond.methodLink RX1 23 yX1_measure, Cond.instanceMethod yX1_measure, Cond.selects RX1 yX1_measure yX1_measure, Cond.code yX1_measure cX1_measure 1 none, Cond.methodLink RX0 30 yX0_writeLogState, Cond.instanceMethod yX0_writeLogState, Cond.selects RX0 yX0_writeLogState yX0_writeLogState, Cond.code yX0_writeLogState cX0_writeLogState 2 (some .boolean)]
def wsX2_recover : List Cond := .code yX2_recover cX2_recover 1 (some .boolean) :: ((wsX2_recover_r1 ++ (wsX2_recover_r2 ++ wsX2_recover_r3)) ++ wsX20 ++ wsX00 ++ wsX10)
def wsX2_write_r1 : List Cond := [Cond.fieldLink RX2 71 "BigLedger" "up" "Z", Cond.fieldLink RX2 49 "BigLedger" "scratch" "LBigLedger$Natural;", Cond.fieldLink RX2 52 "BigLedger" "outBackwards" "[B", Cond.fieldLink RX2 152 "BigLedger" "outLength" "I", Cond.methodLink RX2 84 yX2_isAccount, Cond.instanceMethod yX2_isAccount, Cond.selects RX2 yX2_isAccount yX2_isAccount, Cond.initialized RX2, Cond.code yX2_isAccount cX2_isAccount 2 (some .boolean), Cond.fieldLink RX2 13 "BigLedger" "accounts" "I", Cond.methodLink RX2 113 yX2_seen, Cond.instanceMethod yX2_seen, Cond.selects RX2 yX2_seen yX2_seen, Cond.code yX2_seen cX2_seen 2 (some (.object "BigLedger$Natural")), Cond.fieldLink RX2 126 "BigLedger" "touched" "I", Cond.fieldLink RX2 36 "BigLedger" "pending" "[LBigLedger$Natural;", Cond.fieldLink RX2 28 "BigLedger" "disk" "LBigLedger$Disk;", Cond.methodLink RX2 170 yX2_has, Cond.static yX2_has, Cond.code yX2_has cX2_has 2 (some .boolean), Cond.methodLink RX2 116 yX1_setTo, Cond.instanceMethod yX1_setTo, Cond.selects RX1 yX1_setTo yX1_setTo, Cond.initialized RX1]
def wsX2_write_r2 : List Cond := [Cond.code yX1_setTo cX1_setTo 3 none, Cond.fieldLink RX1 9 "BigLedger$Natural" "limbs" "[I", Cond.methodLink RX1 19 yX1_limbAt, Cond.instanceMethod yX1_limbAt, Cond.selects RX1 yX1_limbAt yX1_limbAt, Cond.code yX1_limbAt cX1_limbAt 2 (some .int), Cond.fieldLink RX1 15 "BigLedger$Natural" "size" "I", Cond.methodLink RX1 23 yX1_measure, Cond.instanceMethod yX1_measure, Cond.selects RX1 yX1_measure yX1_measure, Cond.code yX1_measure cX1_measure 1 none, Cond.methodLink RX2 122 yX1_divide, Cond.instanceMethod yX1_divide, Cond.selects RX1 yX1_divide yX1_divide, Cond.code yX1_divide cX1_divide 7 (some .int)]
def wsX2_write : List Cond := .code yX2_write cX2_write 3 (some .int) :: ((wsX2_write_r1 ++ wsX2_write_r2) ++ wsX20 ++ wsX10 ++ wsX00)
def wsX2_count_r1 : List Cond := [Cond.fieldLink RX2 13 "BigLedger" "accounts" "I", Cond.fieldLink RX2 17 "BigLedger" "limbs" "I", Cond.fieldLink RX2 20 "BigLedger" "room" "I", Cond.fieldLink RX2 28 "BigLedger" "disk" "LBigLedger$Disk;", Cond.fieldLink RX2 71 "BigLedger" "up" "Z", Cond.fieldLink RX2 126 "BigLedger" "touched" "I", Cond.fieldLink RX2 45 "BigLedger" "amount" "LBigLedger$Natural;", Cond.methodLink RX2 165 yJ6_bitCount_0f7a4, Cond.static yJ6_bitCount_0f7a4, Cond.initialized RJ6, Cond.code yJ6_bitCount_0f7a4 cJ6_bitCount_0f7a4 1 (some .int), Cond.constant RJ6 265 (1431655765), Cond.constant RJ6 266 (858993459), Cond.constant RJ6 267 (252645135), Cond.methodLink RX2 91 yX2_totalBlock, Cond.instanceMethod yX2_totalBlock, Cond.selects RX2 yX2_totalBlock yX2_totalBlock, Cond.initialized RX2, Cond.code yX2_totalBlock cX2_totalBlock 1 (some .int), Cond.methodLink RX2 113 yX2_seen, Cond.instanceMethod yX2_seen, Cond.selects RX2 yX2_seen yX2_seen, Cond.code yX2_seen cX2_seen 2 (some (.object "BigLedger$Natural")), Cond.fieldLink RX2 36 "BigLedger" "pending" "[LBigLedger$Natural;"]
def wsX2_count_r2 : List Cond := [Cond.methodLink RX2 170 yX2_has, Cond.static yX2_has, Cond.code yX2_has cX2_has 2 (some .boolean)]
def wsX2_count : List Cond := .code yX2_count cX2_count 2 (some .int) :: ((wsX2_count_r1 ++ wsX2_count_r2) ++ wsX20 ++ wsX00 ++ wsX10)
def wsX3_thrown : List Cond := .code yX3_thrown cX3_thrown 1 (some .int) :: ([.fieldLink RX3 1 "BigLedgerModel" "thrown" "I"] ++ wsX30)
def wsX3_init : List Cond := .code yX3_init cX3_init 4 none :: ([.methodLink RX3 7 objectInit, .instanceMethod objectInit, .code objectInit ⟨#[0xb1]⟩ 1 none, .arrayClass .int, .fieldLink RX3 13 "BigLedgerModel" "now" "[I", .fieldLink RX3 17 "BigLedgerModel" "home" "[I", .fieldLink RX3 20 "BigLedgerModel" "log" "[I", .fieldLink RX3 23 "BigLedgerModel" "amount" "[I", .fieldLink RX3 26 "BigLedgerModel" "work" "[I", .arrayClass .boolean, .fieldLink RX3 29 "BigLedgerModel" "touched" "[Z", .fieldLink RX3 33 "BigLedgerModel" "logged" "[Z", .fieldLink RX3 36 "BigLedgerModel" "left" "I", .arrayClass .byte, .fieldLink RX3 39 "BigLedgerModel" "out" "[B", .fieldLink RX3 43 "BigLedgerModel" "accounts" "I", .fieldLink RX3 46 "BigLedgerModel" "limbs" "I", .fieldLink RX3 49 "BigLedgerModel" "room" "I"] ++ wsX30)
def wsX3_forget : List Cond := .code yX3_forget cX3_forget 2 none :: ([.fieldLink RX3 23 "BigLedgerModel" "amount" "[I", .fieldLink RX3 29 "BigLedgerModel" "touched" "[Z", .fieldLink RX3 13 "BigLedgerModel" "now" "[I", .fieldLink RX3 17 "BigLedgerModel" "home" "[I"] ++ wsX30)
def wsX3_down : List Cond := .code yX3_down cX3_down 1 none :: ([.fieldLink RX3 52 "BigLedgerModel" "up" "Z", .methodLink RX3 56 yX3_forget, .instanceMethod yX3_forget, .selects RX3 yX3_forget yX3_forget, .initialized RX3, .code yX3_forget cX3_forget 2 none, .fieldLink RX3 23 "BigLedgerModel" "amount" "[I", .fieldLink RX3 29 "BigLedgerModel" "touched" "[Z", .fieldLink RX3 13 "BigLedgerModel" "now" "[I", .fieldLink RX3 17 "BigLedgerModel" "home" "[I"] ++ wsX30)
def wsX3_writes : List Cond := .code yX3_writes cX3_writes 1 (some .boolean) :: ([.fieldLink RX3 36 "BigLedgerModel" "left" "I", .fieldLink RX3 62 "BigLedgerModel" "writes" "I", .methodLink RX3 59 yX3_down, .instanceMethod yX3_down, .selects RX3 yX3_down yX3_down, .initialized RX3, .code yX3_down cX3_down 1 none, .fieldLink RX3 52 "BigLedgerModel" "up" "Z", .methodLink RX3 56 yX3_forget, .instanceMethod yX3_forget, .selects RX3 yX3_forget yX3_forget, .code yX3_forget cX3_forget 2 none, .fieldLink RX3 23 "BigLedgerModel" "amount" "[I", .fieldLink RX3 29 "BigLedgerModel" "touched" "[Z", .fieldLink RX3 13 "BigLedgerModel" "now" "[I", .fieldLink RX3 17 "BigLedgerModel" "home" "[I"] ++ wsX30)
def wsX3_emptyLog : List Cond := .code yX3_emptyLog cX3_emptyLog 1 (some .boolean) :: ([.fieldLink RX3 68 "BigLedgerModel" "committed" "Z", .methodLink RX3 65 yX3_writes, .instanceMethod yX3_writes, .selects RX3 yX3_writes yX3_writes, .initialized RX3, .code yX3_writes cX3_writes 1 (some .boolean), .fieldLink RX3 36 "BigLedgerModel" "left" "I", .fieldLink RX3 62 "BigLedgerModel" "writes" "I", .methodLink RX3 59 yX3_down, .instanceMethod yX3_down, .selects RX3 yX3_down yX3_down, .code yX3_down cX3_down 1 none, .fieldLink RX3 52 "BigLedgerModel" "up" "Z", .methodLink RX3 56 yX3_forget, .instanceMethod yX3_forget, .selects RX3 yX3_forget yX3_forget, .code yX3_forget cX3_forget 2 none, .fieldLink RX3 23 "BigLedgerModel" "amount" "[I", .fieldLink RX3 29 "BigLedgerModel" "touched" "[Z", .fieldLink RX3 13 "BigLedgerModel" "now" "[I", .fieldLink RX3 17 "BigLedgerModel" "home" "[I"] ++ wsX30)
def wsX3_goHome_r1 : List Cond := [Cond.fieldLink RX3 33 "BigLedgerModel" "logged" "[Z", Cond.fieldLink RX3 17 "BigLedgerModel" "home" "[I", Cond.fieldLink RX3 20 "BigLedgerModel" "log" "[I", Cond.methodLink RX3 65 yX3_writes, Cond.instanceMethod yX3_writes, Cond.selects RX3 yX3_writes yX3_writes, Cond.initialized RX3, Cond.code yX3_writes cX3_writes 1 (some .boolean), Cond.fieldLink RX3 36 "BigLedgerModel" "left" "I", Cond.fieldLink RX3 62 "BigLedgerModel" "writes" "I", Cond.methodLink RX3 59 yX3_down, Cond.instanceMethod yX3_down, Cond.selects RX3 yX3_down yX3_down, Cond.code yX3_down cX3_down 1 none, Cond.fieldLink RX3 52 "BigLedgerModel" "up" "Z", Cond.methodLink RX3 56 yX3_forget, Cond.instanceMethod yX3_forget, Cond.selects RX3 yX3_forget yX3_forget, Cond.code yX3_forget cX3_forget 2 none, Cond.fieldLink RX3 23 "BigLedgerModel" "amount" "[I", Cond.fieldLink RX3 29 "BigLedgerModel" "touched" "[Z", Cond.fieldLink RX3 13 "BigLedgerModel" "now" "[I", Cond.methodLink RX3 71 yX3_emptyLog, Cond.instanceMethod yX3_emptyLog]
def wsX3_goHome_r2 : List Cond := [Cond.selects RX3 yX3_emptyLog yX3_emptyLog, Cond.code yX3_emptyLog cX3_emptyLog 1 (some .boolean), Cond.fieldLink RX3 68 "BigLedgerModel" "committed" "Z"]
def wsX3_goHome : List Cond := .code yX3_goHome cX3_goHome 3 (some .boolean) :: ((wsX3_goHome_r1 ++ wsX3_goHome_r2) ++ wsX30)
def wsX3_format_r1 : List Cond := [Cond.fieldLink RX3 1 "BigLedgerModel" "thrown" "I", Cond.fieldLink RX3 74 "BigLedgerModel" "formatted" "Z", Cond.fieldLink RX3 43 "BigLedgerModel" "accounts" "I", Cond.fieldLink RX3 17 "BigLedgerModel" "home" "[I", Cond.fieldLink RX3 52 "BigLedgerModel" "up" "Z", Cond.methodLink RX3 65 yX3_writes, Cond.instanceMethod yX3_writes, Cond.selects RX3 yX3_writes yX3_writes, Cond.initialized RX3, Cond.code yX3_writes cX3_writes 1 (some .boolean), Cond.fieldLink RX3 36 "BigLedgerModel" "left" "I", Cond.fieldLink RX3 62 "BigLedgerModel" "writes" "I", Cond.methodLink RX3 59 yX3_down, Cond.instanceMethod yX3_down, Cond.selects RX3 yX3_down yX3_down, Cond.code yX3_down cX3_down 1 none, Cond.methodLink RX3 56 yX3_forget, Cond.instanceMethod yX3_forget, Cond.selects RX3 yX3_forget yX3_forget, Cond.code yX3_forget cX3_forget 2 none, Cond.fieldLink RX3 23 "BigLedgerModel" "amount" "[I", Cond.fieldLink RX3 29 "BigLedgerModel" "touched" "[Z", Cond.fieldLink RX3 13 "BigLedgerModel" "now" "[I", Cond.methodLink RX3 71 yX3_emptyLog]
def wsX3_format_r2 : List Cond := [Cond.instanceMethod yX3_emptyLog, Cond.selects RX3 yX3_emptyLog yX3_emptyLog, Cond.code yX3_emptyLog cX3_emptyLog 1 (some .boolean), Cond.fieldLink RX3 68 "BigLedgerModel" "committed" "Z"]
def wsX3_format : List Cond := .code yX3_format cX3_format 3 (some .boolean) :: ((wsX3_format_r1 ++ wsX3_format_r2) ++ wsX30)
def wsX3_touches : List Cond := .code yX3_touches cX3_touches 3 (some .int) :: ([.fieldLink RX3 29 "BigLedgerModel" "touched" "[Z"] ++ wsX30)
def wsX3_commit_r1 : List Cond := [Cond.fieldLink RX3 1 "BigLedgerModel" "thrown" "I", Cond.fieldLink RX3 52 "BigLedgerModel" "up" "Z", Cond.fieldLink RX3 33 "BigLedgerModel" "logged" "[Z", Cond.fieldLink RX3 29 "BigLedgerModel" "touched" "[Z", Cond.fieldLink RX3 20 "BigLedgerModel" "log" "[I", Cond.fieldLink RX3 13 "BigLedgerModel" "now" "[I", Cond.fieldLink RX3 68 "BigLedgerModel" "committed" "Z", Cond.methodLink RX3 77 yX3_touches, Cond.instanceMethod yX3_touches, Cond.selects RX3 yX3_touches yX3_touches, Cond.initialized RX3, Cond.code yX3_touches cX3_touches 3 (some .int), Cond.methodLink RX3 65 yX3_writes, Cond.instanceMethod yX3_writes, Cond.selects RX3 yX3_writes yX3_writes, Cond.code yX3_writes cX3_writes 1 (some .boolean), Cond.fieldLink RX3 36 "BigLedgerModel" "left" "I", Cond.fieldLink RX3 62 "BigLedgerModel" "writes" "I", Cond.methodLink RX3 59 yX3_down, Cond.instanceMethod yX3_down, Cond.selects RX3 yX3_down yX3_down, Cond.code yX3_down cX3_down 1 none, Cond.methodLink RX3 56 yX3_forget, Cond.instanceMethod yX3_forget]
def wsX3_commit_r2 : List Cond := [Cond.selects RX3 yX3_forget yX3_forget, Cond.code yX3_forget cX3_forget 2 none, Cond.fieldLink RX3 23 "BigLedgerModel" "amount" "[I", Cond.fieldLink RX3 17 "BigLedgerModel" "home" "[I", Cond.methodLink RX3 81 yX3_goHome, Cond.instanceMethod yX3_goHome, Cond.selects RX3 yX3_goHome yX3_goHome, Cond.code yX3_goHome cX3_goHome 3 (some .boolean), Cond.methodLink RX3 71 yX3_emptyLog, Cond.instanceMethod yX3_emptyLog, Cond.selects RX3 yX3_emptyLog yX3_emptyLog, Cond.code yX3_emptyLog cX3_emptyLog 1 (some .boolean)]
def wsX3_commit : List Cond := .code yX3_commit cX3_commit 3 (some .int) :: ((wsX3_commit_r1 ++ wsX3_commit_r2) ++ wsX30)
def wsX3_recover_r1 : List Cond := [Cond.fieldLink RX3 1 "BigLedgerModel" "thrown" "I", Cond.fieldLink RX3 74 "BigLedgerModel" "formatted" "Z", Cond.fieldLink RX3 68 "BigLedgerModel" "committed" "Z", Cond.fieldLink RX3 52 "BigLedgerModel" "up" "Z", Cond.methodLink RX3 59 yX3_down, Cond.instanceMethod yX3_down, Cond.selects RX3 yX3_down yX3_down, Cond.initialized RX3, Cond.code yX3_down cX3_down 1 none, Cond.methodLink RX3 56 yX3_forget, Cond.instanceMethod yX3_forget, Cond.selects RX3 yX3_forget yX3_forget, Cond.code yX3_forget cX3_forget 2 none, Cond.fieldLink RX3 23 "BigLedgerModel" "amount" "[I", Cond.fieldLink RX3 29 "BigLedgerModel" "touched" "[Z", Cond.fieldLink RX3 13 "BigLedgerModel" "now" "[I", Cond.fieldLink RX3 17 "BigLedgerModel" "home" "[I", Cond.methodLink RX3 81 yX3_goHome, Cond.instanceMethod yX3_goHome, Cond.selects RX3 yX3_goHome yX3_goHome, Cond.code yX3_goHome cX3_goHome 3 (some .boolean), Cond.fieldLink RX3 33 "BigLedgerModel" "logged" "[Z", Cond.fieldLink RX3 20 "BigLedgerModel" "log" "[I", Cond.methodLink RX3 65 yX3_writes]
def wsX3_recover_r2 : List Cond := [Cond.instanceMethod yX3_writes, Cond.selects RX3 yX3_writes yX3_writes, Cond.code yX3_writes cX3_writes 1 (some .boolean), Cond.fieldLink RX3 36 "BigLedgerModel" "left" "I", Cond.fieldLink RX3 62 "BigLedgerModel" "writes" "I", Cond.methodLink RX3 71 yX3_emptyLog, Cond.instanceMethod yX3_emptyLog, Cond.selects RX3 yX3_emptyLog yX3_emptyLog, Cond.code yX3_emptyLog cX3_emptyLog 1 (some .boolean)]
def wsX3_recover : List Cond := .code yX3_recover cX3_recover 1 (some .boolean) :: ((wsX3_recover_r1 ++ wsX3_recover_r2) ++ wsX30)
def wsX3_abort : List Cond := .code yX3_abort cX3_abort 2 (some .boolean) :: ([.fieldLink RX3 1 "BigLedgerModel" "thrown" "I", .fieldLink RX3 52 "BigLedgerModel" "up" "Z", .fieldLink RX3 29 "BigLedgerModel" "touched" "[Z", .fieldLink RX3 13 "BigLedgerModel" "now" "[I", .fieldLink RX3 17 "BigLedgerModel" "home" "[I"] ++ wsX30)
def wsX3_stopAfter : List Cond := .code yX3_stopAfter cX3_stopAfter 2 none :: ([.fieldLink RX3 1 "BigLedgerModel" "thrown" "I", .fieldLink RX3 36 "BigLedgerModel" "left" "I"] ++ wsX30)
def wsX3_size : List Cond := .code yX3_size cX3_size 3 (some .int) :: ([])
def wsX3_compared : List Cond := .code yX3_compared cX3_compared 5 (some .int) :: ([])
def wsX3_change : List Cond := .code yX3_change cX3_change 8 none :: ([.fieldLink RX3 13 "BigLedgerModel" "now" "[I", .fieldLink RX3 23 "BigLedgerModel" "amount" "[I", .constantLong RX3 84 (-1), .constantLong RX3 86 (2147483648)] ++ wsX30)
def wsX3_isGreat : List Cond := .code yX3_isGreat cX3_isGreat 5 (some .boolean) :: ([.fieldLink RX3 46 "BigLedgerModel" "limbs" "I", .fieldLink RX3 13 "BigLedgerModel" "now" "[I", .fieldLink RX3 23 "BigLedgerModel" "amount" "[I", .constantLong RX3 86 (2147483648)] ++ wsX30)
def wsX3_amountLimb : List Cond := .code yX3_amountLimb cX3_amountLimb 3 (some .boolean) :: ([.fieldLink RX3 1 "BigLedgerModel" "thrown" "I", .fieldLink RX3 52 "BigLedgerModel" "up" "Z", .fieldLink RX3 23 "BigLedgerModel" "amount" "[I", .fieldLink RX3 46 "BigLedgerModel" "limbs" "I"] ++ wsX30)
def wsX3_clearAmount : List Cond := .code yX3_clearAmount cX3_clearAmount 2 (some .boolean) :: ([.fieldLink RX3 1 "BigLedgerModel" "thrown" "I", .fieldLink RX3 52 "BigLedgerModel" "up" "Z", .fieldLink RX3 23 "BigLedgerModel" "amount" "[I"] ++ wsX30)
def wsX3_no : List Cond := .code yX3_no cX3_no 2 (some .boolean) :: ([.fieldLink RX3 43 "BigLedgerModel" "accounts" "I"] ++ wsX30)
def wsX3_isFull : List Cond := .code yX3_isFull cX3_isFull 4 (some .boolean) :: ([.fieldLink RX3 29 "BigLedgerModel" "touched" "[Z", .fieldLink RX3 49 "BigLedgerModel" "room" "I", .methodLink RX3 77 yX3_touches, .instanceMethod yX3_touches, .selects RX3 yX3_touches yX3_touches, .initialized RX3, .code yX3_touches cX3_touches 3 (some .int)] ++ wsX30)
def wsX3_deposit_r1 : List Cond := [Cond.fieldLink RX3 1 "BigLedgerModel" "thrown" "I", Cond.fieldLink RX3 52 "BigLedgerModel" "up" "Z", Cond.fieldLink RX3 29 "BigLedgerModel" "touched" "[Z", Cond.methodLink RX3 88 yX3_no, Cond.instanceMethod yX3_no, Cond.selects RX3 yX3_no yX3_no, Cond.initialized RX3, Cond.code yX3_no cX3_no 2 (some .boolean), Cond.fieldLink RX3 43 "BigLedgerModel" "accounts" "I", Cond.methodLink RX3 92 yX3_isGreat, Cond.instanceMethod yX3_isGreat, Cond.selects RX3 yX3_isGreat yX3_isGreat, Cond.code yX3_isGreat cX3_isGreat 5 (some .boolean), Cond.fieldLink RX3 46 "BigLedgerModel" "limbs" "I", Cond.fieldLink RX3 13 "BigLedgerModel" "now" "[I", Cond.fieldLink RX3 23 "BigLedgerModel" "amount" "[I", Cond.constantLong RX3 86 (2147483648), Cond.methodLink RX3 95 yX3_isFull, Cond.instanceMethod yX3_isFull, Cond.selects RX3 yX3_isFull yX3_isFull, Cond.code yX3_isFull cX3_isFull 4 (some .boolean), Cond.fieldLink RX3 49 "BigLedgerModel" "room" "I", Cond.methodLink RX3 77 yX3_touches, Cond.instanceMethod yX3_touches]
def wsX3_deposit_r2 : List Cond := [Cond.selects RX3 yX3_touches yX3_touches, Cond.code yX3_touches cX3_touches 3 (some .int), Cond.methodLink RX3 99 yX3_change, Cond.instanceMethod yX3_change, Cond.selects RX3 yX3_change yX3_change, Cond.code yX3_change cX3_change 8 none, Cond.constantLong RX3 84 (-1)]
def wsX3_deposit : List Cond := .code yX3_deposit cX3_deposit 2 (some .int) :: ((wsX3_deposit_r1 ++ wsX3_deposit_r2) ++ wsX30)
def wsX3_withdraw_r1 : List Cond := [Cond.fieldLink RX3 1 "BigLedgerModel" "thrown" "I", Cond.fieldLink RX3 52 "BigLedgerModel" "up" "Z", Cond.fieldLink RX3 23 "BigLedgerModel" "amount" "[I", Cond.fieldLink RX3 13 "BigLedgerModel" "now" "[I", Cond.fieldLink RX3 29 "BigLedgerModel" "touched" "[Z", Cond.methodLink RX3 88 yX3_no, Cond.instanceMethod yX3_no, Cond.selects RX3 yX3_no yX3_no, Cond.initialized RX3, Cond.code yX3_no cX3_no 2 (some .boolean), Cond.fieldLink RX3 43 "BigLedgerModel" "accounts" "I", Cond.methodLink RX3 103 yX3_compared, Cond.static yX3_compared, Cond.code yX3_compared cX3_compared 5 (some .int), Cond.methodLink RX3 95 yX3_isFull, Cond.instanceMethod yX3_isFull, Cond.selects RX3 yX3_isFull yX3_isFull, Cond.code yX3_isFull cX3_isFull 4 (some .boolean), Cond.fieldLink RX3 49 "BigLedgerModel" "room" "I", Cond.methodLink RX3 77 yX3_touches, Cond.instanceMethod yX3_touches, Cond.selects RX3 yX3_touches yX3_touches, Cond.code yX3_touches cX3_touches 3 (some .int), Cond.methodLink RX3 99 yX3_change]
def wsX3_withdraw_r2 : List Cond := [Cond.instanceMethod yX3_change, Cond.selects RX3 yX3_change yX3_change, Cond.code yX3_change cX3_change 8 none, Cond.constantLong RX3 84 (-1), Cond.constantLong RX3 86 (2147483648)]
def wsX3_withdraw : List Cond := .code yX3_withdraw cX3_withdraw 2 (some .int) :: ((wsX3_withdraw_r1 ++ wsX3_withdraw_r2) ++ wsX30)
def wsX3_transfer_r1 : List Cond := [Cond.fieldLink RX3 1 "BigLedgerModel" "thrown" "I", Cond.fieldLink RX3 52 "BigLedgerModel" "up" "Z", Cond.fieldLink RX3 23 "BigLedgerModel" "amount" "[I", Cond.fieldLink RX3 13 "BigLedgerModel" "now" "[I", Cond.fieldLink RX3 29 "BigLedgerModel" "touched" "[Z", Cond.methodLink RX3 88 yX3_no, Cond.instanceMethod yX3_no, Cond.selects RX3 yX3_no yX3_no, Cond.initialized RX3, Cond.code yX3_no cX3_no 2 (some .boolean), Cond.fieldLink RX3 43 "BigLedgerModel" "accounts" "I", Cond.methodLink RX3 103 yX3_compared, Cond.static yX3_compared, Cond.code yX3_compared cX3_compared 5 (some .int), Cond.methodLink RX3 92 yX3_isGreat, Cond.instanceMethod yX3_isGreat, Cond.selects RX3 yX3_isGreat yX3_isGreat, Cond.code yX3_isGreat cX3_isGreat 5 (some .boolean), Cond.fieldLink RX3 46 "BigLedgerModel" "limbs" "I", Cond.constantLong RX3 86 (2147483648), Cond.methodLink RX3 95 yX3_isFull, Cond.instanceMethod yX3_isFull, Cond.selects RX3 yX3_isFull yX3_isFull, Cond.code yX3_isFull cX3_isFull 4 (some .boolean)]
def wsX3_transfer_r2 : List Cond := [Cond.fieldLink RX3 49 "BigLedgerModel" "room" "I", Cond.methodLink RX3 77 yX3_touches, Cond.instanceMethod yX3_touches, Cond.selects RX3 yX3_touches yX3_touches, Cond.code yX3_touches cX3_touches 3 (some .int), Cond.methodLink RX3 99 yX3_change, Cond.instanceMethod yX3_change, Cond.selects RX3 yX3_change yX3_change, Cond.code yX3_change cX3_change 8 none, Cond.constantLong RX3 84 (-1)]
def wsX3_transfer : List Cond := .code yX3_transfer cX3_transfer 3 (some .int) :: ((wsX3_transfer_r1 ++ wsX3_transfer_r2) ++ wsX30)
def wsX3_part : List Cond := .code yX3_part cX3_part 9 (some .int) :: ([.fieldLink RX3 1 "BigLedgerModel" "thrown" "I", .fieldLink RX3 52 "BigLedgerModel" "up" "Z", .fieldLink RX3 13 "BigLedgerModel" "now" "[I", .fieldLink RX3 26 "BigLedgerModel" "work" "[I", .constantLong RX3 86 (2147483648), .fieldLink RX3 23 "BigLedgerModel" "amount" "[I", .methodLink RX3 88 yX3_no, .instanceMethod yX3_no, .selects RX3 yX3_no yX3_no, .initialized RX3, .code yX3_no cX3_no 2 (some .boolean), .fieldLink RX3 43 "BigLedgerModel" "accounts" "I"] ++ wsX30)
def wsX3_balanceSize : List Cond := .code yX3_balanceSize cX3_balanceSize 2 (some .int) :: ([.fieldLink RX3 1 "BigLedgerModel" "thrown" "I", .fieldLink RX3 52 "BigLedgerModel" "up" "Z", .fieldLink RX3 13 "BigLedgerModel" "now" "[I", .methodLink RX3 88 yX3_no, .instanceMethod yX3_no, .selects RX3 yX3_no yX3_no, .initialized RX3, .code yX3_no cX3_no 2 (some .boolean), .fieldLink RX3 43 "BigLedgerModel" "accounts" "I", .methodLink RX3 107 yX3_size, .static yX3_size, .code yX3_size cX3_size 3 (some .int)] ++ wsX30)
def wsX3_balanceLimb : List Cond := .code yX3_balanceLimb cX3_balanceLimb 3 (some .int) :: ([.fieldLink RX3 1 "BigLedgerModel" "thrown" "I", .fieldLink RX3 52 "BigLedgerModel" "up" "Z", .fieldLink RX3 13 "BigLedgerModel" "now" "[I", .methodLink RX3 88 yX3_no, .instanceMethod yX3_no, .selects RX3 yX3_no yX3_no, .initialized RX3, .code yX3_no cX3_no 2 (some .boolean), .fieldLink RX3 43 "BigLedgerModel" "accounts" "I"] ++ wsX30)
def wsX3_totalLimb : List Cond := .code yX3_totalLimb cX3_totalLimb 2 (some .int) :: ([.fieldLink RX3 1 "BigLedgerModel" "thrown" "I", .fieldLink RX3 52 "BigLedgerModel" "up" "Z", .fieldLink RX3 13 "BigLedgerModel" "now" "[I"] ++ wsX30)
def wsX3_amount : List Cond := .code yX3_amount cX3_amount 2 (some .int) :: ([.fieldLink RX3 1 "BigLedgerModel" "thrown" "I", .fieldLink RX3 52 "BigLedgerModel" "up" "Z", .fieldLink RX3 23 "BigLedgerModel" "amount" "[I"] ++ wsX30)
def wsX3_compare : List Cond := .code yX3_compare cX3_compare 3 (some .int) :: ([.fieldLink RX3 1 "BigLedgerModel" "thrown" "I", .fieldLink RX3 52 "BigLedgerModel" "up" "Z", .fieldLink RX3 13 "BigLedgerModel" "now" "[I", .methodLink RX3 88 yX3_no, .instanceMethod yX3_no, .selects RX3 yX3_no yX3_no, .initialized RX3, .code yX3_no cX3_no 2 (some .boolean), .fieldLink RX3 43 "BigLedgerModel" "accounts" "I", .methodLink RX3 103 yX3_compared, .static yX3_compared, .code yX3_compared cX3_compared 5 (some .int)] ++ wsX30)
def wsX3_write : List Cond := .code yX3_write cX3_write 6 (some .int) :: ([.fieldLink RX3 1 "BigLedgerModel" "thrown" "I", .fieldLink RX3 52 "BigLedgerModel" "up" "Z", .fieldLink RX3 26 "BigLedgerModel" "work" "[I", .fieldLink RX3 13 "BigLedgerModel" "now" "[I", .constantLong RX3 86 (2147483648), .constantLong RX3 111 (10), .fieldLink RX3 39 "BigLedgerModel" "out" "[B", .constantLong RX3 113 (48), .fieldLink RX3 115 "BigLedgerModel" "outMany" "I", .methodLink RX3 88 yX3_no, .instanceMethod yX3_no, .selects RX3 yX3_no yX3_no, .initialized RX3, .code yX3_no cX3_no 2 (some .boolean), .fieldLink RX3 43 "BigLedgerModel" "accounts" "I", .methodLink RX3 107 yX3_size, .static yX3_size, .code yX3_size cX3_size 3 (some .int)] ++ wsX30)
def wsX3_octet : List Cond := .code yX3_octet cX3_octet 2 (some .int) :: ([.fieldLink RX3 115 "BigLedgerModel" "outMany" "I", .fieldLink RX3 1 "BigLedgerModel" "thrown" "I", .fieldLink RX3 39 "BigLedgerModel" "out" "[B"] ++ wsX30)
def wsX3_count : List Cond := .code yX3_count cX3_count 2 (some .int) :: ([.fieldLink RX3 1 "BigLedgerModel" "thrown" "I", .fieldLink RX3 43 "BigLedgerModel" "accounts" "I", .fieldLink RX3 46 "BigLedgerModel" "limbs" "I", .fieldLink RX3 49 "BigLedgerModel" "room" "I", .fieldLink RX3 62 "BigLedgerModel" "writes" "I", .fieldLink RX3 52 "BigLedgerModel" "up" "Z", .fieldLink RX3 36 "BigLedgerModel" "left" "I", .fieldLink RX3 13 "BigLedgerModel" "now" "[I", .fieldLink RX3 23 "BigLedgerModel" "amount" "[I", .methodLink RX3 77 yX3_touches, .instanceMethod yX3_touches, .selects RX3 yX3_touches yX3_touches, .initialized RX3, .code yX3_touches cX3_touches 3 (some .int), .fieldLink RX3 29 "BigLedgerModel" "touched" "[Z", .methodLink RX3 107 yX3_size, .static yX3_size, .code yX3_size cX3_size 3 (some .int)] ++ wsX30)
def wsJ9_max_7cf53 : List Cond := .code yJ9_max_7cf53 cJ9_max_7cf53 2 (some .int) :: ([])
def wsJ9_min_7cf53 : List Cond := .code yJ9_min_7cf53 cJ9_min_7cf53 2 (some .int) :: ([])
theorem inJ6 : ∀ w ∈ wsJ60, w ∈ lw_tbl := by decide +kernel
theorem inJ9 : ∀ w ∈ wsJ90, w ∈ lw_tbl := by decide +kernel
theorem inJ0 : ∀ w ∈ wsJ00, w ∈ lw_tbl := by decide +kernel
set_option maxRecDepth 20000 in
theorem ggX0_init_X2_naturals : GoodIn wsX0_init wsX2_naturals := goodIn_r _ [9, 10, 11, 12, 13, 14, 15, 16, 2, 3, 17, 18, 25, 26] (by decide +kernel) (by decide +kernel)
set_option maxRecDepth 20000 in
theorem gX0_init_X2_naturals_n9 : GoodIn wsX0_init (wsX2_naturals) := ggX0_init_X2_naturals
set_option maxRecDepth 20000 in
theorem ggX0_layOut_X0_writeFormatted : GoodIn wsX0_layOut wsX0_writeFormatted := goodIn_r _ [5, 6, 7, 8, 9, 4, 10, 11, 12, 30, 31, 32, 33, 34, 35] (by decide +kernel) (by decide +kernel)
set_option maxRecDepth 20000 in
theorem gX0_layOut_X0_writeFormatted : GoodIn wsX0_layOut (wsV RX0 26 RX0 yX0_writeFormatted wsX0_writeFormatted) := goodIn_app (goodIn_of _ (by decide +kernel)) ggX0_layOut_X0_writeFormatted
set_option maxRecDepth 20000 in
theorem ggX0_layOut_X0_writeLogState : GoodIn wsX0_layOut wsX0_writeLogState := goodIn_r _ [16, 17, 7, 8, 9, 4, 10, 11, 12, 30, 31, 32, 33, 34, 35] (by decide +kernel) (by decide +kernel)
set_option maxRecDepth 20000 in
theorem gX0_layOut_X0_writeLogState : GoodIn wsX0_layOut (wsV RX0 30 RX0 yX0_writeLogState wsX0_writeLogState) := goodIn_app (goodIn_of _ (by decide +kernel)) ggX0_layOut_X0_writeLogState
set_option maxRecDepth 20000 in
theorem ggX0_layOut_X0_clearHomes : GoodIn wsX0_layOut wsX0_clearHomes := goodIn_r _ [21, 22, 7, 8, 9, 4, 10, 11, 12, 23, 24, 25, 26, 27, 28, 29, 30, 31, 32, 33, 34, 35, 36, 37] (by decide +kernel) (by decide +kernel)
set_option maxRecDepth 20000 in
theorem gX0_layOut_X0_clearHomes : GoodIn wsX0_layOut (wsV RX0 34 RX0 yX0_clearHomes wsX0_clearHomes) := goodIn_app (goodIn_of _ (by decide +kernel)) ggX0_layOut_X0_clearHomes
set_option maxRecDepth 20000 in
theorem ggX0_bringThroughLog_X0_writeBlocks : GoodIn wsX0_bringThroughLog wsX0_writeBlocks := goodIn_r _ [6, 7, 8, 9, 10, 11, 12, 5, 13, 14, 15, 16, 17, 18, 19, 20, 21, 22, 23, 24, 25, 26, 27, 28, 29, 30, 41, 42, 43, 44, 45, 46, 47, 48] (by decide +kernel) (by decide +kernel)
set_option maxRecDepth 20000 in
theorem gX0_bringThroughLog_X0_writeBlocks : GoodIn wsX0_bringThroughLog (wsV RX0 38 RX0 yX0_writeBlocks wsX0_writeBlocks) := goodIn_app (goodIn_of _ (by decide +kernel)) ggX0_bringThroughLog_X0_writeBlocks
set_option maxRecDepth 20000 in
theorem ggX0_bringThroughLog_X0_writeLogState : GoodIn wsX0_bringThroughLog wsX0_writeLogState := goodIn_r _ [34, 35, 10, 11, 12, 5, 13, 14, 15, 41, 42, 43, 44, 45, 46] (by decide +kernel) (by decide +kernel)
set_option maxRecDepth 20000 in
theorem gX0_bringThroughLog_X0_writeLogState : GoodIn wsX0_bringThroughLog (wsV RX0 30 RX0 yX0_writeLogState wsX0_writeLogState) := goodIn_app (goodIn_of _ (by decide +kernel)) ggX0_bringThroughLog_X0_writeLogState
set_option maxRecDepth 20000 in
theorem ggX0_bringThroughLog_X0_bringLogHome : GoodIn wsX0_bringThroughLog wsX0_bringLogHome := goodIn_r _ [39, 35, 40, 1, 2, 3, 4, 5, 6, 7, 8, 9, 10, 11, 12, 13, 14, 15, 16, 17, 18, 19, 20, 21, 22, 23, 24, 25, 26, 27, 28, 29, 30, 31, 32, 33, 34, 41, 42, 43, 44, 45, 46, 47, 48] (by decide +kernel) (by decide +kernel)
set_option maxRecDepth 20000 in
theorem gX0_bringThroughLog_X0_bringLogHome : GoodIn wsX0_bringThroughLog (wsV RX0 42 RX0 yX0_bringLogHome wsX0_bringLogHome) := goodIn_app (goodIn_of _ (by decide +kernel)) ggX0_bringThroughLog_X0_bringLogHome
set_option maxRecDepth 20000 in
theorem ggX0_bringLogHome_X0_writeBlocks : GoodIn wsX0_bringLogHome wsX0_writeBlocks := goodIn_r _ [8, 9, 10, 11, 12, 13, 14, 7, 15, 16, 17, 18, 19, 20, 21, 22, 23, 24, 25, 26, 27, 28, 29, 30, 31, 32, 37, 38, 39, 40, 41, 42, 43, 44] (by decide +kernel) (by decide +kernel)
set_option maxRecDepth 20000 in
theorem gX0_bringLogHome_X0_writeBlocks : GoodIn wsX0_bringLogHome (wsV RX0 38 RX0 yX0_writeBlocks wsX0_writeBlocks) := goodIn_app (goodIn_of _ (by decide +kernel)) ggX0_bringLogHome_X0_writeBlocks
set_option maxRecDepth 20000 in
theorem ggX0_bringLogHome_X0_writeLogState : GoodIn wsX0_bringLogHome wsX0_writeLogState := goodIn_r _ [36, 1, 12, 13, 14, 7, 15, 16, 17, 37, 38, 39, 40, 41, 42] (by decide +kernel) (by decide +kernel)
set_option maxRecDepth 20000 in
theorem gX0_bringLogHome_X0_writeLogState : GoodIn wsX0_bringLogHome (wsV RX0 30 RX0 yX0_writeLogState wsX0_writeLogState) := goodIn_app (goodIn_of _ (by decide +kernel)) ggX0_bringLogHome_X0_writeLogState
set_option maxRecDepth 20000 in
theorem ggX0_writeFormatted_X0_passStop : GoodIn wsX0_writeFormatted wsX0_passStop := goodIn_r _ [6, 7, 8, 9, 10, 11, 12, 13, 14] (by decide +kernel) (by decide +kernel)
set_option maxRecDepth 20000 in
theorem gX0_writeFormatted_X0_passStop : GoodIn wsX0_writeFormatted (wsV RX0 51 RX0 yX0_passStop wsX0_passStop) := goodIn_app (goodIn_of _ (by decide +kernel)) ggX0_writeFormatted_X0_passStop
set_option maxRecDepth 20000 in
theorem ggX0_writeLogState_X0_passStop : GoodIn wsX0_writeLogState wsX0_passStop := goodIn_r _ [6, 7, 8, 9, 10, 11, 12, 13, 14] (by decide +kernel) (by decide +kernel)
set_option maxRecDepth 20000 in
theorem gX0_writeLogState_X0_passStop : GoodIn wsX0_writeLogState (wsV RX0 51 RX0 yX0_passStop wsX0_passStop) := goodIn_app (goodIn_of _ (by decide +kernel)) ggX0_writeLogState_X0_passStop
set_option maxRecDepth 20000 in
theorem ggX0_writeBlocks_X2_has : GoodIn wsX0_writeBlocks wsX2_has := goodIn_r _ [3] (by decide +kernel) (by decide +kernel)
set_option maxRecDepth 20000 in
theorem gX0_writeBlocks_X2_has_n58 : GoodIn wsX0_writeBlocks (wsX2_has) := ggX0_writeBlocks_X2_has
set_option maxRecDepth 20000 in
theorem ggX0_writeBlocks_X0_passStop : GoodIn wsX0_writeBlocks wsX0_passStop := goodIn_r _ [8, 9, 10, 26, 27, 28, 29, 30, 31] (by decide +kernel) (by decide +kernel)
set_option maxRecDepth 20000 in
theorem gX0_writeBlocks_X0_passStop : GoodIn wsX0_writeBlocks (wsV RX0 51 RX0 yX0_passStop wsX0_passStop) := goodIn_app (goodIn_of _ (by decide +kernel)) ggX0_writeBlocks_X0_passStop
set_option maxRecDepth 20000 in
theorem ggX0_writeBlocks_X1_setTo : GoodIn wsX0_writeBlocks wsX1_setTo := goodIn_r _ [15, 16, 17, 18, 19, 14, 20, 21, 22, 23, 24, 25, 32, 33] (by decide +kernel) (by decide +kernel)
set_option maxRecDepth 20000 in
theorem gX0_writeBlocks_X1_setTo : GoodIn wsX0_writeBlocks (wsV RX0 62 RX1 yX1_setTo wsX1_setTo) := goodIn_app (goodIn_of _ (by decide +kernel)) ggX0_writeBlocks_X1_setTo
set_option maxRecDepth 20000 in
theorem ggX0_clearHomes_X0_passStop : GoodIn wsX0_clearHomes wsX0_passStop := goodIn_r _ [6, 7, 8, 16, 17, 18, 19, 20, 21] (by decide +kernel) (by decide +kernel)
set_option maxRecDepth 20000 in
theorem gX0_clearHomes_X0_passStop : GoodIn wsX0_clearHomes (wsV RX0 51 RX0 yX0_passStop wsX0_passStop) := goodIn_app (goodIn_of _ (by decide +kernel)) ggX0_clearHomes_X0_passStop
set_option maxRecDepth 20000 in
theorem ggX0_clearHomes_X1_setZero : GoodIn wsX0_clearHomes wsX1_setZero := goodIn_r _ [13, 14, 15, 22, 23] (by decide +kernel) (by decide +kernel)
set_option maxRecDepth 20000 in
theorem gX0_clearHomes_X1_setZero : GoodIn wsX0_clearHomes (wsV RX0 68 RX1 yX1_setZero wsX1_setZero) := goodIn_app (goodIn_of _ (by decide +kernel)) ggX0_clearHomes_X1_setZero
set_option maxRecDepth 20000 in
theorem ggX1_setTo_X1_limbAt : GoodIn wsX1_setTo wsX1_limbAt := goodIn_r _ [6, 7, 1, 12, 13] (by decide +kernel) (by decide +kernel)
set_option maxRecDepth 20000 in
theorem gX1_setTo_X1_limbAt : GoodIn wsX1_setTo (wsV RX1 19 RX1 yX1_limbAt wsX1_limbAt) := goodIn_app (goodIn_of _ (by decide +kernel)) ggX1_setTo_X1_limbAt
set_option maxRecDepth 20000 in
theorem ggX1_setTo_X1_measure : GoodIn wsX1_setTo wsX1_measure := goodIn_r _ [11, 1, 7, 12, 13] (by decide +kernel) (by decide +kernel)
set_option maxRecDepth 20000 in
theorem gX1_setTo_X1_measure : GoodIn wsX1_setTo (wsV RX1 23 RX1 yX1_measure wsX1_measure) := goodIn_app (goodIn_of _ (by decide +kernel)) ggX1_setTo_X1_measure
set_option maxRecDepth 20000 in
theorem ggX1_append_X1_measure : GoodIn wsX1_append wsX1_measure := goodIn_r _ [6, 1, 7, 8, 9] (by decide +kernel) (by decide +kernel)
set_option maxRecDepth 20000 in
theorem gX1_append_X1_measure : GoodIn wsX1_append (wsV RX1 23 RX1 yX1_measure wsX1_measure) := goodIn_app (goodIn_of _ (by decide +kernel)) ggX1_append_X1_measure
set_option maxRecDepth 20000 in
theorem ggX1_increase_X1_limbAt : GoodIn wsX1_increase wsX1_limbAt := goodIn_r _ [7, 8, 1, 13, 14] (by decide +kernel) (by decide +kernel)
set_option maxRecDepth 20000 in
theorem gX1_increase_X1_limbAt : GoodIn wsX1_increase (wsV RX1 19 RX1 yX1_limbAt wsX1_limbAt) := goodIn_app (goodIn_of _ (by decide +kernel)) ggX1_increase_X1_limbAt
set_option maxRecDepth 20000 in
theorem ggX1_increase_X1_measure : GoodIn wsX1_increase wsX1_measure := goodIn_r _ [12, 1, 8, 13, 14] (by decide +kernel) (by decide +kernel)
set_option maxRecDepth 20000 in
theorem gX1_increase_X1_measure : GoodIn wsX1_increase (wsV RX1 23 RX1 yX1_measure wsX1_measure) := goodIn_app (goodIn_of _ (by decide +kernel)) ggX1_increase_X1_measure
set_option maxRecDepth 20000 in
theorem ggX1_decrease_X1_limbAt : GoodIn wsX1_decrease wsX1_limbAt := goodIn_r _ [7, 8, 1, 13, 14] (by decide +kernel) (by decide +kernel)
set_option maxRecDepth 20000 in
theorem gX1_decrease_X1_limbAt : GoodIn wsX1_decrease (wsV RX1 19 RX1 yX1_limbAt wsX1_limbAt) := goodIn_app (goodIn_of _ (by decide +kernel)) ggX1_decrease_X1_limbAt
set_option maxRecDepth 20000 in
theorem ggX1_decrease_X1_measure : GoodIn wsX1_decrease wsX1_measure := goodIn_r _ [12, 1, 8, 13, 14] (by decide +kernel) (by decide +kernel)
set_option maxRecDepth 20000 in
theorem gX1_decrease_X1_measure : GoodIn wsX1_decrease (wsV RX1 23 RX1 yX1_measure wsX1_measure) := goodIn_app (goodIn_of _ (by decide +kernel)) ggX1_decrease_X1_measure
set_option maxRecDepth 20000 in
theorem ggX1_multiply_X1_measure : GoodIn wsX1_multiply wsX1_measure := goodIn_r _ [7, 1, 8, 9, 10] (by decide +kernel) (by decide +kernel)
set_option maxRecDepth 20000 in
theorem gX1_multiply_X1_measure : GoodIn wsX1_multiply (wsV RX1 23 RX1 yX1_measure wsX1_measure) := goodIn_app (goodIn_of _ (by decide +kernel)) ggX1_multiply_X1_measure
set_option maxRecDepth 20000 in
theorem ggX1_divide_X1_measure : GoodIn wsX1_divide wsX1_measure := goodIn_r _ [6, 1, 7, 8, 9] (by decide +kernel) (by decide +kernel)
set_option maxRecDepth 20000 in
theorem gX1_divide_X1_measure : GoodIn wsX1_divide (wsV RX1 23 RX1 yX1_measure wsX1_measure) := goodIn_app (goodIn_of _ (by decide +kernel)) ggX1_divide_X1_measure
set_option maxRecDepth 20000 in
theorem ggX1_standingTo_X1_limbAt : GoodIn wsX1_standingTo wsX1_limbAt := goodIn_r _ [6, 7, 1, 12, 13] (by decide +kernel) (by decide +kernel)
set_option maxRecDepth 20000 in
theorem gX1_standingTo_X1_limbAt : GoodIn wsX1_standingTo (wsV RX1 19 RX1 yX1_limbAt wsX1_limbAt) := goodIn_app (goodIn_of _ (by decide +kernel)) ggX1_standingTo_X1_limbAt
set_option maxRecDepth 20000 in
theorem ggX1_standingTo_J6_compare_7cf53 : GoodIn wsX1_standingTo wsJ6_compare_7cf53 := goodIn_r _ [11] (by decide +kernel) (by decide +kernel)
set_option maxRecDepth 20000 in
theorem gX1_standingTo_J6_compare_7cf53 : GoodIn wsX1_standingTo (va_wsS RX1 28 yJ6_compare_7cf53 wsJ6_compare_7cf53) := goodIn_app (goodIn_of _ (by decide +kernel)) ggX1_standingTo_J6_compare_7cf53
set_option maxRecDepth 20000 in
theorem ggX2_init_X2_within : GoodIn wsX2_init wsX2_within := goodIn_r _ [22, 23, 24, 25, 26, 27, 28, 29] (by decide +kernel) (by decide +kernel)
set_option maxRecDepth 20000 in
theorem gX2_init_X2_within : GoodIn wsX2_init (va_wsS RX2 9 yX2_within wsX2_within) := goodIn_app (goodIn_of _ (by decide +kernel)) ggX2_init_X2_within
set_option maxRecDepth 20000 in
theorem ggX2_init_X0_init : GoodIn wsX2_init wsX0_init := goodIn_r _ [32, 33, 2, 3, 34, 35, 36, 37, 21, 38, 12, 13, 14, 39, 40, 41, 42, 43, 44, 57, 58, 59, 60, 61, 62, 63, 64] (by decide +kernel) (by decide +kernel)
set_option maxRecDepth 20000 in
theorem gX2_init_X0_init : GoodIn wsX2_init (wsX0_init) := ggX2_init_X0_init
set_option maxRecDepth 20000 in
theorem ggX2_init_X2_naturals : GoodIn wsX2_init wsX2_naturals := goodIn_r _ [38, 12, 13, 14, 39, 40, 41, 42, 2, 3, 43, 44, 63, 64] (by decide +kernel) (by decide +kernel)
set_option maxRecDepth 20000 in
theorem gX2_init_X2_naturals : GoodIn wsX2_init (va_wsS RX2 32 yX2_naturals wsX2_naturals) := goodIn_app (goodIn_of _ (by decide +kernel)) ggX2_init_X2_naturals
set_option maxRecDepth 20000 in
theorem ggX2_init_X1_init : GoodIn wsX2_init wsX1_init := goodIn_r _ [41, 42, 2, 3, 43, 44, 63, 64] (by decide +kernel) (by decide +kernel)
set_option maxRecDepth 20000 in
theorem gX2_init_X1_init : GoodIn wsX2_init (wsX1_init) := ggX2_init_X1_init
set_option maxRecDepth 20000 in
theorem ggX2_naturals_X1_init : GoodIn wsX2_naturals wsX1_init := goodIn_r _ [6, 7, 8, 9, 10, 11, 12, 13] (by decide +kernel) (by decide +kernel)
set_option maxRecDepth 20000 in
theorem gX2_naturals_X1_init : GoodIn wsX2_naturals (wsX1_init) := ggX2_naturals_X1_init
set_option maxRecDepth 20000 in
theorem ggX2_format_X2_loseMemory : GoodIn wsX2_format wsX2_loseMemory := goodIn_r _ [7, 8, 9, 10, 11, 6, 12, 13, 14, 15, 16, 17, 18, 19, 20, 48, 49, 50, 51, 52, 53, 54, 55, 56, 57, 58, 59, 60] (by decide +kernel) (by decide +kernel)
set_option maxRecDepth 20000 in
theorem gX2_format_X2_loseMemory : GoodIn wsX2_format (wsV RX2 64 RX2 yX2_loseMemory wsX2_loseMemory) := goodIn_app (goodIn_of _ (by decide +kernel)) ggX2_format_X2_loseMemory
set_option maxRecDepth 20000 in
theorem ggX2_format_X0_layOut : GoodIn wsX2_format wsX0_layOut := goodIn_r _ [25, 26, 27, 28, 24, 29, 30, 31, 32, 33, 34, 35, 36, 37, 38, 39, 40, 41, 42, 43, 44, 45, 46, 47, 15, 16, 17, 18, 19, 20, 61, 62, 63, 64, 65, 66, 59, 60] (by decide +kernel) (by decide +kernel)
set_option maxRecDepth 20000 in
theorem gX2_format_X0_layOut : GoodIn wsX2_format (wsV RX2 67 RX0 yX0_layOut wsX0_layOut) := goodIn_app (goodIn_of _ (by decide +kernel)) ggX2_format_X0_layOut
set_option maxRecDepth 20000 in
theorem ggX2_amountLimb_X1_append : GoodIn wsX2_amountLimb wsX1_append := goodIn_r _ [8, 9, 10, 11, 12, 7, 13, 14, 26, 27] (by decide +kernel) (by decide +kernel)
set_option maxRecDepth 20000 in
theorem gX2_amountLimb_X1_append : GoodIn wsX2_amountLimb (wsV RX2 78 RX1 yX1_append wsX1_append) := goodIn_app (goodIn_of _ (by decide +kernel)) ggX2_amountLimb_X1_append
set_option maxRecDepth 20000 in
theorem ggX2_clearAmount_X1_setZero : GoodIn wsX2_clearAmount wsX1_setZero := goodIn_r _ [7, 8, 9, 21, 22] (by decide +kernel) (by decide +kernel)
set_option maxRecDepth 20000 in
theorem gX2_clearAmount_X1_setZero : GoodIn wsX2_clearAmount (wsV RX2 81 RX1 yX1_setZero wsX1_setZero) := goodIn_app (goodIn_of _ (by decide +kernel)) ggX2_clearAmount_X1_setZero
set_option maxRecDepth 20000 in
theorem ggX2_deposit_X2_isAccount : GoodIn wsX2_deposit wsX2_isAccount := goodIn_r _ [7, 8, 65, 66, 67, 68, 69, 70, 71, 72, 73, 74, 75] (by decide +kernel) (by decide +kernel)
set_option maxRecDepth 20000 in
theorem gX2_deposit_X2_isAccount : GoodIn wsX2_deposit (wsV RX2 84 RX2 yX2_isAccount wsX2_isAccount) := goodIn_app (goodIn_of _ (by decide +kernel)) ggX2_deposit_X2_isAccount
set_option maxRecDepth 20000 in
theorem ggX2_deposit_X2_wouldBeTooGreat : GoodIn wsX2_deposit wsX2_wouldBeTooGreat := goodIn_r _ [12, 13, 2, 14, 15, 16, 17, 6, 18, 19, 20, 21, 22, 23, 24, 25, 26, 27, 28, 29, 30, 31, 32, 33, 34, 35, 36, 37, 38, 39, 40, 41, 42, 43, 44, 65, 66, 67, 68, 69, 70, 71, 72, 73, 74, 75, 76, 77, 78, 79, 80, 81, 82, 83] (by decide +kernel) (by decide +kernel)
set_option maxRecDepth 20000 in
theorem gX2_deposit_X2_wouldBeTooGreat : GoodIn wsX2_deposit (wsV RX2 88 RX2 yX2_wouldBeTooGreat wsX2_wouldBeTooGreat) := goodIn_app (goodIn_of _ (by decide +kernel)) ggX2_deposit_X2_wouldBeTooGreat
set_option maxRecDepth 20000 in
theorem ggX2_deposit_X2_totalBlock : GoodIn wsX2_deposit wsX2_totalBlock := goodIn_r _ [48, 8, 65, 66, 67, 68, 69, 70, 71, 72, 73, 74, 75] (by decide +kernel) (by decide +kernel)
set_option maxRecDepth 20000 in
theorem gX2_deposit_X2_totalBlock : GoodIn wsX2_deposit (wsV RX2 91 RX2 yX2_totalBlock wsX2_totalBlock) := goodIn_app (goodIn_of _ (by decide +kernel)) ggX2_deposit_X2_totalBlock
set_option maxRecDepth 20000 in
theorem ggX2_deposit_X2_hasRoomFor : GoodIn wsX2_deposit wsX2_hasRoomFor := goodIn_r _ [52, 19, 53, 54, 55, 56, 57, 58, 59, 60, 65, 66, 67, 68, 69, 70, 71, 72, 73, 74, 75] (by decide +kernel) (by decide +kernel)
set_option maxRecDepth 20000 in
theorem gX2_deposit_X2_hasRoomFor : GoodIn wsX2_deposit (wsV RX2 95 RX2 yX2_hasRoomFor wsX2_hasRoomFor) := goodIn_app (goodIn_of _ (by decide +kernel)) ggX2_deposit_X2_hasRoomFor
set_option maxRecDepth 20000 in
theorem ggX2_deposit_X2_touch : GoodIn wsX2_deposit wsX2_touch := goodIn_r _ [64, 19, 20, 21, 22, 23, 6, 24, 25, 26, 27, 28, 29, 30, 31, 32, 33, 34, 35, 36, 37, 38, 39, 65, 66, 67, 68, 69, 70, 71, 72, 73, 74, 75, 78, 79, 80, 81, 82, 83, 76, 77] (by decide +kernel) (by decide +kernel)
set_option maxRecDepth 20000 in
theorem gX2_deposit_X2_touch : GoodIn wsX2_deposit (wsV RX2 99 RX2 yX2_touch wsX2_touch) := goodIn_app (goodIn_of _ (by decide +kernel)) ggX2_deposit_X2_touch
set_option maxRecDepth 20000 in
theorem ggX2_deposit_X1_increase : GoodIn wsX2_deposit wsX1_increase := goodIn_r _ [43, 30, 44, 31, 32, 33, 28, 34, 35, 36, 37, 38, 39, 76, 77] (by decide +kernel) (by decide +kernel)
set_option maxRecDepth 20000 in
theorem gX2_deposit_X1_increase : GoodIn wsX2_deposit (wsV RX2 103 RX1 yX1_increase wsX1_increase) := goodIn_app (goodIn_of _ (by decide +kernel)) ggX2_deposit_X1_increase
set_option maxRecDepth 20000 in
theorem ggX2_withdraw_X2_isAccount : GoodIn wsX2_withdraw wsX2_isAccount := goodIn_r _ [7, 8, 70, 71, 72, 73, 74, 75, 76, 77, 78, 79, 80] (by decide +kernel) (by decide +kernel)
set_option maxRecDepth 20000 in
theorem gX2_withdraw_X2_isAccount : GoodIn wsX2_withdraw (wsV RX2 84 RX2 yX2_isAccount wsX2_isAccount) := goodIn_app (goodIn_of _ (by decide +kernel)) ggX2_withdraw_X2_isAccount
set_option maxRecDepth 20000 in
theorem ggX2_withdraw_X2_isAmountAbove : GoodIn wsX2_withdraw wsX2_isAmountAbove := goodIn_r _ [12, 2, 13, 14, 15, 6, 16, 17, 18, 19, 20, 21, 22, 23, 24, 25, 26, 27, 28, 29, 30, 31, 32, 33, 34, 35, 36, 37, 70, 71, 72, 73, 74, 75, 76, 77, 78, 79, 80, 81, 82, 83, 84, 85, 86, 87, 88] (by decide +kernel) (by decide +kernel)
set_option maxRecDepth 20000 in
theorem gX2_withdraw_X2_isAmountAbove : GoodIn wsX2_withdraw (wsV RX2 107 RX2 yX2_isAmountAbove wsX2_isAmountAbove) := goodIn_app (goodIn_of _ (by decide +kernel)) ggX2_withdraw_X2_isAmountAbove
set_option maxRecDepth 20000 in
theorem ggX2_withdraw_X2_totalBlock : GoodIn wsX2_withdraw wsX2_totalBlock := goodIn_r _ [41, 8, 70, 71, 72, 73, 74, 75, 76, 77, 78, 79, 80] (by decide +kernel) (by decide +kernel)
set_option maxRecDepth 20000 in
theorem gX2_withdraw_X2_totalBlock : GoodIn wsX2_withdraw (wsV RX2 91 RX2 yX2_totalBlock wsX2_totalBlock) := goodIn_app (goodIn_of _ (by decide +kernel)) ggX2_withdraw_X2_totalBlock
set_option maxRecDepth 20000 in
theorem ggX2_withdraw_X2_hasRoomFor : GoodIn wsX2_withdraw wsX2_hasRoomFor := goodIn_r _ [45, 17, 46, 47, 48, 36, 49, 50, 51, 52, 70, 71, 72, 73, 74, 75, 76, 77, 78, 79, 80] (by decide +kernel) (by decide +kernel)
set_option maxRecDepth 20000 in
theorem gX2_withdraw_X2_hasRoomFor : GoodIn wsX2_withdraw (wsV RX2 95 RX2 yX2_hasRoomFor wsX2_hasRoomFor) := goodIn_app (goodIn_of _ (by decide +kernel)) ggX2_withdraw_X2_hasRoomFor
set_option maxRecDepth 20000 in
theorem ggX2_withdraw_X2_touch : GoodIn wsX2_withdraw wsX2_touch := goodIn_r _ [56, 17, 18, 19, 20, 21, 6, 22, 57, 58, 59, 26, 60, 28, 29, 30, 31, 32, 33, 61, 62, 63, 64, 70, 71, 72, 73, 74, 75, 76, 77, 78, 79, 80, 81, 82, 83, 84, 85, 86, 87, 88] (by decide +kernel) (by decide +kernel)
set_option maxRecDepth 20000 in
theorem gX2_withdraw_X2_touch : GoodIn wsX2_withdraw (wsV RX2 99 RX2 yX2_touch wsX2_touch) := goodIn_app (goodIn_of _ (by decide +kernel)) ggX2_withdraw_X2_touch
set_option maxRecDepth 20000 in
theorem ggX2_withdraw_X1_decrease : GoodIn wsX2_withdraw wsX1_decrease := goodIn_r _ [68, 28, 69, 29, 30, 31, 26, 32, 33, 61, 62, 63, 64, 87, 88] (by decide +kernel) (by decide +kernel)
set_option maxRecDepth 20000 in
theorem gX2_withdraw_X1_decrease : GoodIn wsX2_withdraw (wsV RX2 110 RX1 yX1_decrease wsX1_decrease) := goodIn_app (goodIn_of _ (by decide +kernel)) ggX2_withdraw_X1_decrease
set_option maxRecDepth 20000 in
theorem ggX2_transfer_X2_isAccount : GoodIn wsX2_transfer wsX2_isAccount := goodIn_r _ [7, 8, 76, 77, 78, 79, 80, 81, 82, 83, 84, 85, 86] (by decide +kernel) (by decide +kernel)
set_option maxRecDepth 20000 in
theorem gX2_transfer_X2_isAccount : GoodIn wsX2_transfer (wsV RX2 84 RX2 yX2_isAccount wsX2_isAccount) := goodIn_app (goodIn_of _ (by decide +kernel)) ggX2_transfer_X2_isAccount
set_option maxRecDepth 20000 in
theorem ggX2_transfer_X2_isAmountAbove : GoodIn wsX2_transfer wsX2_isAmountAbove := goodIn_r _ [12, 2, 13, 14, 15, 6, 16, 17, 18, 19, 20, 21, 22, 23, 24, 25, 26, 27, 28, 29, 30, 31, 32, 33, 34, 35, 36, 37, 76, 77, 78, 79, 80, 81, 82, 83, 84, 85, 86, 87, 88, 89, 90, 91, 92, 93, 94] (by decide +kernel) (by decide +kernel)
set_option maxRecDepth 20000 in
theorem gX2_transfer_X2_isAmountAbove : GoodIn wsX2_transfer (wsV RX2 107 RX2 yX2_isAmountAbove wsX2_isAmountAbove) := goodIn_app (goodIn_of _ (by decide +kernel)) ggX2_transfer_X2_isAmountAbove
set_option maxRecDepth 20000 in
theorem ggX2_transfer_X2_wouldBeTooGreat : GoodIn wsX2_transfer wsX2_wouldBeTooGreat := goodIn_r _ [41, 42, 2, 43, 13, 14, 15, 6, 16, 17, 18, 19, 20, 21, 22, 44, 45, 46, 26, 47, 28, 29, 30, 31, 32, 33, 48, 49, 50, 51, 52, 53, 54, 55, 56, 76, 77, 78, 79, 80, 81, 82, 83, 84, 85, 86, 93, 94, 87, 88, 89, 90, 91, 92] (by decide +kernel) (by decide +kernel)
set_option maxRecDepth 20000 in
theorem gX2_transfer_X2_wouldBeTooGreat : GoodIn wsX2_transfer (wsV RX2 88 RX2 yX2_wouldBeTooGreat wsX2_wouldBeTooGreat) := goodIn_app (goodIn_of _ (by decide +kernel)) ggX2_transfer_X2_wouldBeTooGreat
set_option maxRecDepth 20000 in
theorem ggX2_transfer_X2_hasRoomFor : GoodIn wsX2_transfer wsX2_hasRoomFor := goodIn_r _ [60, 17, 61, 62, 63, 36, 64, 65, 66, 67, 76, 77, 78, 79, 80, 81, 82, 83, 84, 85, 86] (by decide +kernel) (by decide +kernel)
set_option maxRecDepth 20000 in
theorem gX2_transfer_X2_hasRoomFor : GoodIn wsX2_transfer (wsV RX2 95 RX2 yX2_hasRoomFor wsX2_hasRoomFor) := goodIn_app (goodIn_of _ (by decide +kernel)) ggX2_transfer_X2_hasRoomFor
set_option maxRecDepth 20000 in
theorem ggX2_transfer_X2_touch : GoodIn wsX2_transfer wsX2_touch := goodIn_r _ [71, 17, 18, 19, 20, 21, 6, 22, 44, 45, 46, 26, 47, 28, 29, 30, 31, 32, 33, 48, 49, 50, 51, 76, 77, 78, 79, 80, 81, 82, 83, 84, 85, 86, 87, 88, 89, 90, 91, 92, 93, 94] (by decide +kernel) (by decide +kernel)
set_option maxRecDepth 20000 in
theorem gX2_transfer_X2_touch : GoodIn wsX2_transfer (wsV RX2 99 RX2 yX2_touch wsX2_touch) := goodIn_app (goodIn_of _ (by decide +kernel)) ggX2_transfer_X2_touch
set_option maxRecDepth 20000 in
theorem ggX2_transfer_X1_decrease : GoodIn wsX2_transfer wsX1_decrease := goodIn_r _ [75, 28, 56, 29, 30, 31, 26, 32, 33, 48, 49, 50, 51, 93, 94] (by decide +kernel) (by decide +kernel)
set_option maxRecDepth 20000 in
theorem gX2_transfer_X1_decrease : GoodIn wsX2_transfer (wsV RX2 110 RX1 yX1_decrease wsX1_decrease) := goodIn_app (goodIn_of _ (by decide +kernel)) ggX2_transfer_X1_decrease
set_option maxRecDepth 20000 in
theorem ggX2_transfer_X1_increase : GoodIn wsX2_transfer wsX1_increase := goodIn_r _ [55, 28, 56, 29, 30, 31, 26, 32, 33, 48, 49, 50, 51, 93, 94] (by decide +kernel) (by decide +kernel)
set_option maxRecDepth 20000 in
theorem gX2_transfer_X1_increase : GoodIn wsX2_transfer (wsV RX2 103 RX1 yX1_increase wsX1_increase) := goodIn_app (goodIn_of _ (by decide +kernel)) ggX2_transfer_X1_increase
set_option maxRecDepth 20000 in
theorem ggX2_part_X2_isAccount : GoodIn wsX2_part wsX2_isAccount := goodIn_r _ [7, 8, 43, 44, 45, 46, 47, 48, 49, 50, 51, 52, 53] (by decide +kernel) (by decide +kernel)
set_option maxRecDepth 20000 in
theorem gX2_part_X2_isAccount : GoodIn wsX2_part (wsV RX2 84 RX2 yX2_isAccount wsX2_isAccount) := goodIn_app (goodIn_of _ (by decide +kernel)) ggX2_part_X2_isAccount
set_option maxRecDepth 20000 in
theorem ggX2_part_X2_seen : GoodIn wsX2_part wsX2_seen := goodIn_r _ [12, 13, 14, 15, 16, 17, 6, 18, 43, 44, 45, 46, 47, 48, 49, 50, 51, 52, 53, 54, 55, 56, 57, 58, 59] (by decide +kernel) (by decide +kernel)
set_option maxRecDepth 20000 in
theorem gX2_part_X2_seen : GoodIn wsX2_part (wsV RX2 113 RX2 yX2_seen wsX2_seen) := goodIn_app (goodIn_of _ (by decide +kernel)) ggX2_part_X2_seen
set_option maxRecDepth 20000 in
theorem ggX2_part_X1_setTo : GoodIn wsX2_part wsX1_setTo := goodIn_r _ [23, 24, 25, 26, 27, 22, 28, 29, 30, 31, 32, 33, 60, 61] (by decide +kernel) (by decide +kernel)
set_option maxRecDepth 20000 in
theorem gX2_part_X1_setTo : GoodIn wsX2_part (wsV RX2 116 RX1 yX1_setTo wsX1_setTo) := goodIn_app (goodIn_of _ (by decide +kernel)) ggX2_part_X1_setTo
set_option maxRecDepth 20000 in
theorem ggX2_part_X1_multiply : GoodIn wsX2_part wsX1_multiply := goodIn_r _ [37, 24, 38, 30, 31, 32, 22, 33, 29, 60, 61] (by decide +kernel) (by decide +kernel)
set_option maxRecDepth 20000 in
theorem gX2_part_X1_multiply : GoodIn wsX2_part (wsV RX2 119 RX1 yX1_multiply wsX1_multiply) := goodIn_app (goodIn_of _ (by decide +kernel)) ggX2_part_X1_multiply
set_option maxRecDepth 20000 in
theorem ggX2_part_X1_divide : GoodIn wsX2_part wsX1_divide := goodIn_r _ [42, 24, 30, 31, 32, 22, 33, 29, 60, 61] (by decide +kernel) (by decide +kernel)
set_option maxRecDepth 20000 in
theorem gX2_part_X1_divide : GoodIn wsX2_part (wsV RX2 122 RX1 yX1_divide wsX1_divide) := goodIn_app (goodIn_of _ (by decide +kernel)) ggX2_part_X1_divide
set_option maxRecDepth 20000 in
theorem ggX2_commit_X0_bringThroughLog : GoodIn wsX2_commit wsX0_bringThroughLog := goodIn_r _ [9, 10, 11, 12, 13, 8, 14, 15, 16, 17, 18, 19, 20, 21, 22, 23, 24, 25, 26, 27, 28, 29, 30, 31, 32, 33, 34, 35, 36, 37, 38, 39, 40, 41, 42, 43, 44, 45, 46, 47, 48, 73, 74, 75, 76, 77, 78, 79, 80] (by decide +kernel) (by decide +kernel)
set_option maxRecDepth 20000 in
theorem gX2_commit_X0_bringThroughLog : GoodIn wsX2_commit (wsV RX2 129 RX0 yX0_bringThroughLog wsX0_bringThroughLog) := goodIn_app (goodIn_of _ (by decide +kernel)) ggX2_commit_X0_bringThroughLog
set_option maxRecDepth 20000 in
theorem ggX2_commit_X2_loseMemory : GoodIn wsX2_commit wsX2_loseMemory := goodIn_r _ [52, 53, 54, 55, 56, 16, 57, 3, 58, 59, 60, 27, 61, 29, 34, 62, 63, 64, 65, 66, 67, 68, 69, 70, 71, 72, 79, 80] (by decide +kernel) (by decide +kernel)
set_option maxRecDepth 20000 in
theorem gX2_commit_X2_loseMemory : GoodIn wsX2_commit (wsV RX2 64 RX2 yX2_loseMemory wsX2_loseMemory) := goodIn_app (goodIn_of _ (by decide +kernel)) ggX2_commit_X2_loseMemory
set_option maxRecDepth 20000 in
theorem ggX2_commit_X2_dropPending : GoodIn wsX2_commit wsX2_dropPending := goodIn_r _ [57, 3, 62, 63, 64, 65, 66, 67, 68, 69, 70, 71, 72] (by decide +kernel) (by decide +kernel)
set_option maxRecDepth 20000 in
theorem gX2_commit_X2_dropPending : GoodIn wsX2_commit (wsV RX2 133 RX2 yX2_dropPending wsX2_dropPending) := goodIn_app (goodIn_of _ (by decide +kernel)) ggX2_commit_X2_dropPending
set_option maxRecDepth 20000 in
theorem ggX2_abort_X2_dropPending : GoodIn wsX2_abort wsX2_dropPending := goodIn_r _ [6, 7, 8, 9, 10, 11, 12, 13, 14, 15, 16, 17, 18] (by decide +kernel) (by decide +kernel)
set_option maxRecDepth 20000 in
theorem gX2_abort_X2_dropPending : GoodIn wsX2_abort (wsV RX2 133 RX2 yX2_dropPending wsX2_dropPending) := goodIn_app (goodIn_of _ (by decide +kernel)) ggX2_abort_X2_dropPending
set_option maxRecDepth 20000 in
theorem ggX2_balanceSize_X2_isAccount : GoodIn wsX2_balanceSize wsX2_isAccount := goodIn_r _ [6, 7, 18, 19, 20, 21, 22, 23, 24, 25, 26, 27, 28] (by decide +kernel) (by decide +kernel)
set_option maxRecDepth 20000 in
theorem gX2_balanceSize_X2_isAccount : GoodIn wsX2_balanceSize (wsV RX2 84 RX2 yX2_isAccount wsX2_isAccount) := goodIn_app (goodIn_of _ (by decide +kernel)) ggX2_balanceSize_X2_isAccount
set_option maxRecDepth 20000 in
theorem ggX2_balanceSize_X2_seen : GoodIn wsX2_balanceSize wsX2_seen := goodIn_r _ [11, 12, 13, 14, 15, 16, 5, 17, 18, 19, 20, 21, 22, 23, 24, 25, 26, 27, 28, 31, 32, 33, 34, 35, 36] (by decide +kernel) (by decide +kernel)
set_option maxRecDepth 20000 in
theorem gX2_balanceSize_X2_seen : GoodIn wsX2_balanceSize (wsV RX2 113 RX2 yX2_seen wsX2_seen) := goodIn_app (goodIn_of _ (by decide +kernel)) ggX2_balanceSize_X2_seen
set_option maxRecDepth 20000 in
theorem ggX2_balanceLimb_X2_isAccount : GoodIn wsX2_balanceLimb wsX2_isAccount := goodIn_r _ [6, 7, 25, 26, 27, 28, 29, 30, 31, 32, 33, 34, 35] (by decide +kernel) (by decide +kernel)
set_option maxRecDepth 20000 in
theorem gX2_balanceLimb_X2_isAccount : GoodIn wsX2_balanceLimb (wsV RX2 84 RX2 yX2_isAccount wsX2_isAccount) := goodIn_app (goodIn_of _ (by decide +kernel)) ggX2_balanceLimb_X2_isAccount
set_option maxRecDepth 20000 in
theorem ggX2_balanceLimb_X2_seen : GoodIn wsX2_balanceLimb wsX2_seen := goodIn_r _ [11, 12, 13, 14, 15, 16, 5, 17, 25, 26, 27, 28, 29, 30, 31, 32, 33, 34, 35, 36, 37, 38, 39, 40, 41] (by decide +kernel) (by decide +kernel)
set_option maxRecDepth 20000 in
theorem gX2_balanceLimb_X2_seen : GoodIn wsX2_balanceLimb (wsV RX2 113 RX2 yX2_seen wsX2_seen) := goodIn_app (goodIn_of _ (by decide +kernel)) ggX2_balanceLimb_X2_seen
set_option maxRecDepth 20000 in
theorem ggX2_balanceLimb_X1_limbAt : GoodIn wsX2_balanceLimb wsX1_limbAt := goodIn_r _ [22, 23, 24, 42, 43] (by decide +kernel) (by decide +kernel)
set_option maxRecDepth 20000 in
theorem gX2_balanceLimb_X1_limbAt : GoodIn wsX2_balanceLimb (wsV RX2 136 RX1 yX1_limbAt wsX1_limbAt) := goodIn_app (goodIn_of _ (by decide +kernel)) ggX2_balanceLimb_X1_limbAt
set_option maxRecDepth 20000 in
theorem ggX2_totalLimb_X2_totalBlock : GoodIn wsX2_totalLimb wsX2_totalBlock := goodIn_r _ [6, 7, 25, 26, 27, 28, 29, 30, 31, 32, 33, 34, 35] (by decide +kernel) (by decide +kernel)
set_option maxRecDepth 20000 in
theorem gX2_totalLimb_X2_totalBlock : GoodIn wsX2_totalLimb (wsV RX2 91 RX2 yX2_totalBlock wsX2_totalBlock) := goodIn_app (goodIn_of _ (by decide +kernel)) ggX2_totalLimb_X2_totalBlock
set_option maxRecDepth 20000 in
theorem ggX2_totalLimb_X2_seen : GoodIn wsX2_totalLimb wsX2_seen := goodIn_r _ [11, 12, 13, 14, 15, 16, 5, 17, 25, 26, 27, 28, 29, 30, 31, 32, 33, 34, 35, 36, 37, 38, 39, 40, 41] (by decide +kernel) (by decide +kernel)
set_option maxRecDepth 20000 in
theorem gX2_totalLimb_X2_seen : GoodIn wsX2_totalLimb (wsV RX2 113 RX2 yX2_seen wsX2_seen) := goodIn_app (goodIn_of _ (by decide +kernel)) ggX2_totalLimb_X2_seen
set_option maxRecDepth 20000 in
theorem ggX2_totalLimb_X1_limbAt : GoodIn wsX2_totalLimb wsX1_limbAt := goodIn_r _ [22, 23, 24, 42, 43] (by decide +kernel) (by decide +kernel)
set_option maxRecDepth 20000 in
theorem gX2_totalLimb_X1_limbAt : GoodIn wsX2_totalLimb (wsV RX2 136 RX1 yX1_limbAt wsX1_limbAt) := goodIn_app (goodIn_of _ (by decide +kernel)) ggX2_totalLimb_X1_limbAt
set_option maxRecDepth 20000 in
theorem ggX2_amount_X1_limbAt : GoodIn wsX2_amount wsX1_limbAt := goodIn_r _ [7, 8, 9, 21, 22] (by decide +kernel) (by decide +kernel)
set_option maxRecDepth 20000 in
theorem gX2_amount_X1_limbAt : GoodIn wsX2_amount (wsV RX2 136 RX1 yX1_limbAt wsX1_limbAt) := goodIn_app (goodIn_of _ (by decide +kernel)) ggX2_amount_X1_limbAt
set_option maxRecDepth 20000 in
theorem ggX2_compare_X2_isAccount : GoodIn wsX2_compare wsX2_isAccount := goodIn_r _ [6, 7, 33, 34, 35, 36, 37, 38, 39, 40, 41, 42, 43] (by decide +kernel) (by decide +kernel)
set_option maxRecDepth 20000 in
theorem gX2_compare_X2_isAccount : GoodIn wsX2_compare (wsV RX2 84 RX2 yX2_isAccount wsX2_isAccount) := goodIn_app (goodIn_of _ (by decide +kernel)) ggX2_compare_X2_isAccount
set_option maxRecDepth 20000 in
theorem ggX2_compare_X2_seen : GoodIn wsX2_compare wsX2_seen := goodIn_r _ [11, 12, 13, 14, 15, 16, 5, 17, 33, 34, 35, 36, 37, 38, 39, 40, 41, 42, 43, 44, 45, 46, 47, 48, 49] (by decide +kernel) (by decide +kernel)
set_option maxRecDepth 20000 in
theorem gX2_compare_X2_seen : GoodIn wsX2_compare (wsV RX2 113 RX2 yX2_seen wsX2_seen) := goodIn_app (goodIn_of _ (by decide +kernel)) ggX2_compare_X2_seen
set_option maxRecDepth 20000 in
theorem ggX2_compare_X1_standingTo : GoodIn wsX2_compare wsX1_standingTo := goodIn_r _ [22, 23, 24, 25, 26, 21, 27, 28, 29, 30, 31, 32, 50, 51] (by decide +kernel) (by decide +kernel)
set_option maxRecDepth 20000 in
theorem gX2_compare_X1_standingTo : GoodIn wsX2_compare (wsV RX2 139 RX1 yX1_standingTo wsX1_standingTo) := goodIn_app (goodIn_of _ (by decide +kernel)) ggX2_compare_X1_standingTo
set_option maxRecDepth 20000 in
theorem ggX2_recover_X2_loseMemory : GoodIn wsX2_recover wsX2_loseMemory := goodIn_r _ [7, 8, 9, 10, 11, 6, 12, 13, 14, 15, 16, 17, 18, 19, 20, 57, 58, 59, 60, 61, 62, 63, 64, 65, 66, 67, 74, 75] (by decide +kernel) (by decide +kernel)
set_option maxRecDepth 20000 in
theorem gX2_recover_X2_loseMemory : GoodIn wsX2_recover (wsV RX2 64 RX2 yX2_loseMemory wsX2_loseMemory) := goodIn_app (goodIn_of _ (by decide +kernel)) ggX2_recover_X2_loseMemory
set_option maxRecDepth 20000 in
theorem ggX2_recover_X0_bringLogHome : GoodIn wsX2_recover wsX0_bringLogHome := goodIn_r _ [25, 26, 27, 28, 29, 30, 31, 24, 32, 33, 6, 34, 35, 36, 37, 38, 39, 40, 41, 42, 43, 17, 44, 19, 45, 46, 47, 48, 20, 49, 50, 51, 52, 53, 54, 55, 56, 68, 69, 70, 71, 72, 73, 74, 75] (by decide +kernel) (by decide +kernel)
set_option maxRecDepth 20000 in
theorem gX2_recover_X0_bringLogHome : GoodIn wsX2_recover (wsV RX2 149 RX0 yX0_bringLogHome wsX0_bringLogHome) := goodIn_app (goodIn_of _ (by decide +kernel)) ggX2_recover_X0_bringLogHome
set_option maxRecDepth 20000 in
theorem ggX2_write_X2_isAccount : GoodIn wsX2_write wsX2_isAccount := goodIn_r _ [9, 10, 40, 41, 42, 43, 44, 45, 46, 47, 48, 49, 50] (by decide +kernel) (by decide +kernel)
set_option maxRecDepth 20000 in
theorem gX2_write_X2_isAccount : GoodIn wsX2_write (wsV RX2 84 RX2 yX2_isAccount wsX2_isAccount) := goodIn_app (goodIn_of _ (by decide +kernel)) ggX2_write_X2_isAccount
set_option maxRecDepth 20000 in
theorem ggX2_write_X2_seen : GoodIn wsX2_write wsX2_seen := goodIn_r _ [14, 15, 16, 17, 18, 19, 8, 20, 40, 41, 42, 43, 44, 45, 46, 47, 48, 49, 50, 53, 54, 55, 56, 57, 58] (by decide +kernel) (by decide +kernel)
set_option maxRecDepth 20000 in
theorem gX2_write_X2_seen : GoodIn wsX2_write (wsV RX2 113 RX2 yX2_seen wsX2_seen) := goodIn_app (goodIn_of _ (by decide +kernel)) ggX2_write_X2_seen
set_option maxRecDepth 20000 in
theorem ggX2_write_X1_setTo : GoodIn wsX2_write wsX1_setTo := goodIn_r _ [25, 26, 27, 28, 29, 24, 30, 31, 32, 33, 34, 35, 51, 52] (by decide +kernel) (by decide +kernel)
set_option maxRecDepth 20000 in
theorem gX2_write_X1_setTo : GoodIn wsX2_write (wsV RX2 116 RX1 yX1_setTo wsX1_setTo) := goodIn_app (goodIn_of _ (by decide +kernel)) ggX2_write_X1_setTo
set_option maxRecDepth 20000 in
theorem ggX2_write_X1_divide : GoodIn wsX2_write wsX1_divide := goodIn_r _ [39, 26, 32, 33, 34, 24, 35, 31, 51, 52] (by decide +kernel) (by decide +kernel)
set_option maxRecDepth 20000 in
theorem gX2_write_X1_divide : GoodIn wsX2_write (wsV RX2 122 RX1 yX1_divide wsX1_divide) := goodIn_app (goodIn_of _ (by decide +kernel)) ggX2_write_X1_divide
set_option maxRecDepth 20000 in
theorem ggX2_count_J6_bitCount_0f7a4 : GoodIn wsX2_count wsJ6_bitCount_0f7a4 := goodIn_r _ [11, 12, 13, 14] (by decide +kernel) (by decide +kernel)
set_option maxRecDepth 20000 in
theorem gX2_count_J6_bitCount_0f7a4 : GoodIn wsX2_count (va_wsS RX2 165 yJ6_bitCount_0f7a4 wsJ6_bitCount_0f7a4) := goodIn_app (goodIn_of _ (by decide +kernel)) ggX2_count_J6_bitCount_0f7a4
set_option maxRecDepth 20000 in
theorem ggX2_count_X2_totalBlock : GoodIn wsX2_count wsX2_totalBlock := goodIn_r _ [19, 1, 28, 29, 30, 31, 32, 33, 34, 35, 36, 37, 38] (by decide +kernel) (by decide +kernel)
set_option maxRecDepth 20000 in
theorem gX2_count_X2_totalBlock : GoodIn wsX2_count (wsV RX2 91 RX2 yX2_totalBlock wsX2_totalBlock) := goodIn_app (goodIn_of _ (by decide +kernel)) ggX2_count_X2_totalBlock
set_option maxRecDepth 20000 in
theorem ggX2_count_X2_seen : GoodIn wsX2_count wsX2_seen := goodIn_r _ [23, 6, 24, 4, 25, 26, 18, 27, 28, 29, 30, 31, 32, 33, 34, 35, 36, 37, 38, 39, 40, 41, 42, 43, 44] (by decide +kernel) (by decide +kernel)
set_option maxRecDepth 20000 in
theorem gX2_count_X2_seen : GoodIn wsX2_count (wsV RX2 113 RX2 yX2_seen wsX2_seen) := goodIn_app (goodIn_of _ (by decide +kernel)) ggX2_count_X2_seen
set_option maxRecDepth 20000 in
theorem ggX2_seen_X2_has : GoodIn wsX2_seen wsX2_has := goodIn_r _ [7] (by decide +kernel) (by decide +kernel)
set_option maxRecDepth 20000 in
theorem gX2_seen_X2_has : GoodIn wsX2_seen (va_wsS RX2 170 yX2_has wsX2_has) := goodIn_app (goodIn_of _ (by decide +kernel)) ggX2_seen_X2_has
set_option maxRecDepth 20000 in
theorem ggX2_touch_X2_has : GoodIn wsX2_touch wsX2_has := goodIn_r _ [7] (by decide +kernel) (by decide +kernel)
set_option maxRecDepth 20000 in
theorem gX2_touch_X2_has : GoodIn wsX2_touch (va_wsS RX2 170 yX2_has wsX2_has) := goodIn_app (goodIn_of _ (by decide +kernel)) ggX2_touch_X2_has
set_option maxRecDepth 20000 in
theorem ggX2_touch_X1_setTo : GoodIn wsX2_touch wsX1_setTo := goodIn_r _ [12, 13, 14, 15, 16, 11, 17, 18, 19, 20, 21, 22, 40, 41] (by decide +kernel) (by decide +kernel)
set_option maxRecDepth 20000 in
theorem gX2_touch_X1_setTo : GoodIn wsX2_touch (wsV RX2 116 RX1 yX1_setTo wsX1_setTo) := goodIn_app (goodIn_of _ (by decide +kernel)) ggX2_touch_X1_setTo
set_option maxRecDepth 20000 in
theorem ggX2_hasRoomFor_J6_bitCount_0f7a4 : GoodIn wsX2_hasRoomFor wsJ6_bitCount_0f7a4 := goodIn_r _ [6, 7, 8, 9] (by decide +kernel) (by decide +kernel)
set_option maxRecDepth 20000 in
theorem gX2_hasRoomFor_J6_bitCount_0f7a4 : GoodIn wsX2_hasRoomFor (va_wsS RX2 165 yJ6_bitCount_0f7a4 wsJ6_bitCount_0f7a4) := goodIn_app (goodIn_of _ (by decide +kernel)) ggX2_hasRoomFor_J6_bitCount_0f7a4
set_option maxRecDepth 20000 in
theorem ggX2_isAmountAbove_X2_seen : GoodIn wsX2_isAmountAbove wsX2_seen := goodIn_r _ [6, 7, 8, 9, 10, 11, 5, 12, 28, 29, 30, 31, 32, 33, 34, 35, 36, 37, 38, 39, 40, 41, 42, 43, 44] (by decide +kernel) (by decide +kernel)
set_option maxRecDepth 20000 in
theorem gX2_isAmountAbove_X2_seen : GoodIn wsX2_isAmountAbove (wsV RX2 113 RX2 yX2_seen wsX2_seen) := goodIn_app (goodIn_of _ (by decide +kernel)) ggX2_isAmountAbove_X2_seen
set_option maxRecDepth 20000 in
theorem ggX2_isAmountAbove_X1_standingTo : GoodIn wsX2_isAmountAbove wsX1_standingTo := goodIn_r _ [17, 18, 19, 20, 21, 16, 22, 23, 24, 25, 26, 27, 45, 46] (by decide +kernel) (by decide +kernel)
set_option maxRecDepth 20000 in
theorem gX2_isAmountAbove_X1_standingTo : GoodIn wsX2_isAmountAbove (wsV RX2 139 RX1 yX1_standingTo wsX1_standingTo) := goodIn_app (goodIn_of _ (by decide +kernel)) ggX2_isAmountAbove_X1_standingTo
set_option maxRecDepth 20000 in
theorem ggX2_wouldBeTooGreat_X2_seen : GoodIn wsX2_wouldBeTooGreat wsX2_seen := goodIn_r _ [8, 9, 10, 11, 12, 13, 7, 14, 35, 36, 37, 38, 39, 40, 41, 42, 43, 44, 45, 48, 49, 50, 51, 52, 53] (by decide +kernel) (by decide +kernel)
set_option maxRecDepth 20000 in
theorem gX2_wouldBeTooGreat_X2_seen : GoodIn wsX2_wouldBeTooGreat (wsV RX2 113 RX2 yX2_seen wsX2_seen) := goodIn_app (goodIn_of _ (by decide +kernel)) ggX2_wouldBeTooGreat_X2_seen
set_option maxRecDepth 20000 in
theorem ggX2_wouldBeTooGreat_X1_setTo : GoodIn wsX2_wouldBeTooGreat wsX1_setTo := goodIn_r _ [19, 20, 21, 22, 23, 18, 24, 25, 26, 27, 28, 29, 46, 47] (by decide +kernel) (by decide +kernel)
set_option maxRecDepth 20000 in
theorem gX2_wouldBeTooGreat_X1_setTo : GoodIn wsX2_wouldBeTooGreat (wsV RX2 116 RX1 yX1_setTo wsX1_setTo) := goodIn_app (goodIn_of _ (by decide +kernel)) ggX2_wouldBeTooGreat_X1_setTo
set_option maxRecDepth 20000 in
theorem ggX2_wouldBeTooGreat_X1_increase : GoodIn wsX2_wouldBeTooGreat wsX1_increase := goodIn_r _ [33, 20, 34, 21, 22, 23, 18, 24, 25, 26, 27, 28, 29, 46, 47] (by decide +kernel) (by decide +kernel)
set_option maxRecDepth 20000 in
theorem gX2_wouldBeTooGreat_X1_increase : GoodIn wsX2_wouldBeTooGreat (wsV RX2 103 RX1 yX1_increase wsX1_increase) := goodIn_app (goodIn_of _ (by decide +kernel)) ggX2_wouldBeTooGreat_X1_increase
set_option maxRecDepth 20000 in
theorem ggX2_loseMemory_X2_dropPending : GoodIn wsX2_loseMemory wsX2_dropPending := goodIn_r _ [6, 7, 15, 16, 17, 18, 19, 20, 21, 22, 23, 24, 25] (by decide +kernel) (by decide +kernel)
set_option maxRecDepth 20000 in
theorem gX2_loseMemory_X2_dropPending : GoodIn wsX2_loseMemory (wsV RX2 133 RX2 yX2_dropPending wsX2_dropPending) := goodIn_app (goodIn_of _ (by decide +kernel)) ggX2_loseMemory_X2_dropPending
set_option maxRecDepth 20000 in
theorem ggX2_loseMemory_X1_setZero : GoodIn wsX2_loseMemory wsX1_setZero := goodIn_r _ [12, 13, 14, 26, 27] (by decide +kernel) (by decide +kernel)
set_option maxRecDepth 20000 in
theorem gX2_loseMemory_X1_setZero : GoodIn wsX2_loseMemory (wsV RX2 81 RX1 yX1_setZero wsX1_setZero) := goodIn_app (goodIn_of _ (by decide +kernel)) ggX2_loseMemory_X1_setZero
set_option maxRecDepth 20000 in
theorem ggX3_down_X3_forget : GoodIn wsX3_down wsX3_forget := goodIn_r _ [6, 7, 8, 9, 10, 11, 12, 13, 14, 15, 16, 17, 18, 19, 20, 21, 22, 23, 24, 25, 26, 27, 28] (by decide +kernel) (by decide +kernel)
set_option maxRecDepth 20000 in
theorem gX3_down_X3_forget : GoodIn wsX3_down (wsV RX3 56 RX3 yX3_forget wsX3_forget) := goodIn_app (goodIn_of _ (by decide +kernel)) ggX3_down_X3_forget
set_option maxRecDepth 20000 in
theorem ggX3_writes_X3_down : GoodIn wsX3_writes wsX3_down := goodIn_r _ [7, 8, 9, 10, 11, 6, 12, 13, 14, 15, 16, 17, 18, 19, 20, 21, 22, 23, 24, 25, 26, 27, 28, 29, 30, 31, 32, 33, 34] (by decide +kernel) (by decide +kernel)
set_option maxRecDepth 20000 in
theorem gX3_writes_X3_down : GoodIn wsX3_writes (wsV RX3 59 RX3 yX3_down wsX3_down) := goodIn_app (goodIn_of _ (by decide +kernel)) ggX3_writes_X3_down
set_option maxRecDepth 20000 in
theorem ggX3_emptyLog_X3_writes : GoodIn wsX3_emptyLog wsX3_writes := goodIn_r _ [6, 7, 8, 9, 10, 11, 5, 12, 13, 14, 15, 16, 17, 18, 19, 20, 21, 22, 23, 24, 25, 26, 27, 28, 29, 30, 31, 32, 33, 34, 35, 36, 37, 38, 39] (by decide +kernel) (by decide +kernel)
set_option maxRecDepth 20000 in
theorem gX3_emptyLog_X3_writes : GoodIn wsX3_emptyLog (wsV RX3 65 RX3 yX3_writes wsX3_writes) := goodIn_app (goodIn_of _ (by decide +kernel)) ggX3_emptyLog_X3_writes
set_option maxRecDepth 20000 in
theorem ggX3_goHome_X3_writes : GoodIn wsX3_goHome wsX3_writes := goodIn_r _ [8, 9, 10, 11, 12, 13, 7, 14, 15, 16, 17, 18, 19, 20, 21, 22, 2, 28, 29, 30, 31, 32, 33, 34, 35, 36, 37, 38, 39, 40, 41, 42, 43, 44, 45] (by decide +kernel) (by decide +kernel)
set_option maxRecDepth 20000 in
theorem gX3_goHome_X3_writes : GoodIn wsX3_goHome (wsV RX3 65 RX3 yX3_writes wsX3_writes) := goodIn_app (goodIn_of _ (by decide +kernel)) ggX3_goHome_X3_writes
set_option maxRecDepth 20000 in
theorem ggX3_goHome_X3_emptyLog : GoodIn wsX3_goHome wsX3_emptyLog := goodIn_r _ [26, 27, 4, 5, 6, 7, 8, 9, 10, 11, 12, 13, 14, 15, 16, 17, 18, 19, 20, 21, 22, 2, 28, 29, 30, 31, 32, 33, 34, 35, 36, 37, 38, 39, 40, 41, 42, 43, 44, 45] (by decide +kernel) (by decide +kernel)
set_option maxRecDepth 20000 in
theorem gX3_goHome_X3_emptyLog : GoodIn wsX3_goHome (wsV RX3 71 RX3 yX3_emptyLog wsX3_emptyLog) := goodIn_app (goodIn_of _ (by decide +kernel)) ggX3_goHome_X3_emptyLog
set_option maxRecDepth 20000 in
theorem ggX3_format_X3_writes : GoodIn wsX3_format wsX3_writes := goodIn_r _ [10, 11, 12, 13, 14, 15, 9, 16, 5, 17, 18, 19, 20, 21, 22, 23, 4, 29, 30, 31, 32, 33, 34, 35, 36, 37, 38, 39, 40, 41, 42, 43, 44, 45, 46] (by decide +kernel) (by decide +kernel)
set_option maxRecDepth 20000 in
theorem gX3_format_X3_writes : GoodIn wsX3_format (wsV RX3 65 RX3 yX3_writes wsX3_writes) := goodIn_app (goodIn_of _ (by decide +kernel)) ggX3_format_X3_writes
set_option maxRecDepth 20000 in
theorem ggX3_format_X3_emptyLog : GoodIn wsX3_format wsX3_emptyLog := goodIn_r _ [27, 28, 6, 7, 8, 9, 10, 11, 12, 13, 14, 15, 16, 5, 17, 18, 19, 20, 21, 22, 23, 4, 29, 30, 31, 32, 33, 34, 35, 36, 37, 38, 39, 40, 41, 42, 43, 44, 45, 46] (by decide +kernel) (by decide +kernel)
set_option maxRecDepth 20000 in
theorem gX3_format_X3_emptyLog : GoodIn wsX3_format (wsV RX3 71 RX3 yX3_emptyLog wsX3_emptyLog) := goodIn_app (goodIn_of _ (by decide +kernel)) ggX3_format_X3_emptyLog
set_option maxRecDepth 20000 in
theorem ggX3_format_X3_forget : GoodIn wsX3_format wsX3_forget := goodIn_r _ [20, 21, 22, 23, 4, 29, 30, 31, 32, 33, 34, 35, 36, 37, 38, 39, 40, 41, 42, 43, 44, 45, 46] (by decide +kernel) (by decide +kernel)
set_option maxRecDepth 20000 in
theorem gX3_format_X3_forget : GoodIn wsX3_format (wsV RX3 56 RX3 yX3_forget wsX3_forget) := goodIn_app (goodIn_of _ (by decide +kernel)) ggX3_format_X3_forget
set_option maxRecDepth 20000 in
theorem ggX3_commit_X3_touches : GoodIn wsX3_commit wsX3_touches := goodIn_r _ [12, 4, 37, 38, 39, 40, 41, 42, 43, 44, 45, 46, 47, 48, 49, 50, 51, 52, 53, 54] (by decide +kernel) (by decide +kernel)
set_option maxRecDepth 20000 in
theorem gX3_commit_X3_touches : GoodIn wsX3_commit (wsV RX3 77 RX3 yX3_touches wsX3_touches) := goodIn_app (goodIn_of _ (by decide +kernel)) ggX3_commit_X3_touches
set_option maxRecDepth 20000 in
theorem ggX3_commit_X3_writes : GoodIn wsX3_commit wsX3_writes := goodIn_r _ [16, 17, 18, 19, 20, 21, 11, 22, 2, 23, 24, 25, 26, 27, 4, 6, 28, 37, 38, 39, 40, 41, 42, 43, 44, 45, 46, 47, 48, 49, 50, 51, 52, 53, 54] (by decide +kernel) (by decide +kernel)
set_option maxRecDepth 20000 in
theorem gX3_commit_X3_writes : GoodIn wsX3_commit (wsV RX3 65 RX3 yX3_writes wsX3_writes) := goodIn_app (goodIn_of _ (by decide +kernel)) ggX3_commit_X3_writes
set_option maxRecDepth 20000 in
theorem ggX3_commit_X3_goHome : GoodIn wsX3_commit wsX3_goHome := goodIn_r _ [32, 3, 28, 5, 13, 14, 15, 11, 16, 17, 18, 19, 20, 21, 22, 2, 23, 24, 25, 26, 27, 4, 6, 33, 34, 35, 36, 7, 37, 38, 39, 40, 41, 42, 43, 44, 45, 46, 47, 48, 49, 50, 51, 52, 53, 54] (by decide +kernel) (by decide +kernel)
set_option maxRecDepth 20000 in
theorem gX3_commit_X3_goHome : GoodIn wsX3_commit (wsV RX3 81 RX3 yX3_goHome wsX3_goHome) := goodIn_app (goodIn_of _ (by decide +kernel)) ggX3_commit_X3_goHome
set_option maxRecDepth 20000 in
theorem ggX3_recover_X3_down : GoodIn wsX3_recover wsX3_down := goodIn_r _ [9, 4, 10, 11, 12, 8, 13, 14, 15, 16, 17, 34, 35, 36, 37, 38, 39, 40, 41, 42, 43, 44, 45, 46, 47, 48, 49, 50, 51] (by decide +kernel) (by decide +kernel)
set_option maxRecDepth 20000 in
theorem gX3_recover_X3_down : GoodIn wsX3_recover (wsV RX3 59 RX3 yX3_down wsX3_down) := goodIn_app (goodIn_of _ (by decide +kernel)) ggX3_recover_X3_down
set_option maxRecDepth 20000 in
theorem ggX3_recover_X3_goHome : GoodIn wsX3_recover wsX3_goHome := goodIn_r _ [21, 22, 17, 23, 24, 25, 26, 8, 27, 28, 29, 5, 6, 7, 9, 4, 10, 11, 12, 13, 14, 15, 16, 30, 31, 32, 33, 3, 34, 35, 36, 37, 38, 39, 40, 41, 42, 43, 44, 45, 46, 47, 48, 49, 50, 51] (by decide +kernel) (by decide +kernel)
set_option maxRecDepth 20000 in
theorem gX3_recover_X3_goHome : GoodIn wsX3_recover (wsV RX3 81 RX3 yX3_goHome wsX3_goHome) := goodIn_app (goodIn_of _ (by decide +kernel)) ggX3_recover_X3_goHome
set_option maxRecDepth 20000 in
theorem ggX3_recover_X3_forget : GoodIn wsX3_recover wsX3_forget := goodIn_r _ [13, 14, 15, 16, 17, 34, 35, 36, 37, 38, 39, 40, 41, 42, 43, 44, 45, 46, 47, 48, 49, 50, 51] (by decide +kernel) (by decide +kernel)
set_option maxRecDepth 20000 in
theorem gX3_recover_X3_forget : GoodIn wsX3_recover (wsV RX3 56 RX3 yX3_forget wsX3_forget) := goodIn_app (goodIn_of _ (by decide +kernel)) ggX3_recover_X3_forget
set_option maxRecDepth 20000 in
theorem ggX3_isFull_X3_touches : GoodIn wsX3_isFull wsX3_touches := goodIn_r _ [7, 1, 8, 9, 10, 11, 12, 13, 14, 15, 16, 17, 18, 19, 20, 21, 22, 23, 24, 25] (by decide +kernel) (by decide +kernel)
set_option maxRecDepth 20000 in
theorem gX3_isFull_X3_touches : GoodIn wsX3_isFull (wsV RX3 77 RX3 yX3_touches wsX3_touches) := goodIn_app (goodIn_of _ (by decide +kernel)) ggX3_isFull_X3_touches
set_option maxRecDepth 20000 in
theorem ggX3_deposit_X3_no : GoodIn wsX3_deposit wsX3_no := goodIn_r _ [8, 9, 32, 33, 34, 35, 36, 37, 38, 39, 40, 41, 42, 43, 44, 45, 46, 47, 48, 49] (by decide +kernel) (by decide +kernel)
set_option maxRecDepth 20000 in
theorem gX3_deposit_X3_no : GoodIn wsX3_deposit (wsV RX3 88 RX3 yX3_no wsX3_no) := goodIn_app (goodIn_of _ (by decide +kernel)) ggX3_deposit_X3_no
set_option maxRecDepth 20000 in
theorem ggX3_deposit_X3_isGreat : GoodIn wsX3_deposit wsX3_isGreat := goodIn_r _ [13, 14, 15, 16, 17, 32, 33, 34, 35, 36, 37, 38, 39, 40, 41, 42, 43, 44, 45, 46, 47, 48, 49] (by decide +kernel) (by decide +kernel)
set_option maxRecDepth 20000 in
theorem gX3_deposit_X3_isGreat : GoodIn wsX3_deposit (wsV RX3 92 RX3 yX3_isGreat wsX3_isGreat) := goodIn_app (goodIn_of _ (by decide +kernel)) ggX3_deposit_X3_isGreat
set_option maxRecDepth 20000 in
theorem ggX3_deposit_X3_isFull : GoodIn wsX3_deposit wsX3_isFull := goodIn_r _ [21, 3, 22, 23, 24, 25, 7, 26, 32, 33, 34, 35, 36, 37, 38, 39, 40, 41, 42, 43, 44, 45, 46, 47, 48, 49] (by decide +kernel) (by decide +kernel)
set_option maxRecDepth 20000 in
theorem gX3_deposit_X3_isFull : GoodIn wsX3_deposit (wsV RX3 95 RX3 yX3_isFull wsX3_isFull) := goodIn_app (goodIn_of _ (by decide +kernel)) ggX3_deposit_X3_isFull
set_option maxRecDepth 20000 in
theorem ggX3_deposit_X3_change : GoodIn wsX3_deposit wsX3_change := goodIn_r _ [30, 15, 16, 31, 17, 32, 33, 34, 35, 36, 37, 38, 39, 40, 41, 42, 43, 44, 45, 46, 47, 48, 49] (by decide +kernel) (by decide +kernel)
set_option maxRecDepth 20000 in
theorem gX3_deposit_X3_change : GoodIn wsX3_deposit (wsV RX3 99 RX3 yX3_change wsX3_change) := goodIn_app (goodIn_of _ (by decide +kernel)) ggX3_deposit_X3_change
set_option maxRecDepth 20000 in
theorem ggX3_withdraw_X3_no : GoodIn wsX3_withdraw wsX3_no := goodIn_r _ [10, 11, 30, 31, 32, 33, 34, 35, 36, 37, 38, 39, 40, 41, 42, 43, 44, 45, 46, 47] (by decide +kernel) (by decide +kernel)
set_option maxRecDepth 20000 in
theorem gX3_withdraw_X3_no : GoodIn wsX3_withdraw (wsV RX3 88 RX3 yX3_no wsX3_no) := goodIn_app (goodIn_of _ (by decide +kernel)) ggX3_withdraw_X3_no
set_option maxRecDepth 20000 in
theorem ggX3_withdraw_X3_compared : GoodIn wsX3_withdraw wsX3_compared := goodIn_r _ [14] (by decide +kernel) (by decide +kernel)
set_option maxRecDepth 20000 in
theorem gX3_withdraw_X3_compared : GoodIn wsX3_withdraw (va_wsS RX3 103 yX3_compared wsX3_compared) := goodIn_app (goodIn_of _ (by decide +kernel)) ggX3_withdraw_X3_compared
set_option maxRecDepth 20000 in
theorem ggX3_withdraw_X3_isFull : GoodIn wsX3_withdraw wsX3_isFull := goodIn_r _ [18, 5, 19, 20, 21, 22, 9, 23, 30, 31, 32, 33, 34, 35, 36, 37, 38, 39, 40, 41, 42, 43, 44, 45, 46, 47] (by decide +kernel) (by decide +kernel)
set_option maxRecDepth 20000 in
theorem gX3_withdraw_X3_isFull : GoodIn wsX3_withdraw (wsV RX3 95 RX3 yX3_isFull wsX3_isFull) := goodIn_app (goodIn_of _ (by decide +kernel)) ggX3_withdraw_X3_isFull
set_option maxRecDepth 20000 in
theorem ggX3_withdraw_X3_change : GoodIn wsX3_withdraw wsX3_change := goodIn_r _ [27, 4, 3, 28, 29, 30, 31, 32, 33, 34, 35, 36, 37, 38, 39, 40, 41, 42, 43, 44, 45, 46, 47] (by decide +kernel) (by decide +kernel)
set_option maxRecDepth 20000 in
theorem gX3_withdraw_X3_change : GoodIn wsX3_withdraw (wsV RX3 99 RX3 yX3_change wsX3_change) := goodIn_app (goodIn_of _ (by decide +kernel)) ggX3_withdraw_X3_change
set_option maxRecDepth 20000 in
theorem ggX3_transfer_X3_no : GoodIn wsX3_transfer wsX3_no := goodIn_r _ [10, 11, 35, 36, 37, 38, 39, 40, 41, 42, 43, 44, 45, 46, 47, 48, 49, 50, 51, 52] (by decide +kernel) (by decide +kernel)
set_option maxRecDepth 20000 in
theorem gX3_transfer_X3_no : GoodIn wsX3_transfer (wsV RX3 88 RX3 yX3_no wsX3_no) := goodIn_app (goodIn_of _ (by decide +kernel)) ggX3_transfer_X3_no
set_option maxRecDepth 20000 in
theorem ggX3_transfer_X3_compared : GoodIn wsX3_transfer wsX3_compared := goodIn_r _ [14] (by decide +kernel) (by decide +kernel)
set_option maxRecDepth 20000 in
theorem gX3_transfer_X3_compared : GoodIn wsX3_transfer (va_wsS RX3 103 yX3_compared wsX3_compared) := goodIn_app (goodIn_of _ (by decide +kernel)) ggX3_transfer_X3_compared
set_option maxRecDepth 20000 in
theorem ggX3_transfer_X3_isGreat : GoodIn wsX3_transfer wsX3_isGreat := goodIn_r _ [18, 19, 4, 3, 20, 35, 36, 37, 38, 39, 40, 41, 42, 43, 44, 45, 46, 47, 48, 49, 50, 51, 52] (by decide +kernel) (by decide +kernel)
set_option maxRecDepth 20000 in
theorem gX3_transfer_X3_isGreat : GoodIn wsX3_transfer (wsV RX3 92 RX3 yX3_isGreat wsX3_isGreat) := goodIn_app (goodIn_of _ (by decide +kernel)) ggX3_transfer_X3_isGreat
set_option maxRecDepth 20000 in
theorem ggX3_transfer_X3_isFull : GoodIn wsX3_transfer wsX3_isFull := goodIn_r _ [24, 5, 25, 26, 27, 28, 9, 29, 35, 36, 37, 38, 39, 40, 41, 42, 43, 44, 45, 46, 47, 48, 49, 50, 51, 52] (by decide +kernel) (by decide +kernel)
set_option maxRecDepth 20000 in
theorem gX3_transfer_X3_isFull : GoodIn wsX3_transfer (wsV RX3 95 RX3 yX3_isFull wsX3_isFull) := goodIn_app (goodIn_of _ (by decide +kernel)) ggX3_transfer_X3_isFull
set_option maxRecDepth 20000 in
theorem ggX3_transfer_X3_change : GoodIn wsX3_transfer wsX3_change := goodIn_r _ [33, 4, 3, 34, 20, 35, 36, 37, 38, 39, 40, 41, 42, 43, 44, 45, 46, 47, 48, 49, 50, 51, 52] (by decide +kernel) (by decide +kernel)
set_option maxRecDepth 20000 in
theorem gX3_transfer_X3_change : GoodIn wsX3_transfer (wsV RX3 99 RX3 yX3_change wsX3_change) := goodIn_app (goodIn_of _ (by decide +kernel)) ggX3_transfer_X3_change
set_option maxRecDepth 20000 in
theorem ggX3_part_X3_no : GoodIn wsX3_part wsX3_no := goodIn_r _ [11, 12, 13, 14, 15, 16, 17, 18, 19, 20, 21, 22, 23, 24, 25, 26, 27, 28, 29, 30] (by decide +kernel) (by decide +kernel)
set_option maxRecDepth 20000 in
theorem gX3_part_X3_no : GoodIn wsX3_part (wsV RX3 88 RX3 yX3_no wsX3_no) := goodIn_app (goodIn_of _ (by decide +kernel)) ggX3_part_X3_no
set_option maxRecDepth 20000 in
theorem ggX3_balanceSize_X3_no : GoodIn wsX3_balanceSize wsX3_no := goodIn_r _ [8, 9, 13, 14, 15, 16, 17, 18, 19, 20, 21, 22, 23, 24, 25, 26, 27, 28, 29, 30] (by decide +kernel) (by decide +kernel)
set_option maxRecDepth 20000 in
theorem gX3_balanceSize_X3_no : GoodIn wsX3_balanceSize (wsV RX3 88 RX3 yX3_no wsX3_no) := goodIn_app (goodIn_of _ (by decide +kernel)) ggX3_balanceSize_X3_no
set_option maxRecDepth 20000 in
theorem ggX3_balanceSize_X3_size : GoodIn wsX3_balanceSize wsX3_size := goodIn_r _ [12] (by decide +kernel) (by decide +kernel)
set_option maxRecDepth 20000 in
theorem gX3_balanceSize_X3_size : GoodIn wsX3_balanceSize (va_wsS RX3 107 yX3_size wsX3_size) := goodIn_app (goodIn_of _ (by decide +kernel)) ggX3_balanceSize_X3_size
set_option maxRecDepth 20000 in
theorem ggX3_balanceLimb_X3_no : GoodIn wsX3_balanceLimb wsX3_no := goodIn_r _ [8, 9, 10, 11, 12, 13, 14, 15, 16, 17, 18, 19, 20, 21, 22, 23, 24, 25, 26, 27] (by decide +kernel) (by decide +kernel)
set_option maxRecDepth 20000 in
theorem gX3_balanceLimb_X3_no : GoodIn wsX3_balanceLimb (wsV RX3 88 RX3 yX3_no wsX3_no) := goodIn_app (goodIn_of _ (by decide +kernel)) ggX3_balanceLimb_X3_no
set_option maxRecDepth 20000 in
theorem ggX3_compare_X3_no : GoodIn wsX3_compare wsX3_no := goodIn_r _ [8, 9, 13, 14, 15, 16, 17, 18, 19, 20, 21, 22, 23, 24, 25, 26, 27, 28, 29, 30] (by decide +kernel) (by decide +kernel)
set_option maxRecDepth 20000 in
theorem gX3_compare_X3_no : GoodIn wsX3_compare (wsV RX3 88 RX3 yX3_no wsX3_no) := goodIn_app (goodIn_of _ (by decide +kernel)) ggX3_compare_X3_no
set_option maxRecDepth 20000 in
theorem ggX3_compare_X3_compared : GoodIn wsX3_compare wsX3_compared := goodIn_r _ [12] (by decide +kernel) (by decide +kernel)
set_option maxRecDepth 20000 in
theorem gX3_compare_X3_compared : GoodIn wsX3_compare (va_wsS RX3 103 yX3_compared wsX3_compared) := goodIn_app (goodIn_of _ (by decide +kernel)) ggX3_compare_X3_compared
set_option maxRecDepth 20000 in
theorem ggX3_write_X3_no : GoodIn wsX3_write wsX3_no := goodIn_r _ [14, 15, 19, 20, 21, 22, 23, 24, 25, 26, 27, 28, 29, 30, 31, 32, 33, 34, 35, 36] (by decide +kernel) (by decide +kernel)
set_option maxRecDepth 20000 in
theorem gX3_write_X3_no : GoodIn wsX3_write (wsV RX3 88 RX3 yX3_no wsX3_no) := goodIn_app (goodIn_of _ (by decide +kernel)) ggX3_write_X3_no
set_option maxRecDepth 20000 in
theorem ggX3_write_X3_size : GoodIn wsX3_write wsX3_size := goodIn_r _ [18] (by decide +kernel) (by decide +kernel)
set_option maxRecDepth 20000 in
theorem gX3_write_X3_size : GoodIn wsX3_write (va_wsS RX3 107 yX3_size wsX3_size) := goodIn_app (goodIn_of _ (by decide +kernel)) ggX3_write_X3_size
set_option maxRecDepth 20000 in
theorem ggX3_count_X3_touches : GoodIn wsX3_count wsX3_touches := goodIn_r _ [14, 15, 19, 20, 21, 22, 23, 24, 25, 26, 27, 28, 29, 30, 31, 32, 33, 34, 35, 36] (by decide +kernel) (by decide +kernel)
set_option maxRecDepth 20000 in
theorem gX3_count_X3_touches : GoodIn wsX3_count (wsV RX3 77 RX3 yX3_touches wsX3_touches) := goodIn_app (goodIn_of _ (by decide +kernel)) ggX3_count_X3_touches
set_option maxRecDepth 20000 in
theorem ggX3_count_X3_size : GoodIn wsX3_count wsX3_size := goodIn_r _ [18] (by decide +kernel) (by decide +kernel)
set_option maxRecDepth 20000 in
theorem gX3_count_X3_size : GoodIn wsX3_count (va_wsS RX3 107 yX3_size wsX3_size) := goodIn_app (goodIn_of _ (by decide +kernel)) ggX3_count_X3_size
abbrev vwCl : List vw_C := [(RX0, TX0, 6), (RX1, TX1, 2), (RX2, TX2, 11), (RX3, TX3, 18)]
end
section
theorem dX0_init_0 : decode cX0_init 0 = .ok (.aload_n 0, 1) := by decide +kernel
theorem dX0_init_1 : decode cX0_init 1 = .ok (.invokespecial 3, 3) := by decide +kernel
theorem dX0_init_4 : decode cX0_init 4 = .ok (.aload_n 0, 1) := by decide +kernel
theorem dX0_init_5 : decode cX0_init 5 = .ok (.iload_n 1, 1) := by decide +kernel
theorem dX0_init_6 : decode cX0_init 6 = .ok (.iload_n 2, 1) := by decide +kernel
theorem dX0_init_7 : decode cX0_init 7 = .ok (.invokestatic 9, 3) := by decide +kernel
theorem dX0_init_10 : decode cX0_init 10 = .ok (.putfield 13, 3) := by decide +kernel
theorem dX0_init_13 : decode cX0_init 13 = .ok (.aload_n 0, 1) := by decide +kernel
theorem dX0_init_14 : decode cX0_init 14 = .ok (.iload_n 1, 1) := by decide +kernel
theorem dX0_init_15 : decode cX0_init 15 = .ok (.iload_n 2, 1) := by decide +kernel
theorem dX0_init_16 : decode cX0_init 16 = .ok (.invokestatic 9, 3) := by decide +kernel
theorem dX0_init_19 : decode cX0_init 19 = .ok (.putfield 19, 3) := by decide +kernel
theorem dX0_init_22 : decode cX0_init 22 = .ok (.aload_n 0, 1) := by decide +kernel
theorem dX0_init_23 : decode cX0_init 23 = .ok (.iconst (-1), 1) := by decide +kernel
theorem dX0_init_24 : decode cX0_init 24 = .ok (.putfield 22, 3) := by decide +kernel
theorem dX0_init_27 : decode cX0_init 27 = .ok (.return_, 1) := by decide +kernel
theorem dX0_layOut_0 : decode cX0_layOut 0 = .ok (.aload_n 0, 1) := by decide +kernel
theorem dX0_layOut_1 : decode cX0_layOut 1 = .ok (.iconst 0, 1) := by decide +kernel
theorem dX0_layOut_2 : decode cX0_layOut 2 = .ok (.invokevirtual 26, 3) := by decide +kernel
theorem dX0_layOut_5 : decode cX0_layOut 5 = .ok (.ifCond .eq 30, 3) := by decide +kernel
theorem dX0_layOut_8 : decode cX0_layOut 8 = .ok (.aload_n 0, 1) := by decide +kernel
theorem dX0_layOut_9 : decode cX0_layOut 9 = .ok (.iconst 0, 1) := by decide +kernel
theorem dX0_layOut_10 : decode cX0_layOut 10 = .ok (.invokevirtual 30, 3) := by decide +kernel
theorem dX0_layOut_13 : decode cX0_layOut 13 = .ok (.ifCond .eq 22, 3) := by decide +kernel
theorem dX0_layOut_16 : decode cX0_layOut 16 = .ok (.aload_n 0, 1) := by decide +kernel
theorem dX0_layOut_17 : decode cX0_layOut 17 = .ok (.invokevirtual 34, 3) := by decide +kernel
theorem dX0_layOut_20 : decode cX0_layOut 20 = .ok (.ifCond .eq 15, 3) := by decide +kernel
theorem dX0_layOut_23 : decode cX0_layOut 23 = .ok (.aload_n 0, 1) := by decide +kernel
theorem dX0_layOut_24 : decode cX0_layOut 24 = .ok (.iconst 1, 1) := by decide +kernel
theorem dX0_layOut_25 : decode cX0_layOut 25 = .ok (.invokevirtual 26, 3) := by decide +kernel
theorem dX0_layOut_28 : decode cX0_layOut 28 = .ok (.ifCond .eq 7, 3) := by decide +kernel
theorem dX0_layOut_31 : decode cX0_layOut 31 = .ok (.iconst 1, 1) := by decide +kernel
theorem dX0_layOut_32 : decode cX0_layOut 32 = .ok (.goto 4, 3) := by decide +kernel
theorem dX0_layOut_35 : decode cX0_layOut 35 = .ok (.iconst 0, 1) := by decide +kernel
theorem dX0_layOut_36 : decode cX0_layOut 36 = .ok (.ireturn, 1) := by decide +kernel
theorem dX0_bringThroughLog_0 : decode cX0_bringThroughLog 0 = .ok (.iload_n 1, 1) := by decide +kernel
theorem dX0_bringThroughLog_1 : decode cX0_bringThroughLog 1 = .ok (.ifCond .ne 5, 3) := by decide +kernel
theorem dX0_bringThroughLog_4 : decode cX0_bringThroughLog 4 = .ok (.iconst 1, 1) := by decide +kernel
theorem dX0_bringThroughLog_5 : decode cX0_bringThroughLog 5 = .ok (.ireturn, 1) := by decide +kernel
theorem dX0_bringThroughLog_6 : decode cX0_bringThroughLog 6 = .ok (.aload_n 0, 1) := by decide +kernel
theorem dX0_bringThroughLog_7 : decode cX0_bringThroughLog 7 = .ok (.aload_n 0, 1) := by decide +kernel
theorem dX0_bringThroughLog_8 : decode cX0_bringThroughLog 8 = .ok (.getfield 19, 3) := by decide +kernel
theorem dX0_bringThroughLog_11 : decode cX0_bringThroughLog 11 = .ok (.iload_n 1, 1) := by decide +kernel
theorem dX0_bringThroughLog_12 : decode cX0_bringThroughLog 12 = .ok (.aload_n 2, 1) := by decide +kernel
theorem dX0_bringThroughLog_13 : decode cX0_bringThroughLog 13 = .ok (.invokevirtual 38, 3) := by decide +kernel
theorem dX0_bringThroughLog_16 : decode cX0_bringThroughLog 16 = .ok (.ifCond .eq 22, 3) := by decide +kernel
theorem dX0_bringThroughLog_19 : decode cX0_bringThroughLog 19 = .ok (.aload_n 0, 1) := by decide +kernel
theorem dX0_bringThroughLog_20 : decode cX0_bringThroughLog 20 = .ok (.iload_n 1, 1) := by decide +kernel
theorem dX0_bringThroughLog_21 : decode cX0_bringThroughLog 21 = .ok (.invokevirtual 30, 3) := by decide +kernel
theorem dX0_bringThroughLog_24 : decode cX0_bringThroughLog 24 = .ok (.ifCond .eq 14, 3) := by decide +kernel
theorem dX0_bringThroughLog_27 : decode cX0_bringThroughLog 27 = .ok (.aload_n 0, 1) := by decide +kernel
theorem dX0_bringThroughLog_28 : decode cX0_bringThroughLog 28 = .ok (.invokevirtual 42, 3) := by decide +kernel
theorem dX0_bringThroughLog_31 : decode cX0_bringThroughLog 31 = .ok (.ifCond .eq 7, 3) := by decide +kernel
theorem dX0_bringThroughLog_34 : decode cX0_bringThroughLog 34 = .ok (.iconst 1, 1) := by decide +kernel
theorem dX0_bringThroughLog_35 : decode cX0_bringThroughLog 35 = .ok (.goto 4, 3) := by decide +kernel
theorem dX0_bringThroughLog_38 : decode cX0_bringThroughLog 38 = .ok (.iconst 0, 1) := by decide +kernel
theorem dX0_bringThroughLog_39 : decode cX0_bringThroughLog 39 = .ok (.ireturn, 1) := by decide +kernel
theorem dX0_bringLogHome_0 : decode cX0_bringLogHome 0 = .ok (.aload_n 0, 1) := by decide +kernel
theorem dX0_bringLogHome_1 : decode cX0_bringLogHome 1 = .ok (.getfield 45, 3) := by decide +kernel
theorem dX0_bringLogHome_4 : decode cX0_bringLogHome 4 = .ok (.ifCond .ne 5, 3) := by decide +kernel
theorem dX0_bringLogHome_7 : decode cX0_bringLogHome 7 = .ok (.iconst 1, 1) := by decide +kernel
theorem dX0_bringLogHome_8 : decode cX0_bringLogHome 8 = .ok (.ireturn, 1) := by decide +kernel
theorem dX0_bringLogHome_9 : decode cX0_bringLogHome 9 = .ok (.aload_n 0, 1) := by decide +kernel
theorem dX0_bringLogHome_10 : decode cX0_bringLogHome 10 = .ok (.aload_n 0, 1) := by decide +kernel
theorem dX0_bringLogHome_11 : decode cX0_bringLogHome 11 = .ok (.getfield 13, 3) := by decide +kernel
theorem dX0_bringLogHome_14 : decode cX0_bringLogHome 14 = .ok (.aload_n 0, 1) := by decide +kernel
theorem dX0_bringLogHome_15 : decode cX0_bringLogHome 15 = .ok (.getfield 45, 3) := by decide +kernel
theorem dX0_bringLogHome_18 : decode cX0_bringLogHome 18 = .ok (.aload_n 0, 1) := by decide +kernel
theorem dX0_bringLogHome_19 : decode cX0_bringLogHome 19 = .ok (.getfield 19, 3) := by decide +kernel
theorem dX0_bringLogHome_22 : decode cX0_bringLogHome 22 = .ok (.invokevirtual 38, 3) := by decide +kernel
theorem dX0_bringLogHome_25 : decode cX0_bringLogHome 25 = .ok (.ifCond .eq 15, 3) := by decide +kernel
theorem dX0_bringLogHome_28 : decode cX0_bringLogHome 28 = .ok (.aload_n 0, 1) := by decide +kernel
theorem dX0_bringLogHome_29 : decode cX0_bringLogHome 29 = .ok (.iconst 0, 1) := by decide +kernel
theorem dX0_bringLogHome_30 : decode cX0_bringLogHome 30 = .ok (.invokevirtual 30, 3) := by decide +kernel
theorem dX0_bringLogHome_33 : decode cX0_bringLogHome 33 = .ok (.ifCond .eq 7, 3) := by decide +kernel
theorem dX0_bringLogHome_36 : decode cX0_bringLogHome 36 = .ok (.iconst 1, 1) := by decide +kernel
theorem dX0_bringLogHome_37 : decode cX0_bringLogHome 37 = .ok (.goto 4, 3) := by decide +kernel
theorem dX0_bringLogHome_40 : decode cX0_bringLogHome 40 = .ok (.iconst 0, 1) := by decide +kernel
theorem dX0_bringLogHome_41 : decode cX0_bringLogHome 41 = .ok (.ireturn, 1) := by decide +kernel
theorem dX0_passStop_0 : decode cX0_passStop 0 = .ok (.aload_n 0, 1) := by decide +kernel
theorem dX0_passStop_1 : decode cX0_passStop 1 = .ok (.getfield 22, 3) := by decide +kernel
theorem dX0_passStop_4 : decode cX0_passStop 4 = .ok (.ifCond .ne 10, 3) := by decide +kernel
theorem dX0_passStop_7 : decode cX0_passStop 7 = .ok (.aload_n 0, 1) := by decide +kernel
theorem dX0_passStop_8 : decode cX0_passStop 8 = .ok (.iconst (-1), 1) := by decide +kernel
theorem dX0_passStop_9 : decode cX0_passStop 9 = .ok (.putfield 22, 3) := by decide +kernel
theorem dX0_passStop_12 : decode cX0_passStop 12 = .ok (.iconst 0, 1) := by decide +kernel
theorem dX0_passStop_13 : decode cX0_passStop 13 = .ok (.ireturn, 1) := by decide +kernel
theorem dX0_passStop_14 : decode cX0_passStop 14 = .ok (.aload_n 0, 1) := by decide +kernel
theorem dX0_passStop_15 : decode cX0_passStop 15 = .ok (.getfield 22, 3) := by decide +kernel
theorem dX0_passStop_18 : decode cX0_passStop 18 = .ok (.ifCond .le 13, 3) := by decide +kernel
theorem dX0_passStop_21 : decode cX0_passStop 21 = .ok (.aload_n 0, 1) := by decide +kernel
theorem dX0_passStop_22 : decode cX0_passStop 22 = .ok (.dup, 1) := by decide +kernel
theorem dX0_passStop_23 : decode cX0_passStop 23 = .ok (.getfield 22, 3) := by decide +kernel
theorem dX0_passStop_26 : decode cX0_passStop 26 = .ok (.iconst 1, 1) := by decide +kernel
theorem dX0_passStop_27 : decode cX0_passStop 27 = .ok (.isub, 1) := by decide +kernel
theorem dX0_passStop_28 : decode cX0_passStop 28 = .ok (.putfield 22, 3) := by decide +kernel
theorem dX0_passStop_31 : decode cX0_passStop 31 = .ok (.aload_n 0, 1) := by decide +kernel
theorem dX0_passStop_32 : decode cX0_passStop 32 = .ok (.dup, 1) := by decide +kernel
theorem dX0_passStop_33 : decode cX0_passStop 33 = .ok (.getfield 48, 3) := by decide +kernel
theorem dX0_passStop_36 : decode cX0_passStop 36 = .ok (.iconst 1, 1) := by decide +kernel
theorem dX0_passStop_37 : decode cX0_passStop 37 = .ok (.iadd, 1) := by decide +kernel
theorem dX0_passStop_38 : decode cX0_passStop 38 = .ok (.putfield 48, 3) := by decide +kernel
theorem dX0_passStop_41 : decode cX0_passStop 41 = .ok (.iconst 1, 1) := by decide +kernel
theorem dX0_passStop_42 : decode cX0_passStop 42 = .ok (.ireturn, 1) := by decide +kernel
theorem dX0_writeFormatted_0 : decode cX0_writeFormatted 0 = .ok (.aload_n 0, 1) := by decide +kernel
theorem dX0_writeFormatted_1 : decode cX0_writeFormatted 1 = .ok (.invokevirtual 51, 3) := by decide +kernel
theorem dX0_writeFormatted_4 : decode cX0_writeFormatted 4 = .ok (.ifCond .ne 5, 3) := by decide +kernel
theorem dX0_writeFormatted_7 : decode cX0_writeFormatted 7 = .ok (.iconst 0, 1) := by decide +kernel
theorem dX0_writeFormatted_8 : decode cX0_writeFormatted 8 = .ok (.ireturn, 1) := by decide +kernel
theorem dX0_writeFormatted_9 : decode cX0_writeFormatted 9 = .ok (.aload_n 0, 1) := by decide +kernel
theorem dX0_writeFormatted_10 : decode cX0_writeFormatted 10 = .ok (.iload_n 1, 1) := by decide +kernel
theorem dX0_writeFormatted_11 : decode cX0_writeFormatted 11 = .ok (.putfield 54, 3) := by decide +kernel
theorem dX0_writeFormatted_14 : decode cX0_writeFormatted 14 = .ok (.iconst 1, 1) := by decide +kernel
theorem dX0_writeFormatted_15 : decode cX0_writeFormatted 15 = .ok (.ireturn, 1) := by decide +kernel
theorem dX0_writeLogState_0 : decode cX0_writeLogState 0 = .ok (.aload_n 0, 1) := by decide +kernel
theorem dX0_writeLogState_1 : decode cX0_writeLogState 1 = .ok (.invokevirtual 51, 3) := by decide +kernel
theorem dX0_writeLogState_4 : decode cX0_writeLogState 4 = .ok (.ifCond .ne 5, 3) := by decide +kernel
theorem dX0_writeLogState_7 : decode cX0_writeLogState 7 = .ok (.iconst 0, 1) := by decide +kernel
theorem dX0_writeLogState_8 : decode cX0_writeLogState 8 = .ok (.ireturn, 1) := by decide +kernel
theorem dX0_writeLogState_9 : decode cX0_writeLogState 9 = .ok (.aload_n 0, 1) := by decide +kernel
theorem dX0_writeLogState_10 : decode cX0_writeLogState 10 = .ok (.iload_n 1, 1) := by decide +kernel
theorem dX0_writeLogState_11 : decode cX0_writeLogState 11 = .ok (.putfield 45, 3) := by decide +kernel
theorem dX0_writeLogState_14 : decode cX0_writeLogState 14 = .ok (.iconst 1, 1) := by decide +kernel
theorem dX0_writeLogState_15 : decode cX0_writeLogState 15 = .ok (.ireturn, 1) := by decide +kernel
theorem dX0_writeBlocks_0 : decode cX0_writeBlocks 0 = .ok (.iconst 0, 1) := by decide +kernel
theorem dX0_writeBlocks_1 : decode cX0_writeBlocks 1 = .ok (.istore 4, 2) := by decide +kernel
theorem dX0_writeBlocks_3 : decode cX0_writeBlocks 3 = .ok (.iload 4, 2) := by decide +kernel
theorem dX0_writeBlocks_5 : decode cX0_writeBlocks 5 = .ok (.aload_n 1, 1) := by decide +kernel
theorem dX0_writeBlocks_6 : decode cX0_writeBlocks 6 = .ok (.arraylength, 1) := by decide +kernel
theorem dX0_writeBlocks_7 : decode cX0_writeBlocks 7 = .ok (.if_icmp .ge 45, 3) := by decide +kernel
theorem dX0_writeBlocks_10 : decode cX0_writeBlocks 10 = .ok (.iload 4, 2) := by decide +kernel
theorem dX0_writeBlocks_12 : decode cX0_writeBlocks 12 = .ok (.aload_n 3, 1) := by decide +kernel
theorem dX0_writeBlocks_13 : decode cX0_writeBlocks 13 = .ok (.arraylength, 1) := by decide +kernel
theorem dX0_writeBlocks_14 : decode cX0_writeBlocks 14 = .ok (.if_icmp .ge 38, 3) := by decide +kernel
theorem dX0_writeBlocks_17 : decode cX0_writeBlocks 17 = .ok (.iload_n 2, 1) := by decide +kernel
theorem dX0_writeBlocks_18 : decode cX0_writeBlocks 18 = .ok (.iload 4, 2) := by decide +kernel
theorem dX0_writeBlocks_20 : decode cX0_writeBlocks 20 = .ok (.invokestatic 58, 3) := by decide +kernel
theorem dX0_writeBlocks_23 : decode cX0_writeBlocks 23 = .ok (.ifCond .eq 23, 3) := by decide +kernel
theorem dX0_writeBlocks_26 : decode cX0_writeBlocks 26 = .ok (.aload_n 0, 1) := by decide +kernel
theorem dX0_writeBlocks_27 : decode cX0_writeBlocks 27 = .ok (.invokevirtual 51, 3) := by decide +kernel
theorem dX0_writeBlocks_30 : decode cX0_writeBlocks 30 = .ok (.ifCond .ne 5, 3) := by decide +kernel
theorem dX0_writeBlocks_33 : decode cX0_writeBlocks 33 = .ok (.iconst 0, 1) := by decide +kernel
theorem dX0_writeBlocks_34 : decode cX0_writeBlocks 34 = .ok (.ireturn, 1) := by decide +kernel
theorem dX0_writeBlocks_35 : decode cX0_writeBlocks 35 = .ok (.aload_n 1, 1) := by decide +kernel
theorem dX0_writeBlocks_36 : decode cX0_writeBlocks 36 = .ok (.iload 4, 2) := by decide +kernel
theorem dX0_writeBlocks_38 : decode cX0_writeBlocks 38 = .ok (.aaload, 1) := by decide +kernel
theorem dX0_writeBlocks_39 : decode cX0_writeBlocks 39 = .ok (.aload_n 3, 1) := by decide +kernel
theorem dX0_writeBlocks_40 : decode cX0_writeBlocks 40 = .ok (.iload 4, 2) := by decide +kernel
theorem dX0_writeBlocks_42 : decode cX0_writeBlocks 42 = .ok (.aaload, 1) := by decide +kernel
theorem dX0_writeBlocks_43 : decode cX0_writeBlocks 43 = .ok (.invokevirtual 62, 3) := by decide +kernel
theorem dX0_writeBlocks_46 : decode cX0_writeBlocks 46 = .ok (.iinc 4 1, 3) := by decide +kernel
theorem dX0_writeBlocks_49 : decode cX0_writeBlocks 49 = .ok (.goto (-46), 3) := by decide +kernel
theorem dX0_writeBlocks_52 : decode cX0_writeBlocks 52 = .ok (.iconst 1, 1) := by decide +kernel
theorem dX0_writeBlocks_53 : decode cX0_writeBlocks 53 = .ok (.ireturn, 1) := by decide +kernel
theorem dX0_clearHomes_0 : decode cX0_clearHomes 0 = .ok (.iconst 0, 1) := by decide +kernel
theorem dX0_clearHomes_1 : decode cX0_clearHomes 1 = .ok (.istore_n 1, 1) := by decide +kernel
theorem dX0_clearHomes_2 : decode cX0_clearHomes 2 = .ok (.iload_n 1, 1) := by decide +kernel
theorem dX0_clearHomes_3 : decode cX0_clearHomes 3 = .ok (.aload_n 0, 1) := by decide +kernel
theorem dX0_clearHomes_4 : decode cX0_clearHomes 4 = .ok (.getfield 13, 3) := by decide +kernel
theorem dX0_clearHomes_7 : decode cX0_clearHomes 7 = .ok (.arraylength, 1) := by decide +kernel
theorem dX0_clearHomes_8 : decode cX0_clearHomes 8 = .ok (.if_icmp .ge 27, 3) := by decide +kernel
theorem dX0_clearHomes_11 : decode cX0_clearHomes 11 = .ok (.aload_n 0, 1) := by decide +kernel
theorem dX0_clearHomes_12 : decode cX0_clearHomes 12 = .ok (.invokevirtual 51, 3) := by decide +kernel
theorem dX0_clearHomes_15 : decode cX0_clearHomes 15 = .ok (.ifCond .ne 5, 3) := by decide +kernel
theorem dX0_clearHomes_18 : decode cX0_clearHomes 18 = .ok (.iconst 0, 1) := by decide +kernel
theorem dX0_clearHomes_19 : decode cX0_clearHomes 19 = .ok (.ireturn, 1) := by decide +kernel
theorem dX0_clearHomes_20 : decode cX0_clearHomes 20 = .ok (.aload_n 0, 1) := by decide +kernel
theorem dX0_clearHomes_21 : decode cX0_clearHomes 21 = .ok (.getfield 13, 3) := by decide +kernel
theorem dX0_clearHomes_24 : decode cX0_clearHomes 24 = .ok (.iload_n 1, 1) := by decide +kernel
theorem dX0_clearHomes_25 : decode cX0_clearHomes 25 = .ok (.aaload, 1) := by decide +kernel
theorem dX0_clearHomes_26 : decode cX0_clearHomes 26 = .ok (.invokevirtual 68, 3) := by decide +kernel
theorem dX0_clearHomes_29 : decode cX0_clearHomes 29 = .ok (.iinc 1 1, 3) := by decide +kernel
theorem dX0_clearHomes_32 : decode cX0_clearHomes 32 = .ok (.goto (-30), 3) := by decide +kernel
theorem dX0_clearHomes_35 : decode cX0_clearHomes 35 = .ok (.iconst 1, 1) := by decide +kernel
theorem dX0_clearHomes_36 : decode cX0_clearHomes 36 = .ok (.ireturn, 1) := by decide +kernel
theorem dX1_init_0 : decode cX1_init 0 = .ok (.aload_n 0, 1) := by decide +kernel
theorem dX1_init_1 : decode cX1_init 1 = .ok (.invokespecial 3, 3) := by decide +kernel
theorem dX1_init_4 : decode cX1_init 4 = .ok (.aload_n 0, 1) := by decide +kernel
theorem dX1_init_5 : decode cX1_init 5 = .ok (.iload_n 1, 1) := by decide +kernel
theorem dX1_init_6 : decode cX1_init 6 = .ok (.newarray .int, 2) := by decide +kernel
theorem dX1_init_8 : decode cX1_init 8 = .ok (.putfield 9, 3) := by decide +kernel
theorem dX1_init_11 : decode cX1_init 11 = .ok (.return_, 1) := by decide +kernel
theorem dX1_limbAt_0 : decode cX1_limbAt 0 = .ok (.iload_n 1, 1) := by decide +kernel
theorem dX1_limbAt_1 : decode cX1_limbAt 1 = .ok (.ifCond .lt 20, 3) := by decide +kernel
theorem dX1_limbAt_4 : decode cX1_limbAt 4 = .ok (.iload_n 1, 1) := by decide +kernel
theorem dX1_limbAt_5 : decode cX1_limbAt 5 = .ok (.aload_n 0, 1) := by decide +kernel
theorem dX1_limbAt_6 : decode cX1_limbAt 6 = .ok (.getfield 15, 3) := by decide +kernel
theorem dX1_limbAt_9 : decode cX1_limbAt 9 = .ok (.if_icmp .ge 12, 3) := by decide +kernel
theorem dX1_limbAt_12 : decode cX1_limbAt 12 = .ok (.aload_n 0, 1) := by decide +kernel
theorem dX1_limbAt_13 : decode cX1_limbAt 13 = .ok (.getfield 9, 3) := by decide +kernel
theorem dX1_limbAt_16 : decode cX1_limbAt 16 = .ok (.iload_n 1, 1) := by decide +kernel
theorem dX1_limbAt_17 : decode cX1_limbAt 17 = .ok (.iaload, 1) := by decide +kernel
theorem dX1_limbAt_18 : decode cX1_limbAt 18 = .ok (.goto 4, 3) := by decide +kernel
theorem dX1_limbAt_21 : decode cX1_limbAt 21 = .ok (.iconst 0, 1) := by decide +kernel
theorem dX1_limbAt_22 : decode cX1_limbAt 22 = .ok (.ireturn, 1) := by decide +kernel
theorem dX1_setZero_0 : decode cX1_setZero 0 = .ok (.iconst 0, 1) := by decide +kernel
theorem dX1_setZero_1 : decode cX1_setZero 1 = .ok (.istore_n 1, 1) := by decide +kernel
theorem dX1_setZero_2 : decode cX1_setZero 2 = .ok (.iload_n 1, 1) := by decide +kernel
theorem dX1_setZero_3 : decode cX1_setZero 3 = .ok (.aload_n 0, 1) := by decide +kernel
theorem dX1_setZero_4 : decode cX1_setZero 4 = .ok (.getfield 9, 3) := by decide +kernel
theorem dX1_setZero_7 : decode cX1_setZero 7 = .ok (.arraylength, 1) := by decide +kernel
theorem dX1_setZero_8 : decode cX1_setZero 8 = .ok (.if_icmp .ge 16, 3) := by decide +kernel
theorem dX1_setZero_11 : decode cX1_setZero 11 = .ok (.aload_n 0, 1) := by decide +kernel
theorem dX1_setZero_12 : decode cX1_setZero 12 = .ok (.getfield 9, 3) := by decide +kernel
theorem dX1_setZero_15 : decode cX1_setZero 15 = .ok (.iload_n 1, 1) := by decide +kernel
theorem dX1_setZero_16 : decode cX1_setZero 16 = .ok (.iconst 0, 1) := by decide +kernel
theorem dX1_setZero_17 : decode cX1_setZero 17 = .ok (.iastore, 1) := by decide +kernel
theorem dX1_setZero_18 : decode cX1_setZero 18 = .ok (.iinc 1 1, 3) := by decide +kernel
theorem dX1_setZero_21 : decode cX1_setZero 21 = .ok (.goto (-19), 3) := by decide +kernel
theorem dX1_setZero_24 : decode cX1_setZero 24 = .ok (.aload_n 0, 1) := by decide +kernel
theorem dX1_setZero_25 : decode cX1_setZero 25 = .ok (.iconst 0, 1) := by decide +kernel
theorem dX1_setZero_26 : decode cX1_setZero 26 = .ok (.putfield 15, 3) := by decide +kernel
theorem dX1_setZero_29 : decode cX1_setZero 29 = .ok (.return_, 1) := by decide +kernel
theorem dX1_setTo_0 : decode cX1_setTo 0 = .ok (.iconst 0, 1) := by decide +kernel
theorem dX1_setTo_1 : decode cX1_setTo 1 = .ok (.istore_n 2, 1) := by decide +kernel
theorem dX1_setTo_2 : decode cX1_setTo 2 = .ok (.iload_n 2, 1) := by decide +kernel
theorem dX1_setTo_3 : decode cX1_setTo 3 = .ok (.aload_n 0, 1) := by decide +kernel
theorem dX1_setTo_4 : decode cX1_setTo 4 = .ok (.getfield 9, 3) := by decide +kernel
theorem dX1_setTo_7 : decode cX1_setTo 7 = .ok (.arraylength, 1) := by decide +kernel
theorem dX1_setTo_8 : decode cX1_setTo 8 = .ok (.if_icmp .ge 20, 3) := by decide +kernel
theorem dX1_setTo_11 : decode cX1_setTo 11 = .ok (.aload_n 0, 1) := by decide +kernel
theorem dX1_setTo_12 : decode cX1_setTo 12 = .ok (.getfield 9, 3) := by decide +kernel
theorem dX1_setTo_15 : decode cX1_setTo 15 = .ok (.iload_n 2, 1) := by decide +kernel
theorem dX1_setTo_16 : decode cX1_setTo 16 = .ok (.aload_n 1, 1) := by decide +kernel
theorem dX1_setTo_17 : decode cX1_setTo 17 = .ok (.iload_n 2, 1) := by decide +kernel
theorem dX1_setTo_18 : decode cX1_setTo 18 = .ok (.invokevirtual 19, 3) := by decide +kernel
theorem dX1_setTo_21 : decode cX1_setTo 21 = .ok (.iastore, 1) := by decide +kernel
theorem dX1_setTo_22 : decode cX1_setTo 22 = .ok (.iinc 2 1, 3) := by decide +kernel
theorem dX1_setTo_25 : decode cX1_setTo 25 = .ok (.goto (-23), 3) := by decide +kernel
theorem dX1_setTo_28 : decode cX1_setTo 28 = .ok (.aload_n 0, 1) := by decide +kernel
theorem dX1_setTo_29 : decode cX1_setTo 29 = .ok (.invokevirtual 23, 3) := by decide +kernel
theorem dX1_setTo_32 : decode cX1_setTo 32 = .ok (.return_, 1) := by decide +kernel
theorem dX1_append_0 : decode cX1_append 0 = .ok (.aload_n 0, 1) := by decide +kernel
theorem dX1_append_1 : decode cX1_append 1 = .ok (.getfield 9, 3) := by decide +kernel
theorem dX1_append_4 : decode cX1_append 4 = .ok (.arraylength, 1) := by decide +kernel
theorem dX1_append_5 : decode cX1_append 5 = .ok (.iconst 1, 1) := by decide +kernel
theorem dX1_append_6 : decode cX1_append 6 = .ok (.isub, 1) := by decide +kernel
theorem dX1_append_7 : decode cX1_append 7 = .ok (.istore_n 2, 1) := by decide +kernel
theorem dX1_append_8 : decode cX1_append 8 = .ok (.iload_n 2, 1) := by decide +kernel
theorem dX1_append_9 : decode cX1_append 9 = .ok (.ifCond .le 23, 3) := by decide +kernel
theorem dX1_append_12 : decode cX1_append 12 = .ok (.aload_n 0, 1) := by decide +kernel
theorem dX1_append_13 : decode cX1_append 13 = .ok (.getfield 9, 3) := by decide +kernel
theorem dX1_append_16 : decode cX1_append 16 = .ok (.iload_n 2, 1) := by decide +kernel
theorem dX1_append_17 : decode cX1_append 17 = .ok (.aload_n 0, 1) := by decide +kernel
theorem dX1_append_18 : decode cX1_append 18 = .ok (.getfield 9, 3) := by decide +kernel
theorem dX1_append_21 : decode cX1_append 21 = .ok (.iload_n 2, 1) := by decide +kernel
theorem dX1_append_22 : decode cX1_append 22 = .ok (.iconst 1, 1) := by decide +kernel
theorem dX1_append_23 : decode cX1_append 23 = .ok (.isub, 1) := by decide +kernel
theorem dX1_append_24 : decode cX1_append 24 = .ok (.iaload, 1) := by decide +kernel
theorem dX1_append_25 : decode cX1_append 25 = .ok (.iastore, 1) := by decide +kernel
theorem dX1_append_26 : decode cX1_append 26 = .ok (.iinc 2 (-1), 3) := by decide +kernel
theorem dX1_append_29 : decode cX1_append 29 = .ok (.goto (-21), 3) := by decide +kernel
theorem dX1_append_32 : decode cX1_append 32 = .ok (.aload_n 0, 1) := by decide +kernel
theorem dX1_append_33 : decode cX1_append 33 = .ok (.getfield 9, 3) := by decide +kernel
theorem dX1_append_36 : decode cX1_append 36 = .ok (.iconst 0, 1) := by decide +kernel
theorem dX1_append_37 : decode cX1_append 37 = .ok (.iload_n 1, 1) := by decide +kernel
theorem dX1_append_38 : decode cX1_append 38 = .ok (.iastore, 1) := by decide +kernel
theorem dX1_append_39 : decode cX1_append 39 = .ok (.aload_n 0, 1) := by decide +kernel
theorem dX1_append_40 : decode cX1_append 40 = .ok (.invokevirtual 23, 3) := by decide +kernel
theorem dX1_append_43 : decode cX1_append 43 = .ok (.return_, 1) := by decide +kernel
theorem dX1_increase_0 : decode cX1_increase 0 = .ok (.lconst 0, 1) := by decide +kernel
theorem dX1_increase_1 : decode cX1_increase 1 = .ok (.lstore_n 2, 1) := by decide +kernel
theorem dX1_increase_2 : decode cX1_increase 2 = .ok (.iconst 0, 1) := by decide +kernel
theorem dX1_increase_3 : decode cX1_increase 3 = .ok (.istore 4, 2) := by decide +kernel
theorem dX1_increase_5 : decode cX1_increase 5 = .ok (.iload 4, 2) := by decide +kernel
theorem dX1_increase_7 : decode cX1_increase 7 = .ok (.aload_n 0, 1) := by decide +kernel
theorem dX1_increase_8 : decode cX1_increase 8 = .ok (.getfield 9, 3) := by decide +kernel
theorem dX1_increase_11 : decode cX1_increase 11 = .ok (.arraylength, 1) := by decide +kernel
theorem dX1_increase_12 : decode cX1_increase 12 = .ok (.if_icmp .ge 49, 3) := by decide +kernel
theorem dX1_increase_15 : decode cX1_increase 15 = .ok (.lload_n 2, 1) := by decide +kernel
theorem dX1_increase_16 : decode cX1_increase 16 = .ok (.aload_n 0, 1) := by decide +kernel
theorem dX1_increase_17 : decode cX1_increase 17 = .ok (.getfield 9, 3) := by decide +kernel
theorem dX1_increase_20 : decode cX1_increase 20 = .ok (.iload 4, 2) := by decide +kernel
theorem dX1_increase_22 : decode cX1_increase 22 = .ok (.iaload, 1) := by decide +kernel
theorem dX1_increase_23 : decode cX1_increase 23 = .ok (.i2l, 1) := by decide +kernel
theorem dX1_increase_24 : decode cX1_increase 24 = .ok (.ladd, 1) := by decide +kernel
theorem dX1_increase_25 : decode cX1_increase 25 = .ok (.aload_n 1, 1) := by decide +kernel
theorem dX1_increase_26 : decode cX1_increase 26 = .ok (.iload 4, 2) := by decide +kernel
theorem dX1_increase_28 : decode cX1_increase 28 = .ok (.invokevirtual 19, 3) := by decide +kernel
theorem dX1_increase_31 : decode cX1_increase 31 = .ok (.i2l, 1) := by decide +kernel
theorem dX1_increase_32 : decode cX1_increase 32 = .ok (.ladd, 1) := by decide +kernel
theorem dX1_increase_33 : decode cX1_increase 33 = .ok (.lstore 5, 2) := by decide +kernel
theorem dX1_increase_35 : decode cX1_increase 35 = .ok (.aload_n 0, 1) := by decide +kernel
theorem dX1_increase_36 : decode cX1_increase 36 = .ok (.getfield 9, 3) := by decide +kernel
theorem dX1_increase_39 : decode cX1_increase 39 = .ok (.iload 4, 2) := by decide +kernel
theorem dX1_increase_41 : decode cX1_increase 41 = .ok (.lload 5, 2) := by decide +kernel
theorem dX1_increase_43 : decode cX1_increase 43 = .ok (.ldc2_w 26, 3) := by decide +kernel
theorem dX1_increase_46 : decode cX1_increase 46 = .ok (.land, 1) := by decide +kernel
theorem dX1_increase_47 : decode cX1_increase 47 = .ok (.l2i, 1) := by decide +kernel
theorem dX1_increase_48 : decode cX1_increase 48 = .ok (.iastore, 1) := by decide +kernel
theorem dX1_increase_49 : decode cX1_increase 49 = .ok (.lload 5, 2) := by decide +kernel
theorem dX1_increase_51 : decode cX1_increase 51 = .ok (.bipush 31, 2) := by decide +kernel
theorem dX1_increase_53 : decode cX1_increase 53 = .ok (.lushr, 1) := by decide +kernel
theorem dX1_increase_54 : decode cX1_increase 54 = .ok (.lstore_n 2, 1) := by decide +kernel
theorem dX1_increase_55 : decode cX1_increase 55 = .ok (.iinc 4 1, 3) := by decide +kernel
theorem dX1_increase_58 : decode cX1_increase 58 = .ok (.goto (-53), 3) := by decide +kernel
theorem dX1_increase_61 : decode cX1_increase 61 = .ok (.aload_n 0, 1) := by decide +kernel
theorem dX1_increase_62 : decode cX1_increase 62 = .ok (.invokevirtual 23, 3) := by decide +kernel
theorem dX1_increase_65 : decode cX1_increase 65 = .ok (.return_, 1) := by decide +kernel
theorem dX1_decrease_0 : decode cX1_decrease 0 = .ok (.lconst 0, 1) := by decide +kernel
theorem dX1_decrease_1 : decode cX1_decrease 1 = .ok (.lstore_n 2, 1) := by decide +kernel
theorem dX1_decrease_2 : decode cX1_decrease 2 = .ok (.iconst 0, 1) := by decide +kernel
theorem dX1_decrease_3 : decode cX1_decrease 3 = .ok (.istore 4, 2) := by decide +kernel
theorem dX1_decrease_5 : decode cX1_decrease 5 = .ok (.iload 4, 2) := by decide +kernel
theorem dX1_decrease_7 : decode cX1_decrease 7 = .ok (.aload_n 0, 1) := by decide +kernel
theorem dX1_decrease_8 : decode cX1_decrease 8 = .ok (.getfield 9, 3) := by decide +kernel
theorem dX1_decrease_11 : decode cX1_decrease 11 = .ok (.arraylength, 1) := by decide +kernel
theorem dX1_decrease_12 : decode cX1_decrease 12 = .ok (.if_icmp .ge 56, 3) := by decide +kernel
theorem dX1_decrease_15 : decode cX1_decrease 15 = .ok (.aload_n 0, 1) := by decide +kernel
theorem dX1_decrease_16 : decode cX1_decrease 16 = .ok (.getfield 9, 3) := by decide +kernel
theorem dX1_decrease_19 : decode cX1_decrease 19 = .ok (.iload 4, 2) := by decide +kernel
theorem dX1_decrease_21 : decode cX1_decrease 21 = .ok (.iaload, 1) := by decide +kernel
theorem dX1_decrease_22 : decode cX1_decrease 22 = .ok (.i2l, 1) := by decide +kernel
theorem dX1_decrease_23 : decode cX1_decrease 23 = .ok (.aload_n 1, 1) := by decide +kernel
theorem dX1_decrease_24 : decode cX1_decrease 24 = .ok (.iload 4, 2) := by decide +kernel
theorem dX1_decrease_26 : decode cX1_decrease 26 = .ok (.invokevirtual 19, 3) := by decide +kernel
theorem dX1_decrease_29 : decode cX1_decrease 29 = .ok (.i2l, 1) := by decide +kernel
theorem dX1_decrease_30 : decode cX1_decrease 30 = .ok (.lsub, 1) := by decide +kernel
theorem dX1_decrease_31 : decode cX1_decrease 31 = .ok (.lload_n 2, 1) := by decide +kernel
theorem dX1_decrease_32 : decode cX1_decrease 32 = .ok (.lsub, 1) := by decide +kernel
theorem dX1_decrease_33 : decode cX1_decrease 33 = .ok (.lstore 5, 2) := by decide +kernel
theorem dX1_decrease_35 : decode cX1_decrease 35 = .ok (.aload_n 0, 1) := by decide +kernel
theorem dX1_decrease_36 : decode cX1_decrease 36 = .ok (.getfield 9, 3) := by decide +kernel
theorem dX1_decrease_39 : decode cX1_decrease 39 = .ok (.iload 4, 2) := by decide +kernel
theorem dX1_decrease_41 : decode cX1_decrease 41 = .ok (.lload 5, 2) := by decide +kernel
theorem dX1_decrease_43 : decode cX1_decrease 43 = .ok (.ldc2_w 26, 3) := by decide +kernel
theorem dX1_decrease_46 : decode cX1_decrease 46 = .ok (.land, 1) := by decide +kernel
theorem dX1_decrease_47 : decode cX1_decrease 47 = .ok (.l2i, 1) := by decide +kernel
theorem dX1_decrease_48 : decode cX1_decrease 48 = .ok (.iastore, 1) := by decide +kernel
theorem dX1_decrease_49 : decode cX1_decrease 49 = .ok (.lload 5, 2) := by decide +kernel
theorem dX1_decrease_51 : decode cX1_decrease 51 = .ok (.lconst 0, 1) := by decide +kernel
theorem dX1_decrease_52 : decode cX1_decrease 52 = .ok (.lcmp, 1) := by decide +kernel
theorem dX1_decrease_53 : decode cX1_decrease 53 = .ok (.ifCond .ge 7, 3) := by decide +kernel
theorem dX1_decrease_56 : decode cX1_decrease 56 = .ok (.lconst 1, 1) := by decide +kernel
theorem dX1_decrease_57 : decode cX1_decrease 57 = .ok (.goto 4, 3) := by decide +kernel
theorem dX1_decrease_60 : decode cX1_decrease 60 = .ok (.lconst 0, 1) := by decide +kernel
theorem dX1_decrease_61 : decode cX1_decrease 61 = .ok (.lstore_n 2, 1) := by decide +kernel
theorem dX1_decrease_62 : decode cX1_decrease 62 = .ok (.iinc 4 1, 3) := by decide +kernel
theorem dX1_decrease_65 : decode cX1_decrease 65 = .ok (.goto (-60), 3) := by decide +kernel
theorem dX1_decrease_68 : decode cX1_decrease 68 = .ok (.aload_n 0, 1) := by decide +kernel
theorem dX1_decrease_69 : decode cX1_decrease 69 = .ok (.invokevirtual 23, 3) := by decide +kernel
theorem dX1_decrease_72 : decode cX1_decrease 72 = .ok (.return_, 1) := by decide +kernel
theorem dX1_multiply_0 : decode cX1_multiply 0 = .ok (.lconst 0, 1) := by decide +kernel
theorem dX1_multiply_1 : decode cX1_multiply 1 = .ok (.lstore_n 2, 1) := by decide +kernel
theorem dX1_multiply_2 : decode cX1_multiply 2 = .ok (.iconst 0, 1) := by decide +kernel
theorem dX1_multiply_3 : decode cX1_multiply 3 = .ok (.istore 4, 2) := by decide +kernel
theorem dX1_multiply_5 : decode cX1_multiply 5 = .ok (.iload 4, 2) := by decide +kernel
theorem dX1_multiply_7 : decode cX1_multiply 7 = .ok (.aload_n 0, 1) := by decide +kernel
theorem dX1_multiply_8 : decode cX1_multiply 8 = .ok (.getfield 9, 3) := by decide +kernel
theorem dX1_multiply_11 : decode cX1_multiply 11 = .ok (.arraylength, 1) := by decide +kernel
theorem dX1_multiply_12 : decode cX1_multiply 12 = .ok (.if_icmp .ge 44, 3) := by decide +kernel
theorem dX1_multiply_15 : decode cX1_multiply 15 = .ok (.aload_n 0, 1) := by decide +kernel
theorem dX1_multiply_16 : decode cX1_multiply 16 = .ok (.getfield 9, 3) := by decide +kernel
theorem dX1_multiply_19 : decode cX1_multiply 19 = .ok (.iload 4, 2) := by decide +kernel
theorem dX1_multiply_21 : decode cX1_multiply 21 = .ok (.iaload, 1) := by decide +kernel
theorem dX1_multiply_22 : decode cX1_multiply 22 = .ok (.i2l, 1) := by decide +kernel
theorem dX1_multiply_23 : decode cX1_multiply 23 = .ok (.iload_n 1, 1) := by decide +kernel
theorem dX1_multiply_24 : decode cX1_multiply 24 = .ok (.i2l, 1) := by decide +kernel
theorem dX1_multiply_25 : decode cX1_multiply 25 = .ok (.lmul, 1) := by decide +kernel
theorem dX1_multiply_26 : decode cX1_multiply 26 = .ok (.lload_n 2, 1) := by decide +kernel
theorem dX1_multiply_27 : decode cX1_multiply 27 = .ok (.ladd, 1) := by decide +kernel
theorem dX1_multiply_28 : decode cX1_multiply 28 = .ok (.lstore 5, 2) := by decide +kernel
theorem dX1_multiply_30 : decode cX1_multiply 30 = .ok (.aload_n 0, 1) := by decide +kernel
theorem dX1_multiply_31 : decode cX1_multiply 31 = .ok (.getfield 9, 3) := by decide +kernel
theorem dX1_multiply_34 : decode cX1_multiply 34 = .ok (.iload 4, 2) := by decide +kernel
theorem dX1_multiply_36 : decode cX1_multiply 36 = .ok (.lload 5, 2) := by decide +kernel
theorem dX1_multiply_38 : decode cX1_multiply 38 = .ok (.ldc2_w 26, 3) := by decide +kernel
theorem dX1_multiply_41 : decode cX1_multiply 41 = .ok (.land, 1) := by decide +kernel
theorem dX1_multiply_42 : decode cX1_multiply 42 = .ok (.l2i, 1) := by decide +kernel
theorem dX1_multiply_43 : decode cX1_multiply 43 = .ok (.iastore, 1) := by decide +kernel
theorem dX1_multiply_44 : decode cX1_multiply 44 = .ok (.lload 5, 2) := by decide +kernel
theorem dX1_multiply_46 : decode cX1_multiply 46 = .ok (.bipush 31, 2) := by decide +kernel
theorem dX1_multiply_48 : decode cX1_multiply 48 = .ok (.lushr, 1) := by decide +kernel
theorem dX1_multiply_49 : decode cX1_multiply 49 = .ok (.lstore_n 2, 1) := by decide +kernel
theorem dX1_multiply_50 : decode cX1_multiply 50 = .ok (.iinc 4 1, 3) := by decide +kernel
theorem dX1_multiply_53 : decode cX1_multiply 53 = .ok (.goto (-48), 3) := by decide +kernel
theorem dX1_multiply_56 : decode cX1_multiply 56 = .ok (.aload_n 0, 1) := by decide +kernel
theorem dX1_multiply_57 : decode cX1_multiply 57 = .ok (.invokevirtual 23, 3) := by decide +kernel
theorem dX1_multiply_60 : decode cX1_multiply 60 = .ok (.return_, 1) := by decide +kernel
theorem dX1_divide_0 : decode cX1_divide 0 = .ok (.iload_n 1, 1) := by decide +kernel
theorem dX1_divide_1 : decode cX1_divide 1 = .ok (.iconst 1, 1) := by decide +kernel
theorem dX1_divide_2 : decode cX1_divide 2 = .ok (.if_icmp .ge 5, 3) := by decide +kernel
theorem dX1_divide_5 : decode cX1_divide 5 = .ok (.iconst 0, 1) := by decide +kernel
theorem dX1_divide_6 : decode cX1_divide 6 = .ok (.ireturn, 1) := by decide +kernel
theorem dX1_divide_7 : decode cX1_divide 7 = .ok (.lconst 0, 1) := by decide +kernel
theorem dX1_divide_8 : decode cX1_divide 8 = .ok (.lstore_n 2, 1) := by decide +kernel
theorem dX1_divide_9 : decode cX1_divide 9 = .ok (.aload_n 0, 1) := by decide +kernel
theorem dX1_divide_10 : decode cX1_divide 10 = .ok (.getfield 9, 3) := by decide +kernel
theorem dX1_divide_13 : decode cX1_divide 13 = .ok (.arraylength, 1) := by decide +kernel
theorem dX1_divide_14 : decode cX1_divide 14 = .ok (.iconst 1, 1) := by decide +kernel
theorem dX1_divide_15 : decode cX1_divide 15 = .ok (.isub, 1) := by decide +kernel
theorem dX1_divide_16 : decode cX1_divide 16 = .ok (.istore 4, 2) := by decide +kernel
theorem dX1_divide_18 : decode cX1_divide 18 = .ok (.iload 4, 2) := by decide +kernel
theorem dX1_divide_20 : decode cX1_divide 20 = .ok (.ifCond .lt 43, 3) := by decide +kernel
theorem dX1_divide_23 : decode cX1_divide 23 = .ok (.lload_n 2, 1) := by decide +kernel
theorem dX1_divide_24 : decode cX1_divide 24 = .ok (.bipush 31, 2) := by decide +kernel
theorem dX1_divide_26 : decode cX1_divide 26 = .ok (.lshl, 1) := by decide +kernel
theorem dX1_divide_27 : decode cX1_divide 27 = .ok (.aload_n 0, 1) := by decide +kernel
theorem dX1_divide_28 : decode cX1_divide 28 = .ok (.getfield 9, 3) := by decide +kernel
theorem dX1_divide_31 : decode cX1_divide 31 = .ok (.iload 4, 2) := by decide +kernel
theorem dX1_divide_33 : decode cX1_divide 33 = .ok (.iaload, 1) := by decide +kernel
theorem dX1_divide_34 : decode cX1_divide 34 = .ok (.i2l, 1) := by decide +kernel
theorem dX1_divide_35 : decode cX1_divide 35 = .ok (.ladd, 1) := by decide +kernel
theorem dX1_divide_36 : decode cX1_divide 36 = .ok (.lstore 5, 2) := by decide +kernel
theorem dX1_divide_38 : decode cX1_divide 38 = .ok (.aload_n 0, 1) := by decide +kernel
theorem dX1_divide_39 : decode cX1_divide 39 = .ok (.getfield 9, 3) := by decide +kernel
theorem dX1_divide_42 : decode cX1_divide 42 = .ok (.iload 4, 2) := by decide +kernel
theorem dX1_divide_44 : decode cX1_divide 44 = .ok (.lload 5, 2) := by decide +kernel
theorem dX1_divide_46 : decode cX1_divide 46 = .ok (.iload_n 1, 1) := by decide +kernel
theorem dX1_divide_47 : decode cX1_divide 47 = .ok (.i2l, 1) := by decide +kernel
theorem dX1_divide_48 : decode cX1_divide 48 = .ok (.ldiv, 1) := by decide +kernel
theorem dX1_divide_49 : decode cX1_divide 49 = .ok (.l2i, 1) := by decide +kernel
theorem dX1_divide_50 : decode cX1_divide 50 = .ok (.iastore, 1) := by decide +kernel
theorem dX1_divide_51 : decode cX1_divide 51 = .ok (.lload 5, 2) := by decide +kernel
theorem dX1_divide_53 : decode cX1_divide 53 = .ok (.iload_n 1, 1) := by decide +kernel
theorem dX1_divide_54 : decode cX1_divide 54 = .ok (.i2l, 1) := by decide +kernel
theorem dX1_divide_55 : decode cX1_divide 55 = .ok (.lrem, 1) := by decide +kernel
theorem dX1_divide_56 : decode cX1_divide 56 = .ok (.lstore_n 2, 1) := by decide +kernel
theorem dX1_divide_57 : decode cX1_divide 57 = .ok (.iinc 4 (-1), 3) := by decide +kernel
theorem dX1_divide_60 : decode cX1_divide 60 = .ok (.goto (-42), 3) := by decide +kernel
theorem dX1_divide_63 : decode cX1_divide 63 = .ok (.aload_n 0, 1) := by decide +kernel
theorem dX1_divide_64 : decode cX1_divide 64 = .ok (.invokevirtual 23, 3) := by decide +kernel
theorem dX1_divide_67 : decode cX1_divide 67 = .ok (.lload_n 2, 1) := by decide +kernel
theorem dX1_divide_68 : decode cX1_divide 68 = .ok (.l2i, 1) := by decide +kernel
theorem dX1_divide_69 : decode cX1_divide 69 = .ok (.ireturn, 1) := by decide +kernel
theorem dX1_standingTo_0 : decode cX1_standingTo 0 = .ok (.aload_n 0, 1) := by decide +kernel
theorem dX1_standingTo_1 : decode cX1_standingTo 1 = .ok (.getfield 9, 3) := by decide +kernel
theorem dX1_standingTo_4 : decode cX1_standingTo 4 = .ok (.arraylength, 1) := by decide +kernel
theorem dX1_standingTo_5 : decode cX1_standingTo 5 = .ok (.iconst 1, 1) := by decide +kernel
theorem dX1_standingTo_6 : decode cX1_standingTo 6 = .ok (.isub, 1) := by decide +kernel
theorem dX1_standingTo_7 : decode cX1_standingTo 7 = .ok (.istore_n 2, 1) := by decide +kernel
theorem dX1_standingTo_8 : decode cX1_standingTo 8 = .ok (.iload_n 2, 1) := by decide +kernel
theorem dX1_standingTo_9 : decode cX1_standingTo 9 = .ok (.ifCond .lt 30, 3) := by decide +kernel
theorem dX1_standingTo_12 : decode cX1_standingTo 12 = .ok (.aload_n 0, 1) := by decide +kernel
theorem dX1_standingTo_13 : decode cX1_standingTo 13 = .ok (.getfield 9, 3) := by decide +kernel
theorem dX1_standingTo_16 : decode cX1_standingTo 16 = .ok (.iload_n 2, 1) := by decide +kernel
theorem dX1_standingTo_17 : decode cX1_standingTo 17 = .ok (.iaload, 1) := by decide +kernel
theorem dX1_standingTo_18 : decode cX1_standingTo 18 = .ok (.aload_n 1, 1) := by decide +kernel
theorem dX1_standingTo_19 : decode cX1_standingTo 19 = .ok (.iload_n 2, 1) := by decide +kernel
theorem dX1_standingTo_20 : decode cX1_standingTo 20 = .ok (.invokevirtual 19, 3) := by decide +kernel
theorem dX1_standingTo_23 : decode cX1_standingTo 23 = .ok (.invokestatic 28, 3) := by decide +kernel
theorem dX1_standingTo_26 : decode cX1_standingTo 26 = .ok (.istore_n 3, 1) := by decide +kernel
theorem dX1_standingTo_27 : decode cX1_standingTo 27 = .ok (.iload_n 3, 1) := by decide +kernel
theorem dX1_standingTo_28 : decode cX1_standingTo 28 = .ok (.ifCond .eq 5, 3) := by decide +kernel
theorem dX1_standingTo_31 : decode cX1_standingTo 31 = .ok (.iload_n 3, 1) := by decide +kernel
theorem dX1_standingTo_32 : decode cX1_standingTo 32 = .ok (.ireturn, 1) := by decide +kernel
theorem dX1_standingTo_33 : decode cX1_standingTo 33 = .ok (.iinc 2 (-1), 3) := by decide +kernel
theorem dX1_standingTo_36 : decode cX1_standingTo 36 = .ok (.goto (-28), 3) := by decide +kernel
theorem dX1_standingTo_39 : decode cX1_standingTo 39 = .ok (.iconst 0, 1) := by decide +kernel
theorem dX1_standingTo_40 : decode cX1_standingTo 40 = .ok (.ireturn, 1) := by decide +kernel
theorem dX1_measure_0 : decode cX1_measure 0 = .ok (.aload_n 0, 1) := by decide +kernel
theorem dX1_measure_1 : decode cX1_measure 1 = .ok (.aload_n 0, 1) := by decide +kernel
theorem dX1_measure_2 : decode cX1_measure 2 = .ok (.getfield 9, 3) := by decide +kernel
theorem dX1_measure_5 : decode cX1_measure 5 = .ok (.arraylength, 1) := by decide +kernel
theorem dX1_measure_6 : decode cX1_measure 6 = .ok (.putfield 15, 3) := by decide +kernel
theorem dX1_measure_9 : decode cX1_measure 9 = .ok (.aload_n 0, 1) := by decide +kernel
theorem dX1_measure_10 : decode cX1_measure 10 = .ok (.getfield 15, 3) := by decide +kernel
theorem dX1_measure_13 : decode cX1_measure 13 = .ok (.ifCond .le 30, 3) := by decide +kernel
theorem dX1_measure_16 : decode cX1_measure 16 = .ok (.aload_n 0, 1) := by decide +kernel
theorem dX1_measure_17 : decode cX1_measure 17 = .ok (.getfield 9, 3) := by decide +kernel
theorem dX1_measure_20 : decode cX1_measure 20 = .ok (.aload_n 0, 1) := by decide +kernel
theorem dX1_measure_21 : decode cX1_measure 21 = .ok (.getfield 15, 3) := by decide +kernel
theorem dX1_measure_24 : decode cX1_measure 24 = .ok (.iconst 1, 1) := by decide +kernel
theorem dX1_measure_25 : decode cX1_measure 25 = .ok (.isub, 1) := by decide +kernel
theorem dX1_measure_26 : decode cX1_measure 26 = .ok (.iaload, 1) := by decide +kernel
theorem dX1_measure_27 : decode cX1_measure 27 = .ok (.ifCond .ne 16, 3) := by decide +kernel
theorem dX1_measure_30 : decode cX1_measure 30 = .ok (.aload_n 0, 1) := by decide +kernel
theorem dX1_measure_31 : decode cX1_measure 31 = .ok (.dup, 1) := by decide +kernel
theorem dX1_measure_32 : decode cX1_measure 32 = .ok (.getfield 15, 3) := by decide +kernel
theorem dX1_measure_35 : decode cX1_measure 35 = .ok (.iconst 1, 1) := by decide +kernel
theorem dX1_measure_36 : decode cX1_measure 36 = .ok (.isub, 1) := by decide +kernel
theorem dX1_measure_37 : decode cX1_measure 37 = .ok (.putfield 15, 3) := by decide +kernel
theorem dX1_measure_40 : decode cX1_measure 40 = .ok (.goto (-31), 3) := by decide +kernel
theorem dX1_measure_43 : decode cX1_measure 43 = .ok (.return_, 1) := by decide +kernel
theorem dX2_init_0 : decode cX2_init 0 = .ok (.aload_n 0, 1) := by decide +kernel
theorem dX2_init_1 : decode cX2_init 1 = .ok (.invokespecial 1, 3) := by decide +kernel
theorem dX2_init_4 : decode cX2_init 4 = .ok (.aload_n 0, 1) := by decide +kernel
theorem dX2_init_5 : decode cX2_init 5 = .ok (.iload_n 1, 1) := by decide +kernel
theorem dX2_init_6 : decode cX2_init 6 = .ok (.bipush 24, 2) := by decide +kernel
theorem dX2_init_8 : decode cX2_init 8 = .ok (.invokestatic 9, 3) := by decide +kernel
theorem dX2_init_11 : decode cX2_init 11 = .ok (.putfield 13, 3) := by decide +kernel
theorem dX2_init_14 : decode cX2_init 14 = .ok (.aload_n 0, 1) := by decide +kernel
theorem dX2_init_15 : decode cX2_init 15 = .ok (.iload_n 2, 1) := by decide +kernel
theorem dX2_init_16 : decode cX2_init 16 = .ok (.bipush 20, 2) := by decide +kernel
theorem dX2_init_18 : decode cX2_init 18 = .ok (.invokestatic 9, 3) := by decide +kernel
theorem dX2_init_21 : decode cX2_init 21 = .ok (.putfield 17, 3) := by decide +kernel
theorem dX2_init_24 : decode cX2_init 24 = .ok (.aload_n 0, 1) := by decide +kernel
theorem dX2_init_25 : decode cX2_init 25 = .ok (.iload_n 3, 1) := by decide +kernel
theorem dX2_init_26 : decode cX2_init 26 = .ok (.bipush 25, 2) := by decide +kernel
theorem dX2_init_28 : decode cX2_init 28 = .ok (.invokestatic 9, 3) := by decide +kernel
theorem dX2_init_31 : decode cX2_init 31 = .ok (.putfield 20, 3) := by decide +kernel
theorem dX2_init_34 : decode cX2_init 34 = .ok (.aload_n 0, 1) := by decide +kernel
theorem dX2_init_35 : decode cX2_init 35 = .ok (.getfield 13, 3) := by decide +kernel
theorem dX2_init_38 : decode cX2_init 38 = .ok (.iconst 1, 1) := by decide +kernel
theorem dX2_init_39 : decode cX2_init 39 = .ok (.iadd, 1) := by decide +kernel
theorem dX2_init_40 : decode cX2_init 40 = .ok (.istore 4, 2) := by decide +kernel
theorem dX2_init_42 : decode cX2_init 42 = .ok (.aload_n 0, 1) := by decide +kernel
theorem dX2_init_43 : decode cX2_init 43 = .ok (.getfield 17, 3) := by decide +kernel
theorem dX2_init_46 : decode cX2_init 46 = .ok (.iconst 1, 1) := by decide +kernel
theorem dX2_init_47 : decode cX2_init 47 = .ok (.iadd, 1) := by decide +kernel
theorem dX2_init_48 : decode cX2_init 48 = .ok (.istore 5, 2) := by decide +kernel
theorem dX2_init_50 : decode cX2_init 50 = .ok (.aload_n 0, 1) := by decide +kernel
theorem dX2_init_51 : decode cX2_init 51 = .ok (.new 23, 3) := by decide +kernel
theorem dX2_init_54 : decode cX2_init 54 = .ok (.dup, 1) := by decide +kernel
theorem dX2_init_55 : decode cX2_init 55 = .ok (.iload 4, 2) := by decide +kernel
theorem dX2_init_57 : decode cX2_init 57 = .ok (.iload 5, 2) := by decide +kernel
theorem dX2_init_59 : decode cX2_init 59 = .ok (.invokespecial 25, 3) := by decide +kernel
theorem dX2_init_62 : decode cX2_init 62 = .ok (.putfield 28, 3) := by decide +kernel
theorem dX2_init_65 : decode cX2_init 65 = .ok (.aload_n 0, 1) := by decide +kernel
theorem dX2_init_66 : decode cX2_init 66 = .ok (.iload 4, 2) := by decide +kernel
theorem dX2_init_68 : decode cX2_init 68 = .ok (.iload 5, 2) := by decide +kernel
theorem dX2_init_70 : decode cX2_init 70 = .ok (.invokestatic 32, 3) := by decide +kernel
theorem dX2_init_73 : decode cX2_init 73 = .ok (.putfield 36, 3) := by decide +kernel
theorem dX2_init_76 : decode cX2_init 76 = .ok (.aload_n 0, 1) := by decide +kernel
theorem dX2_init_77 : decode cX2_init 77 = .ok (.new 40, 3) := by decide +kernel
theorem dX2_init_80 : decode cX2_init 80 = .ok (.dup, 1) := by decide +kernel
theorem dX2_init_81 : decode cX2_init 81 = .ok (.iload 5, 2) := by decide +kernel
theorem dX2_init_83 : decode cX2_init 83 = .ok (.invokespecial 42, 3) := by decide +kernel
theorem dX2_init_86 : decode cX2_init 86 = .ok (.putfield 45, 3) := by decide +kernel
theorem dX2_init_89 : decode cX2_init 89 = .ok (.aload_n 0, 1) := by decide +kernel
theorem dX2_init_90 : decode cX2_init 90 = .ok (.new 40, 3) := by decide +kernel
theorem dX2_init_93 : decode cX2_init 93 = .ok (.dup, 1) := by decide +kernel
theorem dX2_init_94 : decode cX2_init 94 = .ok (.iload 5, 2) := by decide +kernel
theorem dX2_init_96 : decode cX2_init 96 = .ok (.invokespecial 42, 3) := by decide +kernel
theorem dX2_init_99 : decode cX2_init 99 = .ok (.putfield 49, 3) := by decide +kernel
theorem dX2_init_102 : decode cX2_init 102 = .ok (.aload_n 0, 1) := by decide +kernel
theorem dX2_init_103 : decode cX2_init 103 = .ok (.aload_n 0, 1) := by decide +kernel
theorem dX2_init_104 : decode cX2_init 104 = .ok (.getfield 17, 3) := by decide +kernel
theorem dX2_init_107 : decode cX2_init 107 = .ok (.bipush 10, 2) := by decide +kernel
theorem dX2_init_109 : decode cX2_init 109 = .ok (.imul, 1) := by decide +kernel
theorem dX2_init_110 : decode cX2_init 110 = .ok (.newarray .byte, 2) := by decide +kernel
theorem dX2_init_112 : decode cX2_init 112 = .ok (.putfield 52, 3) := by decide +kernel
theorem dX2_init_115 : decode cX2_init 115 = .ok (.return_, 1) := by decide +kernel
theorem dX2_within_0 : decode cX2_within 0 = .ok (.iconst 1, 1) := by decide +kernel
theorem dX2_within_1 : decode cX2_within 1 = .ok (.iload_n 0, 1) := by decide +kernel
theorem dX2_within_2 : decode cX2_within 2 = .ok (.iload_n 1, 1) := by decide +kernel
theorem dX2_within_3 : decode cX2_within 3 = .ok (.invokestatic 56, 3) := by decide +kernel
theorem dX2_within_6 : decode cX2_within 6 = .ok (.invokestatic 61, 3) := by decide +kernel
theorem dX2_within_9 : decode cX2_within 9 = .ok (.ireturn, 1) := by decide +kernel
theorem dX2_naturals_0 : decode cX2_naturals 0 = .ok (.iload_n 0, 1) := by decide +kernel
theorem dX2_naturals_1 : decode cX2_naturals 1 = .ok (.anewarray 40, 3) := by decide +kernel
theorem dX2_naturals_4 : decode cX2_naturals 4 = .ok (.astore_n 2, 1) := by decide +kernel
theorem dX2_naturals_5 : decode cX2_naturals 5 = .ok (.iconst 0, 1) := by decide +kernel
theorem dX2_naturals_6 : decode cX2_naturals 6 = .ok (.istore_n 3, 1) := by decide +kernel
theorem dX2_naturals_7 : decode cX2_naturals 7 = .ok (.iload_n 3, 1) := by decide +kernel
theorem dX2_naturals_8 : decode cX2_naturals 8 = .ok (.aload_n 2, 1) := by decide +kernel
theorem dX2_naturals_9 : decode cX2_naturals 9 = .ok (.arraylength, 1) := by decide +kernel
theorem dX2_naturals_10 : decode cX2_naturals 10 = .ok (.if_icmp .ge 20, 3) := by decide +kernel
theorem dX2_naturals_13 : decode cX2_naturals 13 = .ok (.aload_n 2, 1) := by decide +kernel
theorem dX2_naturals_14 : decode cX2_naturals 14 = .ok (.iload_n 3, 1) := by decide +kernel
theorem dX2_naturals_15 : decode cX2_naturals 15 = .ok (.new 40, 3) := by decide +kernel
theorem dX2_naturals_18 : decode cX2_naturals 18 = .ok (.dup, 1) := by decide +kernel
theorem dX2_naturals_19 : decode cX2_naturals 19 = .ok (.iload_n 1, 1) := by decide +kernel
theorem dX2_naturals_20 : decode cX2_naturals 20 = .ok (.invokespecial 42, 3) := by decide +kernel
theorem dX2_naturals_23 : decode cX2_naturals 23 = .ok (.aastore, 1) := by decide +kernel
theorem dX2_naturals_24 : decode cX2_naturals 24 = .ok (.iinc 3 1, 3) := by decide +kernel
theorem dX2_naturals_27 : decode cX2_naturals 27 = .ok (.goto (-20), 3) := by decide +kernel
theorem dX2_naturals_30 : decode cX2_naturals 30 = .ok (.aload_n 2, 1) := by decide +kernel
theorem dX2_naturals_31 : decode cX2_naturals 31 = .ok (.areturn, 1) := by decide +kernel
theorem dX2_format_0 : decode cX2_format 0 = .ok (.aload_n 0, 1) := by decide +kernel
theorem dX2_format_1 : decode cX2_format 1 = .ok (.invokevirtual 64, 3) := by decide +kernel
theorem dX2_format_4 : decode cX2_format 4 = .ok (.aload_n 0, 1) := by decide +kernel
theorem dX2_format_5 : decode cX2_format 5 = .ok (.aload_n 0, 1) := by decide +kernel
theorem dX2_format_6 : decode cX2_format 6 = .ok (.getfield 28, 3) := by decide +kernel
theorem dX2_format_9 : decode cX2_format 9 = .ok (.invokevirtual 67, 3) := by decide +kernel
theorem dX2_format_12 : decode cX2_format 12 = .ok (.putfield 71, 3) := by decide +kernel
theorem dX2_format_15 : decode cX2_format 15 = .ok (.aload_n 0, 1) := by decide +kernel
theorem dX2_format_16 : decode cX2_format 16 = .ok (.getfield 71, 3) := by decide +kernel
theorem dX2_format_19 : decode cX2_format 19 = .ok (.ireturn, 1) := by decide +kernel
theorem dX2_amountLimb_0 : decode cX2_amountLimb 0 = .ok (.aload_n 0, 1) := by decide +kernel
theorem dX2_amountLimb_1 : decode cX2_amountLimb 1 = .ok (.getfield 71, 3) := by decide +kernel
theorem dX2_amountLimb_4 : decode cX2_amountLimb 4 = .ok (.ifCond .eq 21, 3) := by decide +kernel
theorem dX2_amountLimb_7 : decode cX2_amountLimb 7 = .ok (.iload_n 1, 1) := by decide +kernel
theorem dX2_amountLimb_8 : decode cX2_amountLimb 8 = .ok (.ifCond .lt 17, 3) := by decide +kernel
theorem dX2_amountLimb_11 : decode cX2_amountLimb 11 = .ok (.aload_n 0, 1) := by decide +kernel
theorem dX2_amountLimb_12 : decode cX2_amountLimb 12 = .ok (.getfield 45, 3) := by decide +kernel
theorem dX2_amountLimb_15 : decode cX2_amountLimb 15 = .ok (.getfield 75, 3) := by decide +kernel
theorem dX2_amountLimb_18 : decode cX2_amountLimb 18 = .ok (.aload_n 0, 1) := by decide +kernel
theorem dX2_amountLimb_19 : decode cX2_amountLimb 19 = .ok (.getfield 17, 3) := by decide +kernel
theorem dX2_amountLimb_22 : decode cX2_amountLimb 22 = .ok (.if_icmp .lt 5, 3) := by decide +kernel
theorem dX2_amountLimb_25 : decode cX2_amountLimb 25 = .ok (.iconst 0, 1) := by decide +kernel
theorem dX2_amountLimb_26 : decode cX2_amountLimb 26 = .ok (.ireturn, 1) := by decide +kernel
theorem dX2_amountLimb_27 : decode cX2_amountLimb 27 = .ok (.aload_n 0, 1) := by decide +kernel
theorem dX2_amountLimb_28 : decode cX2_amountLimb 28 = .ok (.getfield 45, 3) := by decide +kernel
theorem dX2_amountLimb_31 : decode cX2_amountLimb 31 = .ok (.iload_n 1, 1) := by decide +kernel
theorem dX2_amountLimb_32 : decode cX2_amountLimb 32 = .ok (.invokevirtual 78, 3) := by decide +kernel
theorem dX2_amountLimb_35 : decode cX2_amountLimb 35 = .ok (.iconst 1, 1) := by decide +kernel
theorem dX2_amountLimb_36 : decode cX2_amountLimb 36 = .ok (.ireturn, 1) := by decide +kernel
theorem dX2_clearAmount_0 : decode cX2_clearAmount 0 = .ok (.aload_n 0, 1) := by decide +kernel
theorem dX2_clearAmount_1 : decode cX2_clearAmount 1 = .ok (.getfield 71, 3) := by decide +kernel
theorem dX2_clearAmount_4 : decode cX2_clearAmount 4 = .ok (.ifCond .ne 5, 3) := by decide +kernel
theorem dX2_clearAmount_7 : decode cX2_clearAmount 7 = .ok (.iconst 0, 1) := by decide +kernel
theorem dX2_clearAmount_8 : decode cX2_clearAmount 8 = .ok (.ireturn, 1) := by decide +kernel
theorem dX2_clearAmount_9 : decode cX2_clearAmount 9 = .ok (.aload_n 0, 1) := by decide +kernel
theorem dX2_clearAmount_10 : decode cX2_clearAmount 10 = .ok (.getfield 45, 3) := by decide +kernel
theorem dX2_clearAmount_13 : decode cX2_clearAmount 13 = .ok (.invokevirtual 81, 3) := by decide +kernel
theorem dX2_clearAmount_16 : decode cX2_clearAmount 16 = .ok (.iconst 1, 1) := by decide +kernel
theorem dX2_clearAmount_17 : decode cX2_clearAmount 17 = .ok (.ireturn, 1) := by decide +kernel
theorem dX2_deposit_0 : decode cX2_deposit 0 = .ok (.aload_n 0, 1) := by decide +kernel
theorem dX2_deposit_1 : decode cX2_deposit 1 = .ok (.getfield 71, 3) := by decide +kernel
theorem dX2_deposit_4 : decode cX2_deposit 4 = .ok (.ifCond .ne 6, 3) := by decide +kernel
theorem dX2_deposit_7 : decode cX2_deposit 7 = .ok (.bipush 6, 2) := by decide +kernel
theorem dX2_deposit_9 : decode cX2_deposit 9 = .ok (.ireturn, 1) := by decide +kernel
theorem dX2_deposit_10 : decode cX2_deposit 10 = .ok (.aload_n 0, 1) := by decide +kernel
theorem dX2_deposit_11 : decode cX2_deposit 11 = .ok (.iload_n 1, 1) := by decide +kernel
theorem dX2_deposit_12 : decode cX2_deposit 12 = .ok (.invokevirtual 84, 3) := by decide +kernel
theorem dX2_deposit_15 : decode cX2_deposit 15 = .ok (.ifCond .ne 5, 3) := by decide +kernel
theorem dX2_deposit_18 : decode cX2_deposit 18 = .ok (.iconst 1, 1) := by decide +kernel
theorem dX2_deposit_19 : decode cX2_deposit 19 = .ok (.ireturn, 1) := by decide +kernel
theorem dX2_deposit_20 : decode cX2_deposit 20 = .ok (.aload_n 0, 1) := by decide +kernel
theorem dX2_deposit_21 : decode cX2_deposit 21 = .ok (.iload_n 1, 1) := by decide +kernel
theorem dX2_deposit_22 : decode cX2_deposit 22 = .ok (.invokevirtual 88, 3) := by decide +kernel
theorem dX2_deposit_25 : decode cX2_deposit 25 = .ok (.ifCond .eq 5, 3) := by decide +kernel
theorem dX2_deposit_28 : decode cX2_deposit 28 = .ok (.iconst 3, 1) := by decide +kernel
theorem dX2_deposit_29 : decode cX2_deposit 29 = .ok (.ireturn, 1) := by decide +kernel
theorem dX2_deposit_30 : decode cX2_deposit 30 = .ok (.aload_n 0, 1) := by decide +kernel
theorem dX2_deposit_31 : decode cX2_deposit 31 = .ok (.iload_n 1, 1) := by decide +kernel
theorem dX2_deposit_32 : decode cX2_deposit 32 = .ok (.aload_n 0, 1) := by decide +kernel
theorem dX2_deposit_33 : decode cX2_deposit 33 = .ok (.invokevirtual 91, 3) := by decide +kernel
theorem dX2_deposit_36 : decode cX2_deposit 36 = .ok (.invokevirtual 95, 3) := by decide +kernel
theorem dX2_deposit_39 : decode cX2_deposit 39 = .ok (.ifCond .ne 5, 3) := by decide +kernel
theorem dX2_deposit_42 : decode cX2_deposit 42 = .ok (.iconst 4, 1) := by decide +kernel
theorem dX2_deposit_43 : decode cX2_deposit 43 = .ok (.ireturn, 1) := by decide +kernel
theorem dX2_deposit_44 : decode cX2_deposit 44 = .ok (.aload_n 0, 1) := by decide +kernel
theorem dX2_deposit_45 : decode cX2_deposit 45 = .ok (.iload_n 1, 1) := by decide +kernel
theorem dX2_deposit_46 : decode cX2_deposit 46 = .ok (.invokevirtual 99, 3) := by decide +kernel
theorem dX2_deposit_49 : decode cX2_deposit 49 = .ok (.aload_n 0, 1) := by decide +kernel
theorem dX2_deposit_50 : decode cX2_deposit 50 = .ok (.getfield 45, 3) := by decide +kernel
theorem dX2_deposit_53 : decode cX2_deposit 53 = .ok (.invokevirtual 103, 3) := by decide +kernel
theorem dX2_deposit_56 : decode cX2_deposit 56 = .ok (.aload_n 0, 1) := by decide +kernel
theorem dX2_deposit_57 : decode cX2_deposit 57 = .ok (.aload_n 0, 1) := by decide +kernel
theorem dX2_deposit_58 : decode cX2_deposit 58 = .ok (.invokevirtual 91, 3) := by decide +kernel
theorem dX2_deposit_61 : decode cX2_deposit 61 = .ok (.invokevirtual 99, 3) := by decide +kernel
theorem dX2_deposit_64 : decode cX2_deposit 64 = .ok (.aload_n 0, 1) := by decide +kernel
theorem dX2_deposit_65 : decode cX2_deposit 65 = .ok (.getfield 45, 3) := by decide +kernel
theorem dX2_deposit_68 : decode cX2_deposit 68 = .ok (.invokevirtual 103, 3) := by decide +kernel
theorem dX2_deposit_71 : decode cX2_deposit 71 = .ok (.iconst 0, 1) := by decide +kernel
theorem dX2_deposit_72 : decode cX2_deposit 72 = .ok (.ireturn, 1) := by decide +kernel
theorem dX2_withdraw_0 : decode cX2_withdraw 0 = .ok (.aload_n 0, 1) := by decide +kernel
theorem dX2_withdraw_1 : decode cX2_withdraw 1 = .ok (.getfield 71, 3) := by decide +kernel
theorem dX2_withdraw_4 : decode cX2_withdraw 4 = .ok (.ifCond .ne 6, 3) := by decide +kernel
theorem dX2_withdraw_7 : decode cX2_withdraw 7 = .ok (.bipush 6, 2) := by decide +kernel
theorem dX2_withdraw_9 : decode cX2_withdraw 9 = .ok (.ireturn, 1) := by decide +kernel
theorem dX2_withdraw_10 : decode cX2_withdraw 10 = .ok (.aload_n 0, 1) := by decide +kernel
theorem dX2_withdraw_11 : decode cX2_withdraw 11 = .ok (.iload_n 1, 1) := by decide +kernel
theorem dX2_withdraw_12 : decode cX2_withdraw 12 = .ok (.invokevirtual 84, 3) := by decide +kernel
theorem dX2_withdraw_15 : decode cX2_withdraw 15 = .ok (.ifCond .ne 5, 3) := by decide +kernel
theorem dX2_withdraw_18 : decode cX2_withdraw 18 = .ok (.iconst 1, 1) := by decide +kernel
theorem dX2_withdraw_19 : decode cX2_withdraw 19 = .ok (.ireturn, 1) := by decide +kernel
theorem dX2_withdraw_20 : decode cX2_withdraw 20 = .ok (.aload_n 0, 1) := by decide +kernel
theorem dX2_withdraw_21 : decode cX2_withdraw 21 = .ok (.iload_n 1, 1) := by decide +kernel
theorem dX2_withdraw_22 : decode cX2_withdraw 22 = .ok (.invokevirtual 107, 3) := by decide +kernel
theorem dX2_withdraw_25 : decode cX2_withdraw 25 = .ok (.ifCond .eq 5, 3) := by decide +kernel
theorem dX2_withdraw_28 : decode cX2_withdraw 28 = .ok (.iconst 2, 1) := by decide +kernel
theorem dX2_withdraw_29 : decode cX2_withdraw 29 = .ok (.ireturn, 1) := by decide +kernel
theorem dX2_withdraw_30 : decode cX2_withdraw 30 = .ok (.aload_n 0, 1) := by decide +kernel
theorem dX2_withdraw_31 : decode cX2_withdraw 31 = .ok (.iload_n 1, 1) := by decide +kernel
theorem dX2_withdraw_32 : decode cX2_withdraw 32 = .ok (.aload_n 0, 1) := by decide +kernel
theorem dX2_withdraw_33 : decode cX2_withdraw 33 = .ok (.invokevirtual 91, 3) := by decide +kernel
theorem dX2_withdraw_36 : decode cX2_withdraw 36 = .ok (.invokevirtual 95, 3) := by decide +kernel
theorem dX2_withdraw_39 : decode cX2_withdraw 39 = .ok (.ifCond .ne 5, 3) := by decide +kernel
theorem dX2_withdraw_42 : decode cX2_withdraw 42 = .ok (.iconst 4, 1) := by decide +kernel
theorem dX2_withdraw_43 : decode cX2_withdraw 43 = .ok (.ireturn, 1) := by decide +kernel
theorem dX2_withdraw_44 : decode cX2_withdraw 44 = .ok (.aload_n 0, 1) := by decide +kernel
theorem dX2_withdraw_45 : decode cX2_withdraw 45 = .ok (.iload_n 1, 1) := by decide +kernel
theorem dX2_withdraw_46 : decode cX2_withdraw 46 = .ok (.invokevirtual 99, 3) := by decide +kernel
theorem dX2_withdraw_49 : decode cX2_withdraw 49 = .ok (.aload_n 0, 1) := by decide +kernel
theorem dX2_withdraw_50 : decode cX2_withdraw 50 = .ok (.getfield 45, 3) := by decide +kernel
theorem dX2_withdraw_53 : decode cX2_withdraw 53 = .ok (.invokevirtual 110, 3) := by decide +kernel
theorem dX2_withdraw_56 : decode cX2_withdraw 56 = .ok (.aload_n 0, 1) := by decide +kernel
theorem dX2_withdraw_57 : decode cX2_withdraw 57 = .ok (.aload_n 0, 1) := by decide +kernel
theorem dX2_withdraw_58 : decode cX2_withdraw 58 = .ok (.invokevirtual 91, 3) := by decide +kernel
theorem dX2_withdraw_61 : decode cX2_withdraw 61 = .ok (.invokevirtual 99, 3) := by decide +kernel
theorem dX2_withdraw_64 : decode cX2_withdraw 64 = .ok (.aload_n 0, 1) := by decide +kernel
theorem dX2_withdraw_65 : decode cX2_withdraw 65 = .ok (.getfield 45, 3) := by decide +kernel
theorem dX2_withdraw_68 : decode cX2_withdraw 68 = .ok (.invokevirtual 110, 3) := by decide +kernel
theorem dX2_withdraw_71 : decode cX2_withdraw 71 = .ok (.iconst 0, 1) := by decide +kernel
theorem dX2_withdraw_72 : decode cX2_withdraw 72 = .ok (.ireturn, 1) := by decide +kernel
theorem dX2_transfer_0 : decode cX2_transfer 0 = .ok (.aload_n 0, 1) := by decide +kernel
theorem dX2_transfer_1 : decode cX2_transfer 1 = .ok (.getfield 71, 3) := by decide +kernel
theorem dX2_transfer_4 : decode cX2_transfer 4 = .ok (.ifCond .ne 6, 3) := by decide +kernel
theorem dX2_transfer_7 : decode cX2_transfer 7 = .ok (.bipush 6, 2) := by decide +kernel
theorem dX2_transfer_9 : decode cX2_transfer 9 = .ok (.ireturn, 1) := by decide +kernel
theorem dX2_transfer_10 : decode cX2_transfer 10 = .ok (.aload_n 0, 1) := by decide +kernel
theorem dX2_transfer_11 : decode cX2_transfer 11 = .ok (.iload_n 1, 1) := by decide +kernel
theorem dX2_transfer_12 : decode cX2_transfer 12 = .ok (.invokevirtual 84, 3) := by decide +kernel
theorem dX2_transfer_15 : decode cX2_transfer 15 = .ok (.ifCond .eq 11, 3) := by decide +kernel
theorem dX2_transfer_18 : decode cX2_transfer 18 = .ok (.aload_n 0, 1) := by decide +kernel
theorem dX2_transfer_19 : decode cX2_transfer 19 = .ok (.iload_n 2, 1) := by decide +kernel
theorem dX2_transfer_20 : decode cX2_transfer 20 = .ok (.invokevirtual 84, 3) := by decide +kernel
theorem dX2_transfer_23 : decode cX2_transfer 23 = .ok (.ifCond .ne 5, 3) := by decide +kernel
theorem dX2_transfer_26 : decode cX2_transfer 26 = .ok (.iconst 1, 1) := by decide +kernel
theorem dX2_transfer_27 : decode cX2_transfer 27 = .ok (.ireturn, 1) := by decide +kernel
theorem dX2_transfer_28 : decode cX2_transfer 28 = .ok (.aload_n 0, 1) := by decide +kernel
theorem dX2_transfer_29 : decode cX2_transfer 29 = .ok (.iload_n 1, 1) := by decide +kernel
theorem dX2_transfer_30 : decode cX2_transfer 30 = .ok (.invokevirtual 107, 3) := by decide +kernel
theorem dX2_transfer_33 : decode cX2_transfer 33 = .ok (.ifCond .eq 5, 3) := by decide +kernel
theorem dX2_transfer_36 : decode cX2_transfer 36 = .ok (.iconst 2, 1) := by decide +kernel
theorem dX2_transfer_37 : decode cX2_transfer 37 = .ok (.ireturn, 1) := by decide +kernel
theorem dX2_transfer_38 : decode cX2_transfer 38 = .ok (.iload_n 1, 1) := by decide +kernel
theorem dX2_transfer_39 : decode cX2_transfer 39 = .ok (.iload_n 2, 1) := by decide +kernel
theorem dX2_transfer_40 : decode cX2_transfer 40 = .ok (.if_icmp .eq 13, 3) := by decide +kernel
theorem dX2_transfer_43 : decode cX2_transfer 43 = .ok (.aload_n 0, 1) := by decide +kernel
theorem dX2_transfer_44 : decode cX2_transfer 44 = .ok (.iload_n 2, 1) := by decide +kernel
theorem dX2_transfer_45 : decode cX2_transfer 45 = .ok (.invokevirtual 88, 3) := by decide +kernel
theorem dX2_transfer_48 : decode cX2_transfer 48 = .ok (.ifCond .eq 5, 3) := by decide +kernel
theorem dX2_transfer_51 : decode cX2_transfer 51 = .ok (.iconst 3, 1) := by decide +kernel
theorem dX2_transfer_52 : decode cX2_transfer 52 = .ok (.ireturn, 1) := by decide +kernel
theorem dX2_transfer_53 : decode cX2_transfer 53 = .ok (.aload_n 0, 1) := by decide +kernel
theorem dX2_transfer_54 : decode cX2_transfer 54 = .ok (.iload_n 1, 1) := by decide +kernel
theorem dX2_transfer_55 : decode cX2_transfer 55 = .ok (.iload_n 2, 1) := by decide +kernel
theorem dX2_transfer_56 : decode cX2_transfer 56 = .ok (.invokevirtual 95, 3) := by decide +kernel
theorem dX2_transfer_59 : decode cX2_transfer 59 = .ok (.ifCond .ne 5, 3) := by decide +kernel
theorem dX2_transfer_62 : decode cX2_transfer 62 = .ok (.iconst 4, 1) := by decide +kernel
theorem dX2_transfer_63 : decode cX2_transfer 63 = .ok (.ireturn, 1) := by decide +kernel
theorem dX2_transfer_64 : decode cX2_transfer 64 = .ok (.aload_n 0, 1) := by decide +kernel
theorem dX2_transfer_65 : decode cX2_transfer 65 = .ok (.iload_n 1, 1) := by decide +kernel
theorem dX2_transfer_66 : decode cX2_transfer 66 = .ok (.invokevirtual 99, 3) := by decide +kernel
theorem dX2_transfer_69 : decode cX2_transfer 69 = .ok (.aload_n 0, 1) := by decide +kernel
theorem dX2_transfer_70 : decode cX2_transfer 70 = .ok (.getfield 45, 3) := by decide +kernel
theorem dX2_transfer_73 : decode cX2_transfer 73 = .ok (.invokevirtual 110, 3) := by decide +kernel
theorem dX2_transfer_76 : decode cX2_transfer 76 = .ok (.aload_n 0, 1) := by decide +kernel
theorem dX2_transfer_77 : decode cX2_transfer 77 = .ok (.iload_n 2, 1) := by decide +kernel
theorem dX2_transfer_78 : decode cX2_transfer 78 = .ok (.invokevirtual 99, 3) := by decide +kernel
theorem dX2_transfer_81 : decode cX2_transfer 81 = .ok (.aload_n 0, 1) := by decide +kernel
theorem dX2_transfer_82 : decode cX2_transfer 82 = .ok (.getfield 45, 3) := by decide +kernel
theorem dX2_transfer_85 : decode cX2_transfer 85 = .ok (.invokevirtual 103, 3) := by decide +kernel
theorem dX2_transfer_88 : decode cX2_transfer 88 = .ok (.iconst 0, 1) := by decide +kernel
theorem dX2_transfer_89 : decode cX2_transfer 89 = .ok (.ireturn, 1) := by decide +kernel
theorem dX2_part_0 : decode cX2_part 0 = .ok (.aload_n 0, 1) := by decide +kernel
theorem dX2_part_1 : decode cX2_part 1 = .ok (.getfield 71, 3) := by decide +kernel
theorem dX2_part_4 : decode cX2_part 4 = .ok (.ifCond .ne 6, 3) := by decide +kernel
theorem dX2_part_7 : decode cX2_part 7 = .ok (.bipush 6, 2) := by decide +kernel
theorem dX2_part_9 : decode cX2_part 9 = .ok (.ireturn, 1) := by decide +kernel
theorem dX2_part_10 : decode cX2_part 10 = .ok (.aload_n 0, 1) := by decide +kernel
theorem dX2_part_11 : decode cX2_part 11 = .ok (.iload_n 1, 1) := by decide +kernel
theorem dX2_part_12 : decode cX2_part 12 = .ok (.invokevirtual 84, 3) := by decide +kernel
theorem dX2_part_15 : decode cX2_part 15 = .ok (.ifCond .ne 5, 3) := by decide +kernel
theorem dX2_part_18 : decode cX2_part 18 = .ok (.iconst 1, 1) := by decide +kernel
theorem dX2_part_19 : decode cX2_part 19 = .ok (.ireturn, 1) := by decide +kernel
theorem dX2_part_20 : decode cX2_part 20 = .ok (.iload_n 2, 1) := by decide +kernel
theorem dX2_part_21 : decode cX2_part 21 = .ok (.ifCond .lt 13, 3) := by decide +kernel
theorem dX2_part_24 : decode cX2_part 24 = .ok (.iload_n 2, 1) := by decide +kernel
theorem dX2_part_25 : decode cX2_part 25 = .ok (.iload_n 3, 1) := by decide +kernel
theorem dX2_part_26 : decode cX2_part 26 = .ok (.if_icmp .gt 8, 3) := by decide +kernel
theorem dX2_part_29 : decode cX2_part 29 = .ok (.iload_n 3, 1) := by decide +kernel
theorem dX2_part_30 : decode cX2_part 30 = .ok (.iconst 1, 1) := by decide +kernel
theorem dX2_part_31 : decode cX2_part 31 = .ok (.if_icmp .ge 5, 3) := by decide +kernel
theorem dX2_part_34 : decode cX2_part 34 = .ok (.iconst 5, 1) := by decide +kernel
theorem dX2_part_35 : decode cX2_part 35 = .ok (.ireturn, 1) := by decide +kernel
theorem dX2_part_36 : decode cX2_part 36 = .ok (.aload_n 0, 1) := by decide +kernel
theorem dX2_part_37 : decode cX2_part 37 = .ok (.getfield 45, 3) := by decide +kernel
theorem dX2_part_40 : decode cX2_part 40 = .ok (.aload_n 0, 1) := by decide +kernel
theorem dX2_part_41 : decode cX2_part 41 = .ok (.iload_n 1, 1) := by decide +kernel
theorem dX2_part_42 : decode cX2_part 42 = .ok (.invokevirtual 113, 3) := by decide +kernel
theorem dX2_part_45 : decode cX2_part 45 = .ok (.invokevirtual 116, 3) := by decide +kernel
theorem dX2_part_48 : decode cX2_part 48 = .ok (.aload_n 0, 1) := by decide +kernel
theorem dX2_part_49 : decode cX2_part 49 = .ok (.getfield 45, 3) := by decide +kernel
theorem dX2_part_52 : decode cX2_part 52 = .ok (.iload_n 2, 1) := by decide +kernel
theorem dX2_part_53 : decode cX2_part 53 = .ok (.invokevirtual 119, 3) := by decide +kernel
theorem dX2_part_56 : decode cX2_part 56 = .ok (.aload_n 0, 1) := by decide +kernel
theorem dX2_part_57 : decode cX2_part 57 = .ok (.getfield 45, 3) := by decide +kernel
theorem dX2_part_60 : decode cX2_part 60 = .ok (.iload_n 3, 1) := by decide +kernel
theorem dX2_part_61 : decode cX2_part 61 = .ok (.invokevirtual 122, 3) := by decide +kernel
theorem dX2_part_64 : decode cX2_part 64 = .ok (.pop, 1) := by decide +kernel
theorem dX2_part_65 : decode cX2_part 65 = .ok (.iconst 0, 1) := by decide +kernel
theorem dX2_part_66 : decode cX2_part 66 = .ok (.ireturn, 1) := by decide +kernel
theorem dX2_commit_0 : decode cX2_commit 0 = .ok (.aload_n 0, 1) := by decide +kernel
theorem dX2_commit_1 : decode cX2_commit 1 = .ok (.getfield 71, 3) := by decide +kernel
theorem dX2_commit_4 : decode cX2_commit 4 = .ok (.ifCond .ne 6, 3) := by decide +kernel
theorem dX2_commit_7 : decode cX2_commit 7 = .ok (.bipush 6, 2) := by decide +kernel
theorem dX2_commit_9 : decode cX2_commit 9 = .ok (.ireturn, 1) := by decide +kernel
theorem dX2_commit_10 : decode cX2_commit 10 = .ok (.aload_n 0, 1) := by decide +kernel
theorem dX2_commit_11 : decode cX2_commit 11 = .ok (.getfield 28, 3) := by decide +kernel
theorem dX2_commit_14 : decode cX2_commit 14 = .ok (.aload_n 0, 1) := by decide +kernel
theorem dX2_commit_15 : decode cX2_commit 15 = .ok (.getfield 126, 3) := by decide +kernel
theorem dX2_commit_18 : decode cX2_commit 18 = .ok (.aload_n 0, 1) := by decide +kernel
theorem dX2_commit_19 : decode cX2_commit 19 = .ok (.getfield 36, 3) := by decide +kernel
theorem dX2_commit_22 : decode cX2_commit 22 = .ok (.invokevirtual 129, 3) := by decide +kernel
theorem dX2_commit_25 : decode cX2_commit 25 = .ok (.ifCond .ne 15, 3) := by decide +kernel
theorem dX2_commit_28 : decode cX2_commit 28 = .ok (.aload_n 0, 1) := by decide +kernel
theorem dX2_commit_29 : decode cX2_commit 29 = .ok (.iconst 0, 1) := by decide +kernel
theorem dX2_commit_30 : decode cX2_commit 30 = .ok (.putfield 71, 3) := by decide +kernel
theorem dX2_commit_33 : decode cX2_commit 33 = .ok (.aload_n 0, 1) := by decide +kernel
theorem dX2_commit_34 : decode cX2_commit 34 = .ok (.invokevirtual 64, 3) := by decide +kernel
theorem dX2_commit_37 : decode cX2_commit 37 = .ok (.bipush 6, 2) := by decide +kernel
theorem dX2_commit_39 : decode cX2_commit 39 = .ok (.ireturn, 1) := by decide +kernel
theorem dX2_commit_40 : decode cX2_commit 40 = .ok (.aload_n 0, 1) := by decide +kernel
theorem dX2_commit_41 : decode cX2_commit 41 = .ok (.invokevirtual 133, 3) := by decide +kernel
theorem dX2_commit_44 : decode cX2_commit 44 = .ok (.iconst 0, 1) := by decide +kernel
theorem dX2_commit_45 : decode cX2_commit 45 = .ok (.ireturn, 1) := by decide +kernel
theorem dX2_abort_0 : decode cX2_abort 0 = .ok (.aload_n 0, 1) := by decide +kernel
theorem dX2_abort_1 : decode cX2_abort 1 = .ok (.getfield 71, 3) := by decide +kernel
theorem dX2_abort_4 : decode cX2_abort 4 = .ok (.ifCond .ne 5, 3) := by decide +kernel
theorem dX2_abort_7 : decode cX2_abort 7 = .ok (.iconst 0, 1) := by decide +kernel
theorem dX2_abort_8 : decode cX2_abort 8 = .ok (.ireturn, 1) := by decide +kernel
theorem dX2_abort_9 : decode cX2_abort 9 = .ok (.aload_n 0, 1) := by decide +kernel
theorem dX2_abort_10 : decode cX2_abort 10 = .ok (.invokevirtual 133, 3) := by decide +kernel
theorem dX2_abort_13 : decode cX2_abort 13 = .ok (.iconst 1, 1) := by decide +kernel
theorem dX2_abort_14 : decode cX2_abort 14 = .ok (.ireturn, 1) := by decide +kernel
theorem dX2_balanceSize_0 : decode cX2_balanceSize 0 = .ok (.aload_n 0, 1) := by decide +kernel
theorem dX2_balanceSize_1 : decode cX2_balanceSize 1 = .ok (.getfield 71, 3) := by decide +kernel
theorem dX2_balanceSize_4 : decode cX2_balanceSize 4 = .ok (.ifCond .eq 11, 3) := by decide +kernel
theorem dX2_balanceSize_7 : decode cX2_balanceSize 7 = .ok (.aload_n 0, 1) := by decide +kernel
theorem dX2_balanceSize_8 : decode cX2_balanceSize 8 = .ok (.iload_n 1, 1) := by decide +kernel
theorem dX2_balanceSize_9 : decode cX2_balanceSize 9 = .ok (.invokevirtual 84, 3) := by decide +kernel
theorem dX2_balanceSize_12 : decode cX2_balanceSize 12 = .ok (.ifCond .ne 5, 3) := by decide +kernel
theorem dX2_balanceSize_15 : decode cX2_balanceSize 15 = .ok (.iconst (-1), 1) := by decide +kernel
theorem dX2_balanceSize_16 : decode cX2_balanceSize 16 = .ok (.ireturn, 1) := by decide +kernel
theorem dX2_balanceSize_17 : decode cX2_balanceSize 17 = .ok (.aload_n 0, 1) := by decide +kernel
theorem dX2_balanceSize_18 : decode cX2_balanceSize 18 = .ok (.iload_n 1, 1) := by decide +kernel
theorem dX2_balanceSize_19 : decode cX2_balanceSize 19 = .ok (.invokevirtual 113, 3) := by decide +kernel
theorem dX2_balanceSize_22 : decode cX2_balanceSize 22 = .ok (.getfield 75, 3) := by decide +kernel
theorem dX2_balanceSize_25 : decode cX2_balanceSize 25 = .ok (.ireturn, 1) := by decide +kernel
theorem dX2_balanceLimb_0 : decode cX2_balanceLimb 0 = .ok (.aload_n 0, 1) := by decide +kernel
theorem dX2_balanceLimb_1 : decode cX2_balanceLimb 1 = .ok (.getfield 71, 3) := by decide +kernel
theorem dX2_balanceLimb_4 : decode cX2_balanceLimb 4 = .ok (.ifCond .eq 15, 3) := by decide +kernel
theorem dX2_balanceLimb_7 : decode cX2_balanceLimb 7 = .ok (.aload_n 0, 1) := by decide +kernel
theorem dX2_balanceLimb_8 : decode cX2_balanceLimb 8 = .ok (.iload_n 1, 1) := by decide +kernel
theorem dX2_balanceLimb_9 : decode cX2_balanceLimb 9 = .ok (.invokevirtual 84, 3) := by decide +kernel
theorem dX2_balanceLimb_12 : decode cX2_balanceLimb 12 = .ok (.ifCond .eq 7, 3) := by decide +kernel
theorem dX2_balanceLimb_15 : decode cX2_balanceLimb 15 = .ok (.iload_n 2, 1) := by decide +kernel
theorem dX2_balanceLimb_16 : decode cX2_balanceLimb 16 = .ok (.ifCond .ge 5, 3) := by decide +kernel
theorem dX2_balanceLimb_19 : decode cX2_balanceLimb 19 = .ok (.iconst (-1), 1) := by decide +kernel
theorem dX2_balanceLimb_20 : decode cX2_balanceLimb 20 = .ok (.ireturn, 1) := by decide +kernel
theorem dX2_balanceLimb_21 : decode cX2_balanceLimb 21 = .ok (.aload_n 0, 1) := by decide +kernel
theorem dX2_balanceLimb_22 : decode cX2_balanceLimb 22 = .ok (.iload_n 1, 1) := by decide +kernel
theorem dX2_balanceLimb_23 : decode cX2_balanceLimb 23 = .ok (.invokevirtual 113, 3) := by decide +kernel
theorem dX2_balanceLimb_26 : decode cX2_balanceLimb 26 = .ok (.iload_n 2, 1) := by decide +kernel
theorem dX2_balanceLimb_27 : decode cX2_balanceLimb 27 = .ok (.invokevirtual 136, 3) := by decide +kernel
theorem dX2_balanceLimb_30 : decode cX2_balanceLimb 30 = .ok (.ireturn, 1) := by decide +kernel
theorem dX2_totalLimb_0 : decode cX2_totalLimb 0 = .ok (.aload_n 0, 1) := by decide +kernel
theorem dX2_totalLimb_1 : decode cX2_totalLimb 1 = .ok (.getfield 71, 3) := by decide +kernel
theorem dX2_totalLimb_4 : decode cX2_totalLimb 4 = .ok (.ifCond .eq 7, 3) := by decide +kernel
theorem dX2_totalLimb_7 : decode cX2_totalLimb 7 = .ok (.iload_n 1, 1) := by decide +kernel
theorem dX2_totalLimb_8 : decode cX2_totalLimb 8 = .ok (.ifCond .ge 5, 3) := by decide +kernel
theorem dX2_totalLimb_11 : decode cX2_totalLimb 11 = .ok (.iconst (-1), 1) := by decide +kernel
theorem dX2_totalLimb_12 : decode cX2_totalLimb 12 = .ok (.ireturn, 1) := by decide +kernel
theorem dX2_totalLimb_13 : decode cX2_totalLimb 13 = .ok (.aload_n 0, 1) := by decide +kernel
theorem dX2_totalLimb_14 : decode cX2_totalLimb 14 = .ok (.aload_n 0, 1) := by decide +kernel
theorem dX2_totalLimb_15 : decode cX2_totalLimb 15 = .ok (.invokevirtual 91, 3) := by decide +kernel
theorem dX2_totalLimb_18 : decode cX2_totalLimb 18 = .ok (.invokevirtual 113, 3) := by decide +kernel
theorem dX2_totalLimb_21 : decode cX2_totalLimb 21 = .ok (.iload_n 1, 1) := by decide +kernel
theorem dX2_totalLimb_22 : decode cX2_totalLimb 22 = .ok (.invokevirtual 136, 3) := by decide +kernel
theorem dX2_totalLimb_25 : decode cX2_totalLimb 25 = .ok (.ireturn, 1) := by decide +kernel
theorem dX2_amount_0 : decode cX2_amount 0 = .ok (.aload_n 0, 1) := by decide +kernel
theorem dX2_amount_1 : decode cX2_amount 1 = .ok (.getfield 71, 3) := by decide +kernel
theorem dX2_amount_4 : decode cX2_amount 4 = .ok (.ifCond .eq 7, 3) := by decide +kernel
theorem dX2_amount_7 : decode cX2_amount 7 = .ok (.iload_n 1, 1) := by decide +kernel
theorem dX2_amount_8 : decode cX2_amount 8 = .ok (.ifCond .ge 5, 3) := by decide +kernel
theorem dX2_amount_11 : decode cX2_amount 11 = .ok (.iconst (-1), 1) := by decide +kernel
theorem dX2_amount_12 : decode cX2_amount 12 = .ok (.ireturn, 1) := by decide +kernel
theorem dX2_amount_13 : decode cX2_amount 13 = .ok (.aload_n 0, 1) := by decide +kernel
theorem dX2_amount_14 : decode cX2_amount 14 = .ok (.getfield 45, 3) := by decide +kernel
theorem dX2_amount_17 : decode cX2_amount 17 = .ok (.iload_n 1, 1) := by decide +kernel
theorem dX2_amount_18 : decode cX2_amount 18 = .ok (.invokevirtual 136, 3) := by decide +kernel
theorem dX2_amount_21 : decode cX2_amount 21 = .ok (.ireturn, 1) := by decide +kernel
theorem dX2_compare_0 : decode cX2_compare 0 = .ok (.aload_n 0, 1) := by decide +kernel
theorem dX2_compare_1 : decode cX2_compare 1 = .ok (.getfield 71, 3) := by decide +kernel
theorem dX2_compare_4 : decode cX2_compare 4 = .ok (.ifCond .eq 19, 3) := by decide +kernel
theorem dX2_compare_7 : decode cX2_compare 7 = .ok (.aload_n 0, 1) := by decide +kernel
theorem dX2_compare_8 : decode cX2_compare 8 = .ok (.iload_n 1, 1) := by decide +kernel
theorem dX2_compare_9 : decode cX2_compare 9 = .ok (.invokevirtual 84, 3) := by decide +kernel
theorem dX2_compare_12 : decode cX2_compare 12 = .ok (.ifCond .eq 11, 3) := by decide +kernel
theorem dX2_compare_15 : decode cX2_compare 15 = .ok (.aload_n 0, 1) := by decide +kernel
theorem dX2_compare_16 : decode cX2_compare 16 = .ok (.iload_n 2, 1) := by decide +kernel
theorem dX2_compare_17 : decode cX2_compare 17 = .ok (.invokevirtual 84, 3) := by decide +kernel
theorem dX2_compare_20 : decode cX2_compare 20 = .ok (.ifCond .ne 6, 3) := by decide +kernel
theorem dX2_compare_23 : decode cX2_compare 23 = .ok (.bipush (-2), 2) := by decide +kernel
theorem dX2_compare_25 : decode cX2_compare 25 = .ok (.ireturn, 1) := by decide +kernel
theorem dX2_compare_26 : decode cX2_compare 26 = .ok (.aload_n 0, 1) := by decide +kernel
theorem dX2_compare_27 : decode cX2_compare 27 = .ok (.iload_n 1, 1) := by decide +kernel
theorem dX2_compare_28 : decode cX2_compare 28 = .ok (.invokevirtual 113, 3) := by decide +kernel
theorem dX2_compare_31 : decode cX2_compare 31 = .ok (.aload_n 0, 1) := by decide +kernel
theorem dX2_compare_32 : decode cX2_compare 32 = .ok (.iload_n 2, 1) := by decide +kernel
theorem dX2_compare_33 : decode cX2_compare 33 = .ok (.invokevirtual 113, 3) := by decide +kernel
theorem dX2_compare_36 : decode cX2_compare 36 = .ok (.invokevirtual 139, 3) := by decide +kernel
theorem dX2_compare_39 : decode cX2_compare 39 = .ok (.ireturn, 1) := by decide +kernel
theorem dX2_stopAfter_0 : decode cX2_stopAfter 0 = .ok (.aload_n 0, 1) := by decide +kernel
theorem dX2_stopAfter_1 : decode cX2_stopAfter 1 = .ok (.getfield 28, 3) := by decide +kernel
theorem dX2_stopAfter_4 : decode cX2_stopAfter 4 = .ok (.iload_n 1, 1) := by decide +kernel
theorem dX2_stopAfter_5 : decode cX2_stopAfter 5 = .ok (.ifCond .ge 7, 3) := by decide +kernel
theorem dX2_stopAfter_8 : decode cX2_stopAfter 8 = .ok (.iconst (-1), 1) := by decide +kernel
theorem dX2_stopAfter_9 : decode cX2_stopAfter 9 = .ok (.goto 4, 3) := by decide +kernel
theorem dX2_stopAfter_12 : decode cX2_stopAfter 12 = .ok (.iload_n 1, 1) := by decide +kernel
theorem dX2_stopAfter_13 : decode cX2_stopAfter 13 = .ok (.putfield 143, 3) := by decide +kernel
theorem dX2_stopAfter_16 : decode cX2_stopAfter 16 = .ok (.return_, 1) := by decide +kernel
theorem dX2_recover_0 : decode cX2_recover 0 = .ok (.aload_n 0, 1) := by decide +kernel
theorem dX2_recover_1 : decode cX2_recover 1 = .ok (.invokevirtual 64, 3) := by decide +kernel
theorem dX2_recover_4 : decode cX2_recover 4 = .ok (.aload_n 0, 1) := by decide +kernel
theorem dX2_recover_5 : decode cX2_recover 5 = .ok (.aload_n 0, 1) := by decide +kernel
theorem dX2_recover_6 : decode cX2_recover 6 = .ok (.getfield 28, 3) := by decide +kernel
theorem dX2_recover_9 : decode cX2_recover 9 = .ok (.getfield 146, 3) := by decide +kernel
theorem dX2_recover_12 : decode cX2_recover 12 = .ok (.ifCond .eq 17, 3) := by decide +kernel
theorem dX2_recover_15 : decode cX2_recover 15 = .ok (.aload_n 0, 1) := by decide +kernel
theorem dX2_recover_16 : decode cX2_recover 16 = .ok (.getfield 28, 3) := by decide +kernel
theorem dX2_recover_19 : decode cX2_recover 19 = .ok (.invokevirtual 149, 3) := by decide +kernel
theorem dX2_recover_22 : decode cX2_recover 22 = .ok (.ifCond .eq 7, 3) := by decide +kernel
theorem dX2_recover_25 : decode cX2_recover 25 = .ok (.iconst 1, 1) := by decide +kernel
theorem dX2_recover_26 : decode cX2_recover 26 = .ok (.goto 4, 3) := by decide +kernel
theorem dX2_recover_29 : decode cX2_recover 29 = .ok (.iconst 0, 1) := by decide +kernel
theorem dX2_recover_30 : decode cX2_recover 30 = .ok (.putfield 71, 3) := by decide +kernel
theorem dX2_recover_33 : decode cX2_recover 33 = .ok (.aload_n 0, 1) := by decide +kernel
theorem dX2_recover_34 : decode cX2_recover 34 = .ok (.getfield 71, 3) := by decide +kernel
theorem dX2_recover_37 : decode cX2_recover 37 = .ok (.ireturn, 1) := by decide +kernel
theorem dX2_write_0 : decode cX2_write 0 = .ok (.aload_n 0, 1) := by decide +kernel
theorem dX2_write_1 : decode cX2_write 1 = .ok (.getfield 71, 3) := by decide +kernel
theorem dX2_write_4 : decode cX2_write 4 = .ok (.ifCond .eq 11, 3) := by decide +kernel
theorem dX2_write_7 : decode cX2_write 7 = .ok (.aload_n 0, 1) := by decide +kernel
theorem dX2_write_8 : decode cX2_write 8 = .ok (.iload_n 1, 1) := by decide +kernel
theorem dX2_write_9 : decode cX2_write 9 = .ok (.invokevirtual 84, 3) := by decide +kernel
theorem dX2_write_12 : decode cX2_write 12 = .ok (.ifCond .ne 5, 3) := by decide +kernel
theorem dX2_write_15 : decode cX2_write 15 = .ok (.iconst (-1), 1) := by decide +kernel
theorem dX2_write_16 : decode cX2_write 16 = .ok (.ireturn, 1) := by decide +kernel
theorem dX2_write_17 : decode cX2_write 17 = .ok (.aload_n 0, 1) := by decide +kernel
theorem dX2_write_18 : decode cX2_write 18 = .ok (.getfield 49, 3) := by decide +kernel
theorem dX2_write_21 : decode cX2_write 21 = .ok (.aload_n 0, 1) := by decide +kernel
theorem dX2_write_22 : decode cX2_write 22 = .ok (.iload_n 1, 1) := by decide +kernel
theorem dX2_write_23 : decode cX2_write 23 = .ok (.invokevirtual 113, 3) := by decide +kernel
theorem dX2_write_26 : decode cX2_write 26 = .ok (.invokevirtual 116, 3) := by decide +kernel
theorem dX2_write_29 : decode cX2_write 29 = .ok (.iconst 0, 1) := by decide +kernel
theorem dX2_write_30 : decode cX2_write 30 = .ok (.istore_n 2, 1) := by decide +kernel
theorem dX2_write_31 : decode cX2_write 31 = .ok (.iload_n 2, 1) := by decide +kernel
theorem dX2_write_32 : decode cX2_write 32 = .ok (.aload_n 0, 1) := by decide +kernel
theorem dX2_write_33 : decode cX2_write 33 = .ok (.getfield 52, 3) := by decide +kernel
theorem dX2_write_36 : decode cX2_write 36 = .ok (.arraylength, 1) := by decide +kernel
theorem dX2_write_37 : decode cX2_write 37 = .ok (.if_icmp .ge 42, 3) := by decide +kernel
theorem dX2_write_40 : decode cX2_write 40 = .ok (.iload_n 2, 1) := by decide +kernel
theorem dX2_write_41 : decode cX2_write 41 = .ok (.ifCond .eq 13, 3) := by decide +kernel
theorem dX2_write_44 : decode cX2_write 44 = .ok (.aload_n 0, 1) := by decide +kernel
theorem dX2_write_45 : decode cX2_write 45 = .ok (.getfield 49, 3) := by decide +kernel
theorem dX2_write_48 : decode cX2_write 48 = .ok (.getfield 75, 3) := by decide +kernel
theorem dX2_write_51 : decode cX2_write 51 = .ok (.ifCond .le 28, 3) := by decide +kernel
theorem dX2_write_54 : decode cX2_write 54 = .ok (.aload_n 0, 1) := by decide +kernel
theorem dX2_write_55 : decode cX2_write 55 = .ok (.getfield 52, 3) := by decide +kernel
theorem dX2_write_58 : decode cX2_write 58 = .ok (.iload_n 2, 1) := by decide +kernel
theorem dX2_write_59 : decode cX2_write 59 = .ok (.bipush 48, 2) := by decide +kernel
theorem dX2_write_61 : decode cX2_write 61 = .ok (.aload_n 0, 1) := by decide +kernel
theorem dX2_write_62 : decode cX2_write 62 = .ok (.getfield 49, 3) := by decide +kernel
theorem dX2_write_65 : decode cX2_write 65 = .ok (.bipush 10, 2) := by decide +kernel
theorem dX2_write_67 : decode cX2_write 67 = .ok (.invokevirtual 122, 3) := by decide +kernel
theorem dX2_write_70 : decode cX2_write 70 = .ok (.iadd, 1) := by decide +kernel
theorem dX2_write_71 : decode cX2_write 71 = .ok (.i2b, 1) := by decide +kernel
theorem dX2_write_72 : decode cX2_write 72 = .ok (.bastore, 1) := by decide +kernel
theorem dX2_write_73 : decode cX2_write 73 = .ok (.iinc 2 1, 3) := by decide +kernel
theorem dX2_write_76 : decode cX2_write 76 = .ok (.goto (-45), 3) := by decide +kernel
theorem dX2_write_79 : decode cX2_write 79 = .ok (.aload_n 0, 1) := by decide +kernel
theorem dX2_write_80 : decode cX2_write 80 = .ok (.iload_n 2, 1) := by decide +kernel
theorem dX2_write_81 : decode cX2_write 81 = .ok (.putfield 152, 3) := by decide +kernel
theorem dX2_write_84 : decode cX2_write 84 = .ok (.aload_n 0, 1) := by decide +kernel
theorem dX2_write_85 : decode cX2_write 85 = .ok (.getfield 152, 3) := by decide +kernel
theorem dX2_write_88 : decode cX2_write 88 = .ok (.ireturn, 1) := by decide +kernel
theorem dX2_octet_0 : decode cX2_octet 0 = .ok (.iload_n 1, 1) := by decide +kernel
theorem dX2_octet_1 : decode cX2_octet 1 = .ok (.ifCond .lt 11, 3) := by decide +kernel
theorem dX2_octet_4 : decode cX2_octet 4 = .ok (.iload_n 1, 1) := by decide +kernel
theorem dX2_octet_5 : decode cX2_octet 5 = .ok (.aload_n 0, 1) := by decide +kernel
theorem dX2_octet_6 : decode cX2_octet 6 = .ok (.getfield 152, 3) := by decide +kernel
theorem dX2_octet_9 : decode cX2_octet 9 = .ok (.if_icmp .lt 13, 3) := by decide +kernel
theorem dX2_octet_12 : decode cX2_octet 12 = .ok (.new 155, 3) := by decide +kernel
theorem dX2_octet_15 : decode cX2_octet 15 = .ok (.dup, 1) := by decide +kernel
theorem dX2_octet_16 : decode cX2_octet 16 = .ok (.ldc 157, 2) := by decide +kernel
theorem dX2_octet_18 : decode cX2_octet 18 = .ok (.invokespecial 159, 3) := by decide +kernel
theorem dX2_octet_21 : decode cX2_octet 21 = .ok (.athrow, 1) := by decide +kernel
theorem dX2_octet_22 : decode cX2_octet 22 = .ok (.aload_n 0, 1) := by decide +kernel
theorem dX2_octet_23 : decode cX2_octet 23 = .ok (.getfield 52, 3) := by decide +kernel
theorem dX2_octet_26 : decode cX2_octet 26 = .ok (.aload_n 0, 1) := by decide +kernel
theorem dX2_octet_27 : decode cX2_octet 27 = .ok (.getfield 152, 3) := by decide +kernel
theorem dX2_octet_30 : decode cX2_octet 30 = .ok (.iconst 1, 1) := by decide +kernel
theorem dX2_octet_31 : decode cX2_octet 31 = .ok (.isub, 1) := by decide +kernel
theorem dX2_octet_32 : decode cX2_octet 32 = .ok (.iload_n 1, 1) := by decide +kernel
theorem dX2_octet_33 : decode cX2_octet 33 = .ok (.isub, 1) := by decide +kernel
theorem dX2_octet_34 : decode cX2_octet 34 = .ok (.baload, 1) := by decide +kernel
theorem dX2_octet_35 : decode cX2_octet 35 = .ok (.ireturn, 1) := by decide +kernel
theorem dX2_count_0 : decode cX2_count 0 = .ok (.iload_n 1, 1) := by decide +kernel
theorem dX2_count_1 : decode cX2_count 1 = .ok (.tableswitch 134 0 8 #[51, 56, 61, 66, 74, 87, 95, 103, 126], 51) := by decide +kernel
theorem dX2_count_52 : decode cX2_count 52 = .ok (.aload_n 0, 1) := by decide +kernel
theorem dX2_count_53 : decode cX2_count 53 = .ok (.getfield 13, 3) := by decide +kernel
theorem dX2_count_56 : decode cX2_count 56 = .ok (.ireturn, 1) := by decide +kernel
theorem dX2_count_57 : decode cX2_count 57 = .ok (.aload_n 0, 1) := by decide +kernel
theorem dX2_count_58 : decode cX2_count 58 = .ok (.getfield 17, 3) := by decide +kernel
theorem dX2_count_61 : decode cX2_count 61 = .ok (.ireturn, 1) := by decide +kernel
theorem dX2_count_62 : decode cX2_count 62 = .ok (.aload_n 0, 1) := by decide +kernel
theorem dX2_count_63 : decode cX2_count 63 = .ok (.getfield 20, 3) := by decide +kernel
theorem dX2_count_66 : decode cX2_count 66 = .ok (.ireturn, 1) := by decide +kernel
theorem dX2_count_67 : decode cX2_count 67 = .ok (.aload_n 0, 1) := by decide +kernel
theorem dX2_count_68 : decode cX2_count 68 = .ok (.getfield 28, 3) := by decide +kernel
theorem dX2_count_71 : decode cX2_count 71 = .ok (.getfield 162, 3) := by decide +kernel
theorem dX2_count_74 : decode cX2_count 74 = .ok (.ireturn, 1) := by decide +kernel
theorem dX2_count_75 : decode cX2_count 75 = .ok (.aload_n 0, 1) := by decide +kernel
theorem dX2_count_76 : decode cX2_count 76 = .ok (.getfield 71, 3) := by decide +kernel
theorem dX2_count_79 : decode cX2_count 79 = .ok (.ifCond .eq 7, 3) := by decide +kernel
theorem dX2_count_82 : decode cX2_count 82 = .ok (.iconst 1, 1) := by decide +kernel
theorem dX2_count_83 : decode cX2_count 83 = .ok (.goto 4, 3) := by decide +kernel
theorem dX2_count_86 : decode cX2_count 86 = .ok (.iconst 0, 1) := by decide +kernel
theorem dX2_count_87 : decode cX2_count 87 = .ok (.ireturn, 1) := by decide +kernel
theorem dX2_count_88 : decode cX2_count 88 = .ok (.aload_n 0, 1) := by decide +kernel
theorem dX2_count_89 : decode cX2_count 89 = .ok (.getfield 126, 3) := by decide +kernel
theorem dX2_count_92 : decode cX2_count 92 = .ok (.invokestatic 165, 3) := by decide +kernel
theorem dX2_count_95 : decode cX2_count 95 = .ok (.ireturn, 1) := by decide +kernel
theorem dX2_count_96 : decode cX2_count 96 = .ok (.aload_n 0, 1) := by decide +kernel
end
section
theorem dX2_count_97 : decode cX2_count 97 = .ok (.getfield 28, 3) := by decide +kernel
theorem dX2_count_100 : decode cX2_count 100 = .ok (.getfield 143, 3) := by decide +kernel
theorem dX2_count_103 : decode cX2_count 103 = .ok (.ireturn, 1) := by decide +kernel
theorem dX2_count_104 : decode cX2_count 104 = .ok (.aload_n 0, 1) := by decide +kernel
theorem dX2_count_105 : decode cX2_count 105 = .ok (.getfield 71, 3) := by decide +kernel
theorem dX2_count_108 : decode cX2_count 108 = .ok (.ifCond .eq 17, 3) := by decide +kernel
theorem dX2_count_111 : decode cX2_count 111 = .ok (.aload_n 0, 1) := by decide +kernel
theorem dX2_count_112 : decode cX2_count 112 = .ok (.aload_n 0, 1) := by decide +kernel
theorem dX2_count_113 : decode cX2_count 113 = .ok (.invokevirtual 91, 3) := by decide +kernel
theorem dX2_count_116 : decode cX2_count 116 = .ok (.invokevirtual 113, 3) := by decide +kernel
theorem dX2_count_119 : decode cX2_count 119 = .ok (.getfield 75, 3) := by decide +kernel
theorem dX2_count_122 : decode cX2_count 122 = .ok (.goto 4, 3) := by decide +kernel
theorem dX2_count_125 : decode cX2_count 125 = .ok (.iconst 0, 1) := by decide +kernel
theorem dX2_count_126 : decode cX2_count 126 = .ok (.ireturn, 1) := by decide +kernel
theorem dX2_count_127 : decode cX2_count 127 = .ok (.aload_n 0, 1) := by decide +kernel
theorem dX2_count_128 : decode cX2_count 128 = .ok (.getfield 45, 3) := by decide +kernel
theorem dX2_count_131 : decode cX2_count 131 = .ok (.getfield 75, 3) := by decide +kernel
theorem dX2_count_134 : decode cX2_count 134 = .ok (.ireturn, 1) := by decide +kernel
theorem dX2_count_135 : decode cX2_count 135 = .ok (.iconst (-1), 1) := by decide +kernel
theorem dX2_count_136 : decode cX2_count 136 = .ok (.ireturn, 1) := by decide +kernel
theorem dX2_isAccount_0 : decode cX2_isAccount 0 = .ok (.iload_n 1, 1) := by decide +kernel
theorem dX2_isAccount_1 : decode cX2_isAccount 1 = .ok (.ifCond .lt 15, 3) := by decide +kernel
theorem dX2_isAccount_4 : decode cX2_isAccount 4 = .ok (.iload_n 1, 1) := by decide +kernel
theorem dX2_isAccount_5 : decode cX2_isAccount 5 = .ok (.aload_n 0, 1) := by decide +kernel
theorem dX2_isAccount_6 : decode cX2_isAccount 6 = .ok (.getfield 13, 3) := by decide +kernel
theorem dX2_isAccount_9 : decode cX2_isAccount 9 = .ok (.if_icmp .ge 7, 3) := by decide +kernel
theorem dX2_isAccount_12 : decode cX2_isAccount 12 = .ok (.iconst 1, 1) := by decide +kernel
theorem dX2_isAccount_13 : decode cX2_isAccount 13 = .ok (.goto 4, 3) := by decide +kernel
theorem dX2_isAccount_16 : decode cX2_isAccount 16 = .ok (.iconst 0, 1) := by decide +kernel
theorem dX2_isAccount_17 : decode cX2_isAccount 17 = .ok (.ireturn, 1) := by decide +kernel
theorem dX2_totalBlock_0 : decode cX2_totalBlock 0 = .ok (.aload_n 0, 1) := by decide +kernel
theorem dX2_totalBlock_1 : decode cX2_totalBlock 1 = .ok (.getfield 13, 3) := by decide +kernel
theorem dX2_totalBlock_4 : decode cX2_totalBlock 4 = .ok (.ireturn, 1) := by decide +kernel
theorem dX2_has_0 : decode cX2_has 0 = .ok (.iload_n 0, 1) := by decide +kernel
theorem dX2_has_1 : decode cX2_has 1 = .ok (.iconst 1, 1) := by decide +kernel
theorem dX2_has_2 : decode cX2_has 2 = .ok (.iload_n 1, 1) := by decide +kernel
theorem dX2_has_3 : decode cX2_has 3 = .ok (.ishl, 1) := by decide +kernel
theorem dX2_has_4 : decode cX2_has 4 = .ok (.iand, 1) := by decide +kernel
theorem dX2_has_5 : decode cX2_has 5 = .ok (.ifCond .eq 7, 3) := by decide +kernel
theorem dX2_has_8 : decode cX2_has 8 = .ok (.iconst 1, 1) := by decide +kernel
theorem dX2_has_9 : decode cX2_has 9 = .ok (.goto 4, 3) := by decide +kernel
theorem dX2_has_12 : decode cX2_has 12 = .ok (.iconst 0, 1) := by decide +kernel
theorem dX2_has_13 : decode cX2_has 13 = .ok (.ireturn, 1) := by decide +kernel
theorem dX2_seen_0 : decode cX2_seen 0 = .ok (.aload_n 0, 1) := by decide +kernel
theorem dX2_seen_1 : decode cX2_seen 1 = .ok (.getfield 126, 3) := by decide +kernel
theorem dX2_seen_4 : decode cX2_seen 4 = .ok (.iload_n 1, 1) := by decide +kernel
theorem dX2_seen_5 : decode cX2_seen 5 = .ok (.invokestatic 170, 3) := by decide +kernel
theorem dX2_seen_8 : decode cX2_seen 8 = .ok (.ifCond .eq 12, 3) := by decide +kernel
theorem dX2_seen_11 : decode cX2_seen 11 = .ok (.aload_n 0, 1) := by decide +kernel
theorem dX2_seen_12 : decode cX2_seen 12 = .ok (.getfield 36, 3) := by decide +kernel
theorem dX2_seen_15 : decode cX2_seen 15 = .ok (.iload_n 1, 1) := by decide +kernel
theorem dX2_seen_16 : decode cX2_seen 16 = .ok (.aaload, 1) := by decide +kernel
theorem dX2_seen_17 : decode cX2_seen 17 = .ok (.goto 12, 3) := by decide +kernel
theorem dX2_seen_20 : decode cX2_seen 20 = .ok (.aload_n 0, 1) := by decide +kernel
theorem dX2_seen_21 : decode cX2_seen 21 = .ok (.getfield 28, 3) := by decide +kernel
theorem dX2_seen_24 : decode cX2_seen 24 = .ok (.getfield 173, 3) := by decide +kernel
theorem dX2_seen_27 : decode cX2_seen 27 = .ok (.iload_n 1, 1) := by decide +kernel
theorem dX2_seen_28 : decode cX2_seen 28 = .ok (.aaload, 1) := by decide +kernel
theorem dX2_seen_29 : decode cX2_seen 29 = .ok (.areturn, 1) := by decide +kernel
theorem dX2_touch_0 : decode cX2_touch 0 = .ok (.aload_n 0, 1) := by decide +kernel
theorem dX2_touch_1 : decode cX2_touch 1 = .ok (.getfield 126, 3) := by decide +kernel
theorem dX2_touch_4 : decode cX2_touch 4 = .ok (.iload_n 1, 1) := by decide +kernel
theorem dX2_touch_5 : decode cX2_touch 5 = .ok (.invokestatic 170, 3) := by decide +kernel
theorem dX2_touch_8 : decode cX2_touch 8 = .ok (.ifCond .ne 33, 3) := by decide +kernel
theorem dX2_touch_11 : decode cX2_touch 11 = .ok (.aload_n 0, 1) := by decide +kernel
theorem dX2_touch_12 : decode cX2_touch 12 = .ok (.getfield 36, 3) := by decide +kernel
theorem dX2_touch_15 : decode cX2_touch 15 = .ok (.iload_n 1, 1) := by decide +kernel
theorem dX2_touch_16 : decode cX2_touch 16 = .ok (.aaload, 1) := by decide +kernel
theorem dX2_touch_17 : decode cX2_touch 17 = .ok (.aload_n 0, 1) := by decide +kernel
theorem dX2_touch_18 : decode cX2_touch 18 = .ok (.getfield 28, 3) := by decide +kernel
theorem dX2_touch_21 : decode cX2_touch 21 = .ok (.getfield 173, 3) := by decide +kernel
theorem dX2_touch_24 : decode cX2_touch 24 = .ok (.iload_n 1, 1) := by decide +kernel
theorem dX2_touch_25 : decode cX2_touch 25 = .ok (.aaload, 1) := by decide +kernel
theorem dX2_touch_26 : decode cX2_touch 26 = .ok (.invokevirtual 116, 3) := by decide +kernel
theorem dX2_touch_29 : decode cX2_touch 29 = .ok (.aload_n 0, 1) := by decide +kernel
theorem dX2_touch_30 : decode cX2_touch 30 = .ok (.dup, 1) := by decide +kernel
theorem dX2_touch_31 : decode cX2_touch 31 = .ok (.getfield 126, 3) := by decide +kernel
theorem dX2_touch_34 : decode cX2_touch 34 = .ok (.iconst 1, 1) := by decide +kernel
theorem dX2_touch_35 : decode cX2_touch 35 = .ok (.iload_n 1, 1) := by decide +kernel
theorem dX2_touch_36 : decode cX2_touch 36 = .ok (.ishl, 1) := by decide +kernel
theorem dX2_touch_37 : decode cX2_touch 37 = .ok (.ior, 1) := by decide +kernel
theorem dX2_touch_38 : decode cX2_touch 38 = .ok (.putfield 126, 3) := by decide +kernel
theorem dX2_touch_41 : decode cX2_touch 41 = .ok (.aload_n 0, 1) := by decide +kernel
theorem dX2_touch_42 : decode cX2_touch 42 = .ok (.getfield 36, 3) := by decide +kernel
theorem dX2_touch_45 : decode cX2_touch 45 = .ok (.iload_n 1, 1) := by decide +kernel
theorem dX2_touch_46 : decode cX2_touch 46 = .ok (.aaload, 1) := by decide +kernel
theorem dX2_touch_47 : decode cX2_touch 47 = .ok (.areturn, 1) := by decide +kernel
theorem dX2_hasRoomFor_0 : decode cX2_hasRoomFor 0 = .ok (.aload_n 0, 1) := by decide +kernel
theorem dX2_hasRoomFor_1 : decode cX2_hasRoomFor 1 = .ok (.getfield 126, 3) := by decide +kernel
theorem dX2_hasRoomFor_4 : decode cX2_hasRoomFor 4 = .ok (.iconst 1, 1) := by decide +kernel
theorem dX2_hasRoomFor_5 : decode cX2_hasRoomFor 5 = .ok (.iload_n 1, 1) := by decide +kernel
theorem dX2_hasRoomFor_6 : decode cX2_hasRoomFor 6 = .ok (.ishl, 1) := by decide +kernel
theorem dX2_hasRoomFor_7 : decode cX2_hasRoomFor 7 = .ok (.ior, 1) := by decide +kernel
theorem dX2_hasRoomFor_8 : decode cX2_hasRoomFor 8 = .ok (.iconst 1, 1) := by decide +kernel
theorem dX2_hasRoomFor_9 : decode cX2_hasRoomFor 9 = .ok (.iload_n 2, 1) := by decide +kernel
theorem dX2_hasRoomFor_10 : decode cX2_hasRoomFor 10 = .ok (.ishl, 1) := by decide +kernel
theorem dX2_hasRoomFor_11 : decode cX2_hasRoomFor 11 = .ok (.ior, 1) := by decide +kernel
theorem dX2_hasRoomFor_12 : decode cX2_hasRoomFor 12 = .ok (.invokestatic 165, 3) := by decide +kernel
theorem dX2_hasRoomFor_15 : decode cX2_hasRoomFor 15 = .ok (.aload_n 0, 1) := by decide +kernel
theorem dX2_hasRoomFor_16 : decode cX2_hasRoomFor 16 = .ok (.getfield 20, 3) := by decide +kernel
theorem dX2_hasRoomFor_19 : decode cX2_hasRoomFor 19 = .ok (.if_icmp .gt 7, 3) := by decide +kernel
theorem dX2_hasRoomFor_22 : decode cX2_hasRoomFor 22 = .ok (.iconst 1, 1) := by decide +kernel
theorem dX2_hasRoomFor_23 : decode cX2_hasRoomFor 23 = .ok (.goto 4, 3) := by decide +kernel
theorem dX2_hasRoomFor_26 : decode cX2_hasRoomFor 26 = .ok (.iconst 0, 1) := by decide +kernel
theorem dX2_hasRoomFor_27 : decode cX2_hasRoomFor 27 = .ok (.ireturn, 1) := by decide +kernel
theorem dX2_isAmountAbove_0 : decode cX2_isAmountAbove 0 = .ok (.aload_n 0, 1) := by decide +kernel
theorem dX2_isAmountAbove_1 : decode cX2_isAmountAbove 1 = .ok (.getfield 45, 3) := by decide +kernel
theorem dX2_isAmountAbove_4 : decode cX2_isAmountAbove 4 = .ok (.aload_n 0, 1) := by decide +kernel
theorem dX2_isAmountAbove_5 : decode cX2_isAmountAbove 5 = .ok (.iload_n 1, 1) := by decide +kernel
theorem dX2_isAmountAbove_6 : decode cX2_isAmountAbove 6 = .ok (.invokevirtual 113, 3) := by decide +kernel
theorem dX2_isAmountAbove_9 : decode cX2_isAmountAbove 9 = .ok (.invokevirtual 139, 3) := by decide +kernel
theorem dX2_isAmountAbove_12 : decode cX2_isAmountAbove 12 = .ok (.ifCond .le 7, 3) := by decide +kernel
theorem dX2_isAmountAbove_15 : decode cX2_isAmountAbove 15 = .ok (.iconst 1, 1) := by decide +kernel
theorem dX2_isAmountAbove_16 : decode cX2_isAmountAbove 16 = .ok (.goto 4, 3) := by decide +kernel
theorem dX2_isAmountAbove_19 : decode cX2_isAmountAbove 19 = .ok (.iconst 0, 1) := by decide +kernel
theorem dX2_isAmountAbove_20 : decode cX2_isAmountAbove 20 = .ok (.ireturn, 1) := by decide +kernel
theorem dX2_wouldBeTooGreat_0 : decode cX2_wouldBeTooGreat 0 = .ok (.aload_n 0, 1) := by decide +kernel
theorem dX2_wouldBeTooGreat_1 : decode cX2_wouldBeTooGreat 1 = .ok (.getfield 49, 3) := by decide +kernel
theorem dX2_wouldBeTooGreat_4 : decode cX2_wouldBeTooGreat 4 = .ok (.aload_n 0, 1) := by decide +kernel
theorem dX2_wouldBeTooGreat_5 : decode cX2_wouldBeTooGreat 5 = .ok (.iload_n 1, 1) := by decide +kernel
theorem dX2_wouldBeTooGreat_6 : decode cX2_wouldBeTooGreat 6 = .ok (.invokevirtual 113, 3) := by decide +kernel
theorem dX2_wouldBeTooGreat_9 : decode cX2_wouldBeTooGreat 9 = .ok (.invokevirtual 116, 3) := by decide +kernel
theorem dX2_wouldBeTooGreat_12 : decode cX2_wouldBeTooGreat 12 = .ok (.aload_n 0, 1) := by decide +kernel
theorem dX2_wouldBeTooGreat_13 : decode cX2_wouldBeTooGreat 13 = .ok (.getfield 49, 3) := by decide +kernel
theorem dX2_wouldBeTooGreat_16 : decode cX2_wouldBeTooGreat 16 = .ok (.aload_n 0, 1) := by decide +kernel
theorem dX2_wouldBeTooGreat_17 : decode cX2_wouldBeTooGreat 17 = .ok (.getfield 45, 3) := by decide +kernel
theorem dX2_wouldBeTooGreat_20 : decode cX2_wouldBeTooGreat 20 = .ok (.invokevirtual 103, 3) := by decide +kernel
theorem dX2_wouldBeTooGreat_23 : decode cX2_wouldBeTooGreat 23 = .ok (.aload_n 0, 1) := by decide +kernel
theorem dX2_wouldBeTooGreat_24 : decode cX2_wouldBeTooGreat 24 = .ok (.getfield 49, 3) := by decide +kernel
theorem dX2_wouldBeTooGreat_27 : decode cX2_wouldBeTooGreat 27 = .ok (.getfield 75, 3) := by decide +kernel
theorem dX2_wouldBeTooGreat_30 : decode cX2_wouldBeTooGreat 30 = .ok (.aload_n 0, 1) := by decide +kernel
theorem dX2_wouldBeTooGreat_31 : decode cX2_wouldBeTooGreat 31 = .ok (.getfield 17, 3) := by decide +kernel
theorem dX2_wouldBeTooGreat_34 : decode cX2_wouldBeTooGreat 34 = .ok (.if_icmp .le 7, 3) := by decide +kernel
theorem dX2_wouldBeTooGreat_37 : decode cX2_wouldBeTooGreat 37 = .ok (.iconst 1, 1) := by decide +kernel
theorem dX2_wouldBeTooGreat_38 : decode cX2_wouldBeTooGreat 38 = .ok (.goto 4, 3) := by decide +kernel
theorem dX2_wouldBeTooGreat_41 : decode cX2_wouldBeTooGreat 41 = .ok (.iconst 0, 1) := by decide +kernel
theorem dX2_wouldBeTooGreat_42 : decode cX2_wouldBeTooGreat 42 = .ok (.ireturn, 1) := by decide +kernel
theorem dX2_dropPending_0 : decode cX2_dropPending 0 = .ok (.aload_n 0, 1) := by decide +kernel
theorem dX2_dropPending_1 : decode cX2_dropPending 1 = .ok (.iconst 0, 1) := by decide +kernel
theorem dX2_dropPending_2 : decode cX2_dropPending 2 = .ok (.putfield 126, 3) := by decide +kernel
theorem dX2_dropPending_5 : decode cX2_dropPending 5 = .ok (.return_, 1) := by decide +kernel
theorem dX2_loseMemory_0 : decode cX2_loseMemory 0 = .ok (.aload_n 0, 1) := by decide +kernel
theorem dX2_loseMemory_1 : decode cX2_loseMemory 1 = .ok (.invokevirtual 133, 3) := by decide +kernel
theorem dX2_loseMemory_4 : decode cX2_loseMemory 4 = .ok (.aload_n 0, 1) := by decide +kernel
theorem dX2_loseMemory_5 : decode cX2_loseMemory 5 = .ok (.getfield 45, 3) := by decide +kernel
theorem dX2_loseMemory_8 : decode cX2_loseMemory 8 = .ok (.invokevirtual 81, 3) := by decide +kernel
theorem dX2_loseMemory_11 : decode cX2_loseMemory 11 = .ok (.return_, 1) := by decide +kernel
theorem dX3_thrown_0 : decode cX3_thrown 0 = .ok (.aload_n 0, 1) := by decide +kernel
theorem dX3_thrown_1 : decode cX3_thrown 1 = .ok (.getfield 1, 3) := by decide +kernel
theorem dX3_thrown_4 : decode cX3_thrown 4 = .ok (.ireturn, 1) := by decide +kernel
theorem dX3_init_0 : decode cX3_init 0 = .ok (.aload_n 0, 1) := by decide +kernel
theorem dX3_init_1 : decode cX3_init 1 = .ok (.invokespecial 7, 3) := by decide +kernel
theorem dX3_init_4 : decode cX3_init 4 = .ok (.aload_n 0, 1) := by decide +kernel
theorem dX3_init_5 : decode cX3_init 5 = .ok (.sipush 550, 3) := by decide +kernel
theorem dX3_init_8 : decode cX3_init 8 = .ok (.newarray .int, 2) := by decide +kernel
theorem dX3_init_10 : decode cX3_init 10 = .ok (.putfield 13, 3) := by decide +kernel
theorem dX3_init_13 : decode cX3_init 13 = .ok (.aload_n 0, 1) := by decide +kernel
theorem dX3_init_14 : decode cX3_init 14 = .ok (.sipush 550, 3) := by decide +kernel
theorem dX3_init_17 : decode cX3_init 17 = .ok (.newarray .int, 2) := by decide +kernel
theorem dX3_init_19 : decode cX3_init 19 = .ok (.putfield 17, 3) := by decide +kernel
theorem dX3_init_22 : decode cX3_init 22 = .ok (.aload_n 0, 1) := by decide +kernel
theorem dX3_init_23 : decode cX3_init 23 = .ok (.sipush 550, 3) := by decide +kernel
theorem dX3_init_26 : decode cX3_init 26 = .ok (.newarray .int, 2) := by decide +kernel
theorem dX3_init_28 : decode cX3_init 28 = .ok (.putfield 20, 3) := by decide +kernel
theorem dX3_init_31 : decode cX3_init 31 = .ok (.aload_n 0, 1) := by decide +kernel
theorem dX3_init_32 : decode cX3_init 32 = .ok (.bipush 22, 2) := by decide +kernel
theorem dX3_init_34 : decode cX3_init 34 = .ok (.newarray .int, 2) := by decide +kernel
theorem dX3_init_36 : decode cX3_init 36 = .ok (.putfield 23, 3) := by decide +kernel
theorem dX3_init_39 : decode cX3_init 39 = .ok (.aload_n 0, 1) := by decide +kernel
theorem dX3_init_40 : decode cX3_init 40 = .ok (.bipush 44, 2) := by decide +kernel
theorem dX3_init_42 : decode cX3_init 42 = .ok (.newarray .int, 2) := by decide +kernel
theorem dX3_init_44 : decode cX3_init 44 = .ok (.putfield 26, 3) := by decide +kernel
theorem dX3_init_47 : decode cX3_init 47 = .ok (.aload_n 0, 1) := by decide +kernel
theorem dX3_init_48 : decode cX3_init 48 = .ok (.bipush 25, 2) := by decide +kernel
theorem dX3_init_50 : decode cX3_init 50 = .ok (.newarray .boolean, 2) := by decide +kernel
theorem dX3_init_52 : decode cX3_init 52 = .ok (.putfield 29, 3) := by decide +kernel
theorem dX3_init_55 : decode cX3_init 55 = .ok (.aload_n 0, 1) := by decide +kernel
theorem dX3_init_56 : decode cX3_init 56 = .ok (.bipush 25, 2) := by decide +kernel
theorem dX3_init_58 : decode cX3_init 58 = .ok (.newarray .boolean, 2) := by decide +kernel
theorem dX3_init_60 : decode cX3_init 60 = .ok (.putfield 33, 3) := by decide +kernel
theorem dX3_init_63 : decode cX3_init 63 = .ok (.aload_n 0, 1) := by decide +kernel
theorem dX3_init_64 : decode cX3_init 64 = .ok (.iconst (-1), 1) := by decide +kernel
theorem dX3_init_65 : decode cX3_init 65 = .ok (.putfield 36, 3) := by decide +kernel
theorem dX3_init_68 : decode cX3_init 68 = .ok (.aload_n 0, 1) := by decide +kernel
theorem dX3_init_69 : decode cX3_init 69 = .ok (.sipush 300, 3) := by decide +kernel
theorem dX3_init_72 : decode cX3_init 72 = .ok (.newarray .byte, 2) := by decide +kernel
theorem dX3_init_74 : decode cX3_init 74 = .ok (.putfield 39, 3) := by decide +kernel
theorem dX3_init_77 : decode cX3_init 77 = .ok (.aload_n 0, 1) := by decide +kernel
theorem dX3_init_78 : decode cX3_init 78 = .ok (.iload_n 1, 1) := by decide +kernel
theorem dX3_init_79 : decode cX3_init 79 = .ok (.iconst 1, 1) := by decide +kernel
theorem dX3_init_80 : decode cX3_init 80 = .ok (.if_icmp .ge 7, 3) := by decide +kernel
theorem dX3_init_83 : decode cX3_init 83 = .ok (.iconst 1, 1) := by decide +kernel
theorem dX3_init_84 : decode cX3_init 84 = .ok (.goto 15, 3) := by decide +kernel
theorem dX3_init_87 : decode cX3_init 87 = .ok (.iload_n 1, 1) := by decide +kernel
theorem dX3_init_88 : decode cX3_init 88 = .ok (.bipush 24, 2) := by decide +kernel
theorem dX3_init_90 : decode cX3_init 90 = .ok (.if_icmp .le 8, 3) := by decide +kernel
theorem dX3_init_93 : decode cX3_init 93 = .ok (.bipush 24, 2) := by decide +kernel
theorem dX3_init_95 : decode cX3_init 95 = .ok (.goto 4, 3) := by decide +kernel
theorem dX3_init_98 : decode cX3_init 98 = .ok (.iload_n 1, 1) := by decide +kernel
theorem dX3_init_99 : decode cX3_init 99 = .ok (.putfield 43, 3) := by decide +kernel
theorem dX3_init_102 : decode cX3_init 102 = .ok (.aload_n 0, 1) := by decide +kernel
theorem dX3_init_103 : decode cX3_init 103 = .ok (.iload_n 2, 1) := by decide +kernel
theorem dX3_init_104 : decode cX3_init 104 = .ok (.iconst 1, 1) := by decide +kernel
theorem dX3_init_105 : decode cX3_init 105 = .ok (.if_icmp .ge 7, 3) := by decide +kernel
theorem dX3_init_108 : decode cX3_init 108 = .ok (.iconst 1, 1) := by decide +kernel
theorem dX3_init_109 : decode cX3_init 109 = .ok (.goto 15, 3) := by decide +kernel
theorem dX3_init_112 : decode cX3_init 112 = .ok (.iload_n 2, 1) := by decide +kernel
theorem dX3_init_113 : decode cX3_init 113 = .ok (.bipush 20, 2) := by decide +kernel
theorem dX3_init_115 : decode cX3_init 115 = .ok (.if_icmp .le 8, 3) := by decide +kernel
theorem dX3_init_118 : decode cX3_init 118 = .ok (.bipush 20, 2) := by decide +kernel
theorem dX3_init_120 : decode cX3_init 120 = .ok (.goto 4, 3) := by decide +kernel
theorem dX3_init_123 : decode cX3_init 123 = .ok (.iload_n 2, 1) := by decide +kernel
theorem dX3_init_124 : decode cX3_init 124 = .ok (.putfield 46, 3) := by decide +kernel
theorem dX3_init_127 : decode cX3_init 127 = .ok (.aload_n 0, 1) := by decide +kernel
theorem dX3_init_128 : decode cX3_init 128 = .ok (.iload_n 3, 1) := by decide +kernel
theorem dX3_init_129 : decode cX3_init 129 = .ok (.iconst 1, 1) := by decide +kernel
theorem dX3_init_130 : decode cX3_init 130 = .ok (.if_icmp .ge 7, 3) := by decide +kernel
theorem dX3_init_133 : decode cX3_init 133 = .ok (.iconst 1, 1) := by decide +kernel
theorem dX3_init_134 : decode cX3_init 134 = .ok (.goto 15, 3) := by decide +kernel
theorem dX3_init_137 : decode cX3_init 137 = .ok (.iload_n 3, 1) := by decide +kernel
theorem dX3_init_138 : decode cX3_init 138 = .ok (.bipush 25, 2) := by decide +kernel
theorem dX3_init_140 : decode cX3_init 140 = .ok (.if_icmp .le 8, 3) := by decide +kernel
theorem dX3_init_143 : decode cX3_init 143 = .ok (.bipush 25, 2) := by decide +kernel
theorem dX3_init_145 : decode cX3_init 145 = .ok (.goto 4, 3) := by decide +kernel
theorem dX3_init_148 : decode cX3_init 148 = .ok (.iload_n 3, 1) := by decide +kernel
theorem dX3_init_149 : decode cX3_init 149 = .ok (.putfield 49, 3) := by decide +kernel
theorem dX3_init_152 : decode cX3_init 152 = .ok (.return_, 1) := by decide +kernel
theorem dX3_down_0 : decode cX3_down 0 = .ok (.aload_n 0, 1) := by decide +kernel
theorem dX3_down_1 : decode cX3_down 1 = .ok (.iconst 0, 1) := by decide +kernel
theorem dX3_down_2 : decode cX3_down 2 = .ok (.putfield 52, 3) := by decide +kernel
theorem dX3_down_5 : decode cX3_down 5 = .ok (.aload_n 0, 1) := by decide +kernel
theorem dX3_down_6 : decode cX3_down 6 = .ok (.invokevirtual 56, 3) := by decide +kernel
theorem dX3_down_9 : decode cX3_down 9 = .ok (.return_, 1) := by decide +kernel
theorem dX3_forget_0 : decode cX3_forget 0 = .ok (.iconst 0, 1) := by decide +kernel
theorem dX3_forget_1 : decode cX3_forget 1 = .ok (.istore_n 1, 1) := by decide +kernel
theorem dX3_forget_2 : decode cX3_forget 2 = .ok (.iload_n 1, 1) := by decide +kernel
theorem dX3_forget_3 : decode cX3_forget 3 = .ok (.bipush 22, 2) := by decide +kernel
theorem dX3_forget_5 : decode cX3_forget 5 = .ok (.if_icmp .ge 16, 3) := by decide +kernel
theorem dX3_forget_8 : decode cX3_forget 8 = .ok (.aload_n 0, 1) := by decide +kernel
theorem dX3_forget_9 : decode cX3_forget 9 = .ok (.getfield 23, 3) := by decide +kernel
theorem dX3_forget_12 : decode cX3_forget 12 = .ok (.iload_n 1, 1) := by decide +kernel
theorem dX3_forget_13 : decode cX3_forget 13 = .ok (.iconst 0, 1) := by decide +kernel
theorem dX3_forget_14 : decode cX3_forget 14 = .ok (.iastore, 1) := by decide +kernel
theorem dX3_forget_15 : decode cX3_forget 15 = .ok (.iinc 1 1, 3) := by decide +kernel
theorem dX3_forget_18 : decode cX3_forget 18 = .ok (.goto (-16), 3) := by decide +kernel
theorem dX3_forget_21 : decode cX3_forget 21 = .ok (.iconst 0, 1) := by decide +kernel
theorem dX3_forget_22 : decode cX3_forget 22 = .ok (.istore_n 1, 1) := by decide +kernel
theorem dX3_forget_23 : decode cX3_forget 23 = .ok (.iload_n 1, 1) := by decide +kernel
theorem dX3_forget_24 : decode cX3_forget 24 = .ok (.bipush 25, 2) := by decide +kernel
theorem dX3_forget_26 : decode cX3_forget 26 = .ok (.if_icmp .ge 16, 3) := by decide +kernel
theorem dX3_forget_29 : decode cX3_forget 29 = .ok (.aload_n 0, 1) := by decide +kernel
theorem dX3_forget_30 : decode cX3_forget 30 = .ok (.getfield 29, 3) := by decide +kernel
theorem dX3_forget_33 : decode cX3_forget 33 = .ok (.iload_n 1, 1) := by decide +kernel
theorem dX3_forget_34 : decode cX3_forget 34 = .ok (.iconst 0, 1) := by decide +kernel
theorem dX3_forget_35 : decode cX3_forget 35 = .ok (.bastore, 1) := by decide +kernel
theorem dX3_forget_36 : decode cX3_forget 36 = .ok (.iinc 1 1, 3) := by decide +kernel
theorem dX3_forget_39 : decode cX3_forget 39 = .ok (.goto (-16), 3) := by decide +kernel
theorem dX3_forget_42 : decode cX3_forget 42 = .ok (.iconst 0, 1) := by decide +kernel
theorem dX3_forget_43 : decode cX3_forget 43 = .ok (.istore_n 1, 1) := by decide +kernel
theorem dX3_forget_44 : decode cX3_forget 44 = .ok (.iload_n 1, 1) := by decide +kernel
theorem dX3_forget_45 : decode cX3_forget 45 = .ok (.sipush 550, 3) := by decide +kernel
theorem dX3_forget_48 : decode cX3_forget 48 = .ok (.if_icmp .ge 21, 3) := by decide +kernel
theorem dX3_forget_51 : decode cX3_forget 51 = .ok (.aload_n 0, 1) := by decide +kernel
theorem dX3_forget_52 : decode cX3_forget 52 = .ok (.getfield 13, 3) := by decide +kernel
theorem dX3_forget_55 : decode cX3_forget 55 = .ok (.iload_n 1, 1) := by decide +kernel
theorem dX3_forget_56 : decode cX3_forget 56 = .ok (.aload_n 0, 1) := by decide +kernel
theorem dX3_forget_57 : decode cX3_forget 57 = .ok (.getfield 17, 3) := by decide +kernel
theorem dX3_forget_60 : decode cX3_forget 60 = .ok (.iload_n 1, 1) := by decide +kernel
theorem dX3_forget_61 : decode cX3_forget 61 = .ok (.iaload, 1) := by decide +kernel
theorem dX3_forget_62 : decode cX3_forget 62 = .ok (.iastore, 1) := by decide +kernel
theorem dX3_forget_63 : decode cX3_forget 63 = .ok (.iinc 1 1, 3) := by decide +kernel
theorem dX3_forget_66 : decode cX3_forget 66 = .ok (.goto (-22), 3) := by decide +kernel
theorem dX3_forget_69 : decode cX3_forget 69 = .ok (.return_, 1) := by decide +kernel
theorem dX3_writes_0 : decode cX3_writes 0 = .ok (.aload_n 0, 1) := by decide +kernel
theorem dX3_writes_1 : decode cX3_writes 1 = .ok (.getfield 36, 3) := by decide +kernel
theorem dX3_writes_4 : decode cX3_writes 4 = .ok (.ifCond .ne 14, 3) := by decide +kernel
theorem dX3_writes_7 : decode cX3_writes 7 = .ok (.aload_n 0, 1) := by decide +kernel
theorem dX3_writes_8 : decode cX3_writes 8 = .ok (.iconst (-1), 1) := by decide +kernel
theorem dX3_writes_9 : decode cX3_writes 9 = .ok (.putfield 36, 3) := by decide +kernel
theorem dX3_writes_12 : decode cX3_writes 12 = .ok (.aload_n 0, 1) := by decide +kernel
theorem dX3_writes_13 : decode cX3_writes 13 = .ok (.invokevirtual 59, 3) := by decide +kernel
theorem dX3_writes_16 : decode cX3_writes 16 = .ok (.iconst 0, 1) := by decide +kernel
theorem dX3_writes_17 : decode cX3_writes 17 = .ok (.ireturn, 1) := by decide +kernel
theorem dX3_writes_18 : decode cX3_writes 18 = .ok (.aload_n 0, 1) := by decide +kernel
theorem dX3_writes_19 : decode cX3_writes 19 = .ok (.getfield 36, 3) := by decide +kernel
theorem dX3_writes_22 : decode cX3_writes 22 = .ok (.ifCond .le 13, 3) := by decide +kernel
theorem dX3_writes_25 : decode cX3_writes 25 = .ok (.aload_n 0, 1) := by decide +kernel
theorem dX3_writes_26 : decode cX3_writes 26 = .ok (.dup, 1) := by decide +kernel
theorem dX3_writes_27 : decode cX3_writes 27 = .ok (.getfield 36, 3) := by decide +kernel
theorem dX3_writes_30 : decode cX3_writes 30 = .ok (.iconst 1, 1) := by decide +kernel
theorem dX3_writes_31 : decode cX3_writes 31 = .ok (.isub, 1) := by decide +kernel
theorem dX3_writes_32 : decode cX3_writes 32 = .ok (.putfield 36, 3) := by decide +kernel
theorem dX3_writes_35 : decode cX3_writes 35 = .ok (.aload_n 0, 1) := by decide +kernel
theorem dX3_writes_36 : decode cX3_writes 36 = .ok (.dup, 1) := by decide +kernel
theorem dX3_writes_37 : decode cX3_writes 37 = .ok (.getfield 62, 3) := by decide +kernel
theorem dX3_writes_40 : decode cX3_writes 40 = .ok (.iconst 1, 1) := by decide +kernel
theorem dX3_writes_41 : decode cX3_writes 41 = .ok (.iadd, 1) := by decide +kernel
theorem dX3_writes_42 : decode cX3_writes 42 = .ok (.putfield 62, 3) := by decide +kernel
theorem dX3_writes_45 : decode cX3_writes 45 = .ok (.iconst 1, 1) := by decide +kernel
theorem dX3_writes_46 : decode cX3_writes 46 = .ok (.ireturn, 1) := by decide +kernel
theorem dX3_emptyLog_0 : decode cX3_emptyLog 0 = .ok (.aload_n 0, 1) := by decide +kernel
theorem dX3_emptyLog_1 : decode cX3_emptyLog 1 = .ok (.invokevirtual 65, 3) := by decide +kernel
theorem dX3_emptyLog_4 : decode cX3_emptyLog 4 = .ok (.ifCond .ne 5, 3) := by decide +kernel
theorem dX3_emptyLog_7 : decode cX3_emptyLog 7 = .ok (.iconst 0, 1) := by decide +kernel
theorem dX3_emptyLog_8 : decode cX3_emptyLog 8 = .ok (.ireturn, 1) := by decide +kernel
theorem dX3_emptyLog_9 : decode cX3_emptyLog 9 = .ok (.aload_n 0, 1) := by decide +kernel
theorem dX3_emptyLog_10 : decode cX3_emptyLog 10 = .ok (.iconst 0, 1) := by decide +kernel
theorem dX3_emptyLog_11 : decode cX3_emptyLog 11 = .ok (.putfield 68, 3) := by decide +kernel
theorem dX3_emptyLog_14 : decode cX3_emptyLog 14 = .ok (.iconst 1, 1) := by decide +kernel
theorem dX3_emptyLog_15 : decode cX3_emptyLog 15 = .ok (.ireturn, 1) := by decide +kernel
theorem dX3_goHome_0 : decode cX3_goHome 0 = .ok (.iconst 0, 1) := by decide +kernel
theorem dX3_goHome_1 : decode cX3_goHome 1 = .ok (.istore_n 1, 1) := by decide +kernel
theorem dX3_goHome_2 : decode cX3_goHome 2 = .ok (.iload_n 1, 1) := by decide +kernel
theorem dX3_goHome_3 : decode cX3_goHome 3 = .ok (.bipush 25, 2) := by decide +kernel
theorem dX3_goHome_5 : decode cX3_goHome 5 = .ok (.if_icmp .ge 66, 3) := by decide +kernel
theorem dX3_goHome_8 : decode cX3_goHome 8 = .ok (.aload_n 0, 1) := by decide +kernel
theorem dX3_goHome_9 : decode cX3_goHome 9 = .ok (.getfield 33, 3) := by decide +kernel
theorem dX3_goHome_12 : decode cX3_goHome 12 = .ok (.iload_n 1, 1) := by decide +kernel
theorem dX3_goHome_13 : decode cX3_goHome 13 = .ok (.baload, 1) := by decide +kernel
theorem dX3_goHome_14 : decode cX3_goHome 14 = .ok (.ifCond .ne 6, 3) := by decide +kernel
theorem dX3_goHome_17 : decode cX3_goHome 17 = .ok (.goto 48, 3) := by decide +kernel
theorem dX3_goHome_20 : decode cX3_goHome 20 = .ok (.aload_n 0, 1) := by decide +kernel
theorem dX3_goHome_21 : decode cX3_goHome 21 = .ok (.invokevirtual 65, 3) := by decide +kernel
theorem dX3_goHome_24 : decode cX3_goHome 24 = .ok (.ifCond .ne 5, 3) := by decide +kernel
theorem dX3_goHome_27 : decode cX3_goHome 27 = .ok (.iconst 0, 1) := by decide +kernel
theorem dX3_goHome_28 : decode cX3_goHome 28 = .ok (.ireturn, 1) := by decide +kernel
theorem dX3_goHome_29 : decode cX3_goHome 29 = .ok (.iconst 0, 1) := by decide +kernel
theorem dX3_goHome_30 : decode cX3_goHome 30 = .ok (.istore_n 2, 1) := by decide +kernel
theorem dX3_goHome_31 : decode cX3_goHome 31 = .ok (.iload_n 2, 1) := by decide +kernel
theorem dX3_goHome_32 : decode cX3_goHome 32 = .ok (.bipush 22, 2) := by decide +kernel
theorem dX3_goHome_34 : decode cX3_goHome 34 = .ok (.if_icmp .ge 31, 3) := by decide +kernel
theorem dX3_goHome_37 : decode cX3_goHome 37 = .ok (.aload_n 0, 1) := by decide +kernel
theorem dX3_goHome_38 : decode cX3_goHome 38 = .ok (.getfield 17, 3) := by decide +kernel
theorem dX3_goHome_41 : decode cX3_goHome 41 = .ok (.bipush 22, 2) := by decide +kernel
theorem dX3_goHome_43 : decode cX3_goHome 43 = .ok (.iload_n 1, 1) := by decide +kernel
theorem dX3_goHome_44 : decode cX3_goHome 44 = .ok (.imul, 1) := by decide +kernel
theorem dX3_goHome_45 : decode cX3_goHome 45 = .ok (.iload_n 2, 1) := by decide +kernel
theorem dX3_goHome_46 : decode cX3_goHome 46 = .ok (.iadd, 1) := by decide +kernel
theorem dX3_goHome_47 : decode cX3_goHome 47 = .ok (.aload_n 0, 1) := by decide +kernel
theorem dX3_goHome_48 : decode cX3_goHome 48 = .ok (.getfield 20, 3) := by decide +kernel
theorem dX3_goHome_51 : decode cX3_goHome 51 = .ok (.bipush 22, 2) := by decide +kernel
theorem dX3_goHome_53 : decode cX3_goHome 53 = .ok (.iload_n 1, 1) := by decide +kernel
theorem dX3_goHome_54 : decode cX3_goHome 54 = .ok (.imul, 1) := by decide +kernel
theorem dX3_goHome_55 : decode cX3_goHome 55 = .ok (.iload_n 2, 1) := by decide +kernel
theorem dX3_goHome_56 : decode cX3_goHome 56 = .ok (.iadd, 1) := by decide +kernel
theorem dX3_goHome_57 : decode cX3_goHome 57 = .ok (.iaload, 1) := by decide +kernel
theorem dX3_goHome_58 : decode cX3_goHome 58 = .ok (.iastore, 1) := by decide +kernel
theorem dX3_goHome_59 : decode cX3_goHome 59 = .ok (.iinc 2 1, 3) := by decide +kernel
theorem dX3_goHome_62 : decode cX3_goHome 62 = .ok (.goto (-31), 3) := by decide +kernel
theorem dX3_goHome_65 : decode cX3_goHome 65 = .ok (.iinc 1 1, 3) := by decide +kernel
theorem dX3_goHome_68 : decode cX3_goHome 68 = .ok (.goto (-66), 3) := by decide +kernel
theorem dX3_goHome_71 : decode cX3_goHome 71 = .ok (.aload_n 0, 1) := by decide +kernel
theorem dX3_goHome_72 : decode cX3_goHome 72 = .ok (.invokevirtual 71, 3) := by decide +kernel
theorem dX3_goHome_75 : decode cX3_goHome 75 = .ok (.ireturn, 1) := by decide +kernel
theorem dX3_format_0 : decode cX3_format 0 = .ok (.aload_n 0, 1) := by decide +kernel
theorem dX3_format_1 : decode cX3_format 1 = .ok (.iconst 0, 1) := by decide +kernel
theorem dX3_format_2 : decode cX3_format 2 = .ok (.putfield 1, 3) := by decide +kernel
theorem dX3_format_5 : decode cX3_format 5 = .ok (.aload_n 0, 1) := by decide +kernel
theorem dX3_format_6 : decode cX3_format 6 = .ok (.invokevirtual 65, 3) := by decide +kernel
theorem dX3_format_9 : decode cX3_format 9 = .ok (.ifCond .ne 5, 3) := by decide +kernel
theorem dX3_format_12 : decode cX3_format 12 = .ok (.iconst 0, 1) := by decide +kernel
theorem dX3_format_13 : decode cX3_format 13 = .ok (.ireturn, 1) := by decide +kernel
theorem dX3_format_14 : decode cX3_format 14 = .ok (.aload_n 0, 1) := by decide +kernel
theorem dX3_format_15 : decode cX3_format 15 = .ok (.iconst 0, 1) := by decide +kernel
theorem dX3_format_16 : decode cX3_format 16 = .ok (.putfield 74, 3) := by decide +kernel
theorem dX3_format_19 : decode cX3_format 19 = .ok (.aload_n 0, 1) := by decide +kernel
theorem dX3_format_20 : decode cX3_format 20 = .ok (.invokevirtual 71, 3) := by decide +kernel
theorem dX3_format_23 : decode cX3_format 23 = .ok (.ifCond .ne 5, 3) := by decide +kernel
theorem dX3_format_26 : decode cX3_format 26 = .ok (.iconst 0, 1) := by decide +kernel
theorem dX3_format_27 : decode cX3_format 27 = .ok (.ireturn, 1) := by decide +kernel
theorem dX3_format_28 : decode cX3_format 28 = .ok (.iconst 0, 1) := by decide +kernel
theorem dX3_format_29 : decode cX3_format 29 = .ok (.istore_n 1, 1) := by decide +kernel
theorem dX3_format_30 : decode cX3_format 30 = .ok (.iload_n 1, 1) := by decide +kernel
theorem dX3_format_31 : decode cX3_format 31 = .ok (.bipush 25, 2) := by decide +kernel
theorem dX3_format_33 : decode cX3_format 33 = .ok (.if_icmp .ge 61, 3) := by decide +kernel
theorem dX3_format_36 : decode cX3_format 36 = .ok (.iload_n 1, 1) := by decide +kernel
theorem dX3_format_37 : decode cX3_format 37 = .ok (.aload_n 0, 1) := by decide +kernel
theorem dX3_format_38 : decode cX3_format 38 = .ok (.getfield 43, 3) := by decide +kernel
theorem dX3_format_41 : decode cX3_format 41 = .ok (.if_icmp .lt 12, 3) := by decide +kernel
theorem dX3_format_44 : decode cX3_format 44 = .ok (.iload_n 1, 1) := by decide +kernel
theorem dX3_format_45 : decode cX3_format 45 = .ok (.bipush 24, 2) := by decide +kernel
theorem dX3_format_47 : decode cX3_format 47 = .ok (.if_icmp .ge 6, 3) := by decide +kernel
theorem dX3_format_50 : decode cX3_format 50 = .ok (.goto 38, 3) := by decide +kernel
theorem dX3_format_53 : decode cX3_format 53 = .ok (.aload_n 0, 1) := by decide +kernel
theorem dX3_format_54 : decode cX3_format 54 = .ok (.invokevirtual 65, 3) := by decide +kernel
theorem dX3_format_57 : decode cX3_format 57 = .ok (.ifCond .ne 5, 3) := by decide +kernel
theorem dX3_format_60 : decode cX3_format 60 = .ok (.iconst 0, 1) := by decide +kernel
theorem dX3_format_61 : decode cX3_format 61 = .ok (.ireturn, 1) := by decide +kernel
theorem dX3_format_62 : decode cX3_format 62 = .ok (.iconst 0, 1) := by decide +kernel
theorem dX3_format_63 : decode cX3_format 63 = .ok (.istore_n 2, 1) := by decide +kernel
theorem dX3_format_64 : decode cX3_format 64 = .ok (.iload_n 2, 1) := by decide +kernel
theorem dX3_format_65 : decode cX3_format 65 = .ok (.bipush 22, 2) := by decide +kernel
theorem dX3_format_67 : decode cX3_format 67 = .ok (.if_icmp .ge 21, 3) := by decide +kernel
theorem dX3_format_70 : decode cX3_format 70 = .ok (.aload_n 0, 1) := by decide +kernel
theorem dX3_format_71 : decode cX3_format 71 = .ok (.getfield 17, 3) := by decide +kernel
theorem dX3_format_74 : decode cX3_format 74 = .ok (.bipush 22, 2) := by decide +kernel
theorem dX3_format_76 : decode cX3_format 76 = .ok (.iload_n 1, 1) := by decide +kernel
theorem dX3_format_77 : decode cX3_format 77 = .ok (.imul, 1) := by decide +kernel
theorem dX3_format_78 : decode cX3_format 78 = .ok (.iload_n 2, 1) := by decide +kernel
theorem dX3_format_79 : decode cX3_format 79 = .ok (.iadd, 1) := by decide +kernel
theorem dX3_format_80 : decode cX3_format 80 = .ok (.iconst 0, 1) := by decide +kernel
theorem dX3_format_81 : decode cX3_format 81 = .ok (.iastore, 1) := by decide +kernel
theorem dX3_format_82 : decode cX3_format 82 = .ok (.iinc 2 1, 3) := by decide +kernel
theorem dX3_format_85 : decode cX3_format 85 = .ok (.goto (-21), 3) := by decide +kernel
theorem dX3_format_88 : decode cX3_format 88 = .ok (.iinc 1 1, 3) := by decide +kernel
theorem dX3_format_91 : decode cX3_format 91 = .ok (.goto (-61), 3) := by decide +kernel
theorem dX3_format_94 : decode cX3_format 94 = .ok (.aload_n 0, 1) := by decide +kernel
theorem dX3_format_95 : decode cX3_format 95 = .ok (.invokevirtual 65, 3) := by decide +kernel
theorem dX3_format_98 : decode cX3_format 98 = .ok (.ifCond .ne 5, 3) := by decide +kernel
theorem dX3_format_101 : decode cX3_format 101 = .ok (.iconst 0, 1) := by decide +kernel
theorem dX3_format_102 : decode cX3_format 102 = .ok (.ireturn, 1) := by decide +kernel
theorem dX3_format_103 : decode cX3_format 103 = .ok (.aload_n 0, 1) := by decide +kernel
theorem dX3_format_104 : decode cX3_format 104 = .ok (.iconst 1, 1) := by decide +kernel
theorem dX3_format_105 : decode cX3_format 105 = .ok (.putfield 74, 3) := by decide +kernel
theorem dX3_format_108 : decode cX3_format 108 = .ok (.aload_n 0, 1) := by decide +kernel
theorem dX3_format_109 : decode cX3_format 109 = .ok (.invokevirtual 56, 3) := by decide +kernel
theorem dX3_format_112 : decode cX3_format 112 = .ok (.aload_n 0, 1) := by decide +kernel
theorem dX3_format_113 : decode cX3_format 113 = .ok (.iconst 1, 1) := by decide +kernel
theorem dX3_format_114 : decode cX3_format 114 = .ok (.putfield 52, 3) := by decide +kernel
theorem dX3_format_117 : decode cX3_format 117 = .ok (.iconst 1, 1) := by decide +kernel
theorem dX3_format_118 : decode cX3_format 118 = .ok (.ireturn, 1) := by decide +kernel
theorem dX3_commit_0 : decode cX3_commit 0 = .ok (.aload_n 0, 1) := by decide +kernel
theorem dX3_commit_1 : decode cX3_commit 1 = .ok (.iconst 0, 1) := by decide +kernel
theorem dX3_commit_2 : decode cX3_commit 2 = .ok (.putfield 1, 3) := by decide +kernel
theorem dX3_commit_5 : decode cX3_commit 5 = .ok (.aload_n 0, 1) := by decide +kernel
theorem dX3_commit_6 : decode cX3_commit 6 = .ok (.getfield 52, 3) := by decide +kernel
theorem dX3_commit_9 : decode cX3_commit 9 = .ok (.ifCond .ne 6, 3) := by decide +kernel
theorem dX3_commit_12 : decode cX3_commit 12 = .ok (.bipush 6, 2) := by decide +kernel
theorem dX3_commit_14 : decode cX3_commit 14 = .ok (.ireturn, 1) := by decide +kernel
theorem dX3_commit_15 : decode cX3_commit 15 = .ok (.aload_n 0, 1) := by decide +kernel
theorem dX3_commit_16 : decode cX3_commit 16 = .ok (.invokevirtual 77, 3) := by decide +kernel
theorem dX3_commit_19 : decode cX3_commit 19 = .ok (.ifCond .ne 5, 3) := by decide +kernel
theorem dX3_commit_22 : decode cX3_commit 22 = .ok (.iconst 0, 1) := by decide +kernel
theorem dX3_commit_23 : decode cX3_commit 23 = .ok (.ireturn, 1) := by decide +kernel
theorem dX3_commit_24 : decode cX3_commit 24 = .ok (.iconst 0, 1) := by decide +kernel
theorem dX3_commit_25 : decode cX3_commit 25 = .ok (.istore_n 1, 1) := by decide +kernel
theorem dX3_commit_26 : decode cX3_commit 26 = .ok (.iload_n 1, 1) := by decide +kernel
theorem dX3_commit_27 : decode cX3_commit 27 = .ok (.bipush 25, 2) := by decide +kernel
theorem dX3_commit_29 : decode cX3_commit 29 = .ok (.if_icmp .ge 16, 3) := by decide +kernel
theorem dX3_commit_32 : decode cX3_commit 32 = .ok (.aload_n 0, 1) := by decide +kernel
theorem dX3_commit_33 : decode cX3_commit 33 = .ok (.getfield 33, 3) := by decide +kernel
theorem dX3_commit_36 : decode cX3_commit 36 = .ok (.iload_n 1, 1) := by decide +kernel
theorem dX3_commit_37 : decode cX3_commit 37 = .ok (.iconst 0, 1) := by decide +kernel
theorem dX3_commit_38 : decode cX3_commit 38 = .ok (.bastore, 1) := by decide +kernel
theorem dX3_commit_39 : decode cX3_commit 39 = .ok (.iinc 1 1, 3) := by decide +kernel
theorem dX3_commit_42 : decode cX3_commit 42 = .ok (.goto (-16), 3) := by decide +kernel
theorem dX3_commit_45 : decode cX3_commit 45 = .ok (.iconst 0, 1) := by decide +kernel
theorem dX3_commit_46 : decode cX3_commit 46 = .ok (.istore_n 1, 1) := by decide +kernel
theorem dX3_commit_47 : decode cX3_commit 47 = .ok (.iload_n 1, 1) := by decide +kernel
theorem dX3_commit_48 : decode cX3_commit 48 = .ok (.bipush 25, 2) := by decide +kernel
theorem dX3_commit_50 : decode cX3_commit 50 = .ok (.if_icmp .ge 74, 3) := by decide +kernel
theorem dX3_commit_53 : decode cX3_commit 53 = .ok (.aload_n 0, 1) := by decide +kernel
theorem dX3_commit_54 : decode cX3_commit 54 = .ok (.getfield 29, 3) := by decide +kernel
theorem dX3_commit_57 : decode cX3_commit 57 = .ok (.iload_n 1, 1) := by decide +kernel
theorem dX3_commit_58 : decode cX3_commit 58 = .ok (.baload, 1) := by decide +kernel
theorem dX3_commit_59 : decode cX3_commit 59 = .ok (.ifCond .ne 6, 3) := by decide +kernel
theorem dX3_commit_62 : decode cX3_commit 62 = .ok (.goto 56, 3) := by decide +kernel
theorem dX3_commit_65 : decode cX3_commit 65 = .ok (.aload_n 0, 1) := by decide +kernel
theorem dX3_commit_66 : decode cX3_commit 66 = .ok (.invokevirtual 65, 3) := by decide +kernel
theorem dX3_commit_69 : decode cX3_commit 69 = .ok (.ifCond .ne 6, 3) := by decide +kernel
theorem dX3_commit_72 : decode cX3_commit 72 = .ok (.bipush 6, 2) := by decide +kernel
theorem dX3_commit_74 : decode cX3_commit 74 = .ok (.ireturn, 1) := by decide +kernel
theorem dX3_commit_75 : decode cX3_commit 75 = .ok (.aload_n 0, 1) := by decide +kernel
theorem dX3_commit_76 : decode cX3_commit 76 = .ok (.getfield 33, 3) := by decide +kernel
theorem dX3_commit_79 : decode cX3_commit 79 = .ok (.iload_n 1, 1) := by decide +kernel
theorem dX3_commit_80 : decode cX3_commit 80 = .ok (.iconst 1, 1) := by decide +kernel
theorem dX3_commit_81 : decode cX3_commit 81 = .ok (.bastore, 1) := by decide +kernel
theorem dX3_commit_82 : decode cX3_commit 82 = .ok (.iconst 0, 1) := by decide +kernel
theorem dX3_commit_83 : decode cX3_commit 83 = .ok (.istore_n 2, 1) := by decide +kernel
theorem dX3_commit_84 : decode cX3_commit 84 = .ok (.iload_n 2, 1) := by decide +kernel
theorem dX3_commit_85 : decode cX3_commit 85 = .ok (.bipush 22, 2) := by decide +kernel
theorem dX3_commit_87 : decode cX3_commit 87 = .ok (.if_icmp .ge 31, 3) := by decide +kernel
theorem dX3_commit_90 : decode cX3_commit 90 = .ok (.aload_n 0, 1) := by decide +kernel
theorem dX3_commit_91 : decode cX3_commit 91 = .ok (.getfield 20, 3) := by decide +kernel
theorem dX3_commit_94 : decode cX3_commit 94 = .ok (.bipush 22, 2) := by decide +kernel
theorem dX3_commit_96 : decode cX3_commit 96 = .ok (.iload_n 1, 1) := by decide +kernel
theorem dX3_commit_97 : decode cX3_commit 97 = .ok (.imul, 1) := by decide +kernel
theorem dX3_commit_98 : decode cX3_commit 98 = .ok (.iload_n 2, 1) := by decide +kernel
theorem dX3_commit_99 : decode cX3_commit 99 = .ok (.iadd, 1) := by decide +kernel
theorem dX3_commit_100 : decode cX3_commit 100 = .ok (.aload_n 0, 1) := by decide +kernel
theorem dX3_commit_101 : decode cX3_commit 101 = .ok (.getfield 13, 3) := by decide +kernel
theorem dX3_commit_104 : decode cX3_commit 104 = .ok (.bipush 22, 2) := by decide +kernel
theorem dX3_commit_106 : decode cX3_commit 106 = .ok (.iload_n 1, 1) := by decide +kernel
theorem dX3_commit_107 : decode cX3_commit 107 = .ok (.imul, 1) := by decide +kernel
theorem dX3_commit_108 : decode cX3_commit 108 = .ok (.iload_n 2, 1) := by decide +kernel
theorem dX3_commit_109 : decode cX3_commit 109 = .ok (.iadd, 1) := by decide +kernel
theorem dX3_commit_110 : decode cX3_commit 110 = .ok (.iaload, 1) := by decide +kernel
theorem dX3_commit_111 : decode cX3_commit 111 = .ok (.iastore, 1) := by decide +kernel
theorem dX3_commit_112 : decode cX3_commit 112 = .ok (.iinc 2 1, 3) := by decide +kernel
theorem dX3_commit_115 : decode cX3_commit 115 = .ok (.goto (-31), 3) := by decide +kernel
theorem dX3_commit_118 : decode cX3_commit 118 = .ok (.iinc 1 1, 3) := by decide +kernel
theorem dX3_commit_121 : decode cX3_commit 121 = .ok (.goto (-74), 3) := by decide +kernel
theorem dX3_commit_124 : decode cX3_commit 124 = .ok (.aload_n 0, 1) := by decide +kernel
theorem dX3_commit_125 : decode cX3_commit 125 = .ok (.invokevirtual 65, 3) := by decide +kernel
theorem dX3_commit_128 : decode cX3_commit 128 = .ok (.ifCond .ne 6, 3) := by decide +kernel
theorem dX3_commit_131 : decode cX3_commit 131 = .ok (.bipush 6, 2) := by decide +kernel
theorem dX3_commit_133 : decode cX3_commit 133 = .ok (.ireturn, 1) := by decide +kernel
theorem dX3_commit_134 : decode cX3_commit 134 = .ok (.aload_n 0, 1) := by decide +kernel
theorem dX3_commit_135 : decode cX3_commit 135 = .ok (.iconst 1, 1) := by decide +kernel
theorem dX3_commit_136 : decode cX3_commit 136 = .ok (.putfield 68, 3) := by decide +kernel
theorem dX3_commit_139 : decode cX3_commit 139 = .ok (.aload_n 0, 1) := by decide +kernel
theorem dX3_commit_140 : decode cX3_commit 140 = .ok (.invokevirtual 81, 3) := by decide +kernel
theorem dX3_commit_143 : decode cX3_commit 143 = .ok (.ifCond .ne 6, 3) := by decide +kernel
theorem dX3_commit_146 : decode cX3_commit 146 = .ok (.bipush 6, 2) := by decide +kernel
theorem dX3_commit_148 : decode cX3_commit 148 = .ok (.ireturn, 1) := by decide +kernel
theorem dX3_commit_149 : decode cX3_commit 149 = .ok (.iconst 0, 1) := by decide +kernel
theorem dX3_commit_150 : decode cX3_commit 150 = .ok (.istore_n 1, 1) := by decide +kernel
theorem dX3_commit_151 : decode cX3_commit 151 = .ok (.iload_n 1, 1) := by decide +kernel
theorem dX3_commit_152 : decode cX3_commit 152 = .ok (.bipush 25, 2) := by decide +kernel
theorem dX3_commit_154 : decode cX3_commit 154 = .ok (.if_icmp .ge 16, 3) := by decide +kernel
theorem dX3_commit_157 : decode cX3_commit 157 = .ok (.aload_n 0, 1) := by decide +kernel
theorem dX3_commit_158 : decode cX3_commit 158 = .ok (.getfield 29, 3) := by decide +kernel
theorem dX3_commit_161 : decode cX3_commit 161 = .ok (.iload_n 1, 1) := by decide +kernel
theorem dX3_commit_162 : decode cX3_commit 162 = .ok (.iconst 0, 1) := by decide +kernel
theorem dX3_commit_163 : decode cX3_commit 163 = .ok (.bastore, 1) := by decide +kernel
theorem dX3_commit_164 : decode cX3_commit 164 = .ok (.iinc 1 1, 3) := by decide +kernel
theorem dX3_commit_167 : decode cX3_commit 167 = .ok (.goto (-16), 3) := by decide +kernel
theorem dX3_commit_170 : decode cX3_commit 170 = .ok (.iconst 0, 1) := by decide +kernel
theorem dX3_commit_171 : decode cX3_commit 171 = .ok (.ireturn, 1) := by decide +kernel
theorem dX3_recover_0 : decode cX3_recover 0 = .ok (.aload_n 0, 1) := by decide +kernel
theorem dX3_recover_1 : decode cX3_recover 1 = .ok (.iconst 0, 1) := by decide +kernel
theorem dX3_recover_2 : decode cX3_recover 2 = .ok (.putfield 1, 3) := by decide +kernel
theorem dX3_recover_5 : decode cX3_recover 5 = .ok (.aload_n 0, 1) := by decide +kernel
theorem dX3_recover_6 : decode cX3_recover 6 = .ok (.getfield 74, 3) := by decide +kernel
theorem dX3_recover_9 : decode cX3_recover 9 = .ok (.ifCond .ne 9, 3) := by decide +kernel
theorem dX3_recover_12 : decode cX3_recover 12 = .ok (.aload_n 0, 1) := by decide +kernel
theorem dX3_recover_13 : decode cX3_recover 13 = .ok (.invokevirtual 59, 3) := by decide +kernel
theorem dX3_recover_16 : decode cX3_recover 16 = .ok (.iconst 0, 1) := by decide +kernel
theorem dX3_recover_17 : decode cX3_recover 17 = .ok (.ireturn, 1) := by decide +kernel
theorem dX3_recover_18 : decode cX3_recover 18 = .ok (.aload_n 0, 1) := by decide +kernel
theorem dX3_recover_19 : decode cX3_recover 19 = .ok (.getfield 68, 3) := by decide +kernel
theorem dX3_recover_22 : decode cX3_recover 22 = .ok (.ifCond .eq 12, 3) := by decide +kernel
theorem dX3_recover_25 : decode cX3_recover 25 = .ok (.aload_n 0, 1) := by decide +kernel
theorem dX3_recover_26 : decode cX3_recover 26 = .ok (.invokevirtual 81, 3) := by decide +kernel
theorem dX3_recover_29 : decode cX3_recover 29 = .ok (.ifCond .ne 5, 3) := by decide +kernel
theorem dX3_recover_32 : decode cX3_recover 32 = .ok (.iconst 0, 1) := by decide +kernel
theorem dX3_recover_33 : decode cX3_recover 33 = .ok (.ireturn, 1) := by decide +kernel
theorem dX3_recover_34 : decode cX3_recover 34 = .ok (.aload_n 0, 1) := by decide +kernel
theorem dX3_recover_35 : decode cX3_recover 35 = .ok (.invokevirtual 56, 3) := by decide +kernel
theorem dX3_recover_38 : decode cX3_recover 38 = .ok (.aload_n 0, 1) := by decide +kernel
theorem dX3_recover_39 : decode cX3_recover 39 = .ok (.iconst 1, 1) := by decide +kernel
theorem dX3_recover_40 : decode cX3_recover 40 = .ok (.putfield 52, 3) := by decide +kernel
theorem dX3_recover_43 : decode cX3_recover 43 = .ok (.iconst 1, 1) := by decide +kernel
theorem dX3_recover_44 : decode cX3_recover 44 = .ok (.ireturn, 1) := by decide +kernel
theorem dX3_abort_0 : decode cX3_abort 0 = .ok (.aload_n 0, 1) := by decide +kernel
theorem dX3_abort_1 : decode cX3_abort 1 = .ok (.iconst 0, 1) := by decide +kernel
theorem dX3_abort_2 : decode cX3_abort 2 = .ok (.putfield 1, 3) := by decide +kernel
theorem dX3_abort_5 : decode cX3_abort 5 = .ok (.aload_n 0, 1) := by decide +kernel
theorem dX3_abort_6 : decode cX3_abort 6 = .ok (.getfield 52, 3) := by decide +kernel
theorem dX3_abort_9 : decode cX3_abort 9 = .ok (.ifCond .ne 5, 3) := by decide +kernel
theorem dX3_abort_12 : decode cX3_abort 12 = .ok (.iconst 0, 1) := by decide +kernel
theorem dX3_abort_13 : decode cX3_abort 13 = .ok (.ireturn, 1) := by decide +kernel
theorem dX3_abort_14 : decode cX3_abort 14 = .ok (.iconst 0, 1) := by decide +kernel
theorem dX3_abort_15 : decode cX3_abort 15 = .ok (.istore_n 1, 1) := by decide +kernel
theorem dX3_abort_16 : decode cX3_abort 16 = .ok (.iload_n 1, 1) := by decide +kernel
theorem dX3_abort_17 : decode cX3_abort 17 = .ok (.bipush 25, 2) := by decide +kernel
theorem dX3_abort_19 : decode cX3_abort 19 = .ok (.if_icmp .ge 16, 3) := by decide +kernel
theorem dX3_abort_22 : decode cX3_abort 22 = .ok (.aload_n 0, 1) := by decide +kernel
theorem dX3_abort_23 : decode cX3_abort 23 = .ok (.getfield 29, 3) := by decide +kernel
theorem dX3_abort_26 : decode cX3_abort 26 = .ok (.iload_n 1, 1) := by decide +kernel
theorem dX3_abort_27 : decode cX3_abort 27 = .ok (.iconst 0, 1) := by decide +kernel
theorem dX3_abort_28 : decode cX3_abort 28 = .ok (.bastore, 1) := by decide +kernel
theorem dX3_abort_29 : decode cX3_abort 29 = .ok (.iinc 1 1, 3) := by decide +kernel
theorem dX3_abort_32 : decode cX3_abort 32 = .ok (.goto (-16), 3) := by decide +kernel
theorem dX3_abort_35 : decode cX3_abort 35 = .ok (.iconst 0, 1) := by decide +kernel
theorem dX3_abort_36 : decode cX3_abort 36 = .ok (.istore_n 1, 1) := by decide +kernel
theorem dX3_abort_37 : decode cX3_abort 37 = .ok (.iload_n 1, 1) := by decide +kernel
theorem dX3_abort_38 : decode cX3_abort 38 = .ok (.sipush 550, 3) := by decide +kernel
theorem dX3_abort_41 : decode cX3_abort 41 = .ok (.if_icmp .ge 21, 3) := by decide +kernel
theorem dX3_abort_44 : decode cX3_abort 44 = .ok (.aload_n 0, 1) := by decide +kernel
theorem dX3_abort_45 : decode cX3_abort 45 = .ok (.getfield 13, 3) := by decide +kernel
theorem dX3_abort_48 : decode cX3_abort 48 = .ok (.iload_n 1, 1) := by decide +kernel
theorem dX3_abort_49 : decode cX3_abort 49 = .ok (.aload_n 0, 1) := by decide +kernel
theorem dX3_abort_50 : decode cX3_abort 50 = .ok (.getfield 17, 3) := by decide +kernel
theorem dX3_abort_53 : decode cX3_abort 53 = .ok (.iload_n 1, 1) := by decide +kernel
theorem dX3_abort_54 : decode cX3_abort 54 = .ok (.iaload, 1) := by decide +kernel
theorem dX3_abort_55 : decode cX3_abort 55 = .ok (.iastore, 1) := by decide +kernel
theorem dX3_abort_56 : decode cX3_abort 56 = .ok (.iinc 1 1, 3) := by decide +kernel
theorem dX3_abort_59 : decode cX3_abort 59 = .ok (.goto (-22), 3) := by decide +kernel
theorem dX3_abort_62 : decode cX3_abort 62 = .ok (.iconst 1, 1) := by decide +kernel
theorem dX3_abort_63 : decode cX3_abort 63 = .ok (.ireturn, 1) := by decide +kernel
theorem dX3_stopAfter_0 : decode cX3_stopAfter 0 = .ok (.aload_n 0, 1) := by decide +kernel
theorem dX3_stopAfter_1 : decode cX3_stopAfter 1 = .ok (.iconst 0, 1) := by decide +kernel
theorem dX3_stopAfter_2 : decode cX3_stopAfter 2 = .ok (.putfield 1, 3) := by decide +kernel
theorem dX3_stopAfter_5 : decode cX3_stopAfter 5 = .ok (.aload_n 0, 1) := by decide +kernel
theorem dX3_stopAfter_6 : decode cX3_stopAfter 6 = .ok (.iload_n 1, 1) := by decide +kernel
theorem dX3_stopAfter_7 : decode cX3_stopAfter 7 = .ok (.ifCond .ge 7, 3) := by decide +kernel
theorem dX3_stopAfter_10 : decode cX3_stopAfter 10 = .ok (.iconst (-1), 1) := by decide +kernel
theorem dX3_stopAfter_11 : decode cX3_stopAfter 11 = .ok (.goto 4, 3) := by decide +kernel
theorem dX3_stopAfter_14 : decode cX3_stopAfter 14 = .ok (.iload_n 1, 1) := by decide +kernel
theorem dX3_stopAfter_15 : decode cX3_stopAfter 15 = .ok (.putfield 36, 3) := by decide +kernel
theorem dX3_stopAfter_18 : decode cX3_stopAfter 18 = .ok (.return_, 1) := by decide +kernel
theorem dX3_touches_0 : decode cX3_touches 0 = .ok (.iconst 0, 1) := by decide +kernel
theorem dX3_touches_1 : decode cX3_touches 1 = .ok (.istore_n 1, 1) := by decide +kernel
theorem dX3_touches_2 : decode cX3_touches 2 = .ok (.iconst 0, 1) := by decide +kernel
theorem dX3_touches_3 : decode cX3_touches 3 = .ok (.istore_n 2, 1) := by decide +kernel
theorem dX3_touches_4 : decode cX3_touches 4 = .ok (.iload_n 2, 1) := by decide +kernel
theorem dX3_touches_5 : decode cX3_touches 5 = .ok (.bipush 25, 2) := by decide +kernel
theorem dX3_touches_7 : decode cX3_touches 7 = .ok (.if_icmp .ge 26, 3) := by decide +kernel
theorem dX3_touches_10 : decode cX3_touches 10 = .ok (.iload_n 1, 1) := by decide +kernel
theorem dX3_touches_11 : decode cX3_touches 11 = .ok (.aload_n 0, 1) := by decide +kernel
theorem dX3_touches_12 : decode cX3_touches 12 = .ok (.getfield 29, 3) := by decide +kernel
theorem dX3_touches_15 : decode cX3_touches 15 = .ok (.iload_n 2, 1) := by decide +kernel
theorem dX3_touches_16 : decode cX3_touches 16 = .ok (.baload, 1) := by decide +kernel
theorem dX3_touches_17 : decode cX3_touches 17 = .ok (.ifCond .eq 7, 3) := by decide +kernel
theorem dX3_touches_20 : decode cX3_touches 20 = .ok (.iconst 1, 1) := by decide +kernel
theorem dX3_touches_21 : decode cX3_touches 21 = .ok (.goto 4, 3) := by decide +kernel
theorem dX3_touches_24 : decode cX3_touches 24 = .ok (.iconst 0, 1) := by decide +kernel
theorem dX3_touches_25 : decode cX3_touches 25 = .ok (.iadd, 1) := by decide +kernel
theorem dX3_touches_26 : decode cX3_touches 26 = .ok (.istore_n 1, 1) := by decide +kernel
theorem dX3_touches_27 : decode cX3_touches 27 = .ok (.iinc 2 1, 3) := by decide +kernel
theorem dX3_touches_30 : decode cX3_touches 30 = .ok (.goto (-26), 3) := by decide +kernel
theorem dX3_touches_33 : decode cX3_touches 33 = .ok (.iload_n 1, 1) := by decide +kernel
theorem dX3_touches_34 : decode cX3_touches 34 = .ok (.ireturn, 1) := by decide +kernel
theorem dX3_size_0 : decode cX3_size 0 = .ok (.bipush 22, 2) := by decide +kernel
theorem dX3_size_2 : decode cX3_size 2 = .ok (.istore_n 2, 1) := by decide +kernel
theorem dX3_size_3 : decode cX3_size 3 = .ok (.iload_n 2, 1) := by decide +kernel
theorem dX3_size_4 : decode cX3_size 4 = .ok (.ifCond .le 19, 3) := by decide +kernel
theorem dX3_size_7 : decode cX3_size 7 = .ok (.aload_n 0, 1) := by decide +kernel
theorem dX3_size_8 : decode cX3_size 8 = .ok (.iload_n 1, 1) := by decide +kernel
theorem dX3_size_9 : decode cX3_size 9 = .ok (.iload_n 2, 1) := by decide +kernel
theorem dX3_size_10 : decode cX3_size 10 = .ok (.iadd, 1) := by decide +kernel
theorem dX3_size_11 : decode cX3_size 11 = .ok (.iconst 1, 1) := by decide +kernel
theorem dX3_size_12 : decode cX3_size 12 = .ok (.isub, 1) := by decide +kernel
theorem dX3_size_13 : decode cX3_size 13 = .ok (.iaload, 1) := by decide +kernel
theorem dX3_size_14 : decode cX3_size 14 = .ok (.ifCond .ne 9, 3) := by decide +kernel
theorem dX3_size_17 : decode cX3_size 17 = .ok (.iinc 2 (-1), 3) := by decide +kernel
theorem dX3_size_20 : decode cX3_size 20 = .ok (.goto (-17), 3) := by decide +kernel
theorem dX3_size_23 : decode cX3_size 23 = .ok (.iload_n 2, 1) := by decide +kernel
theorem dX3_size_24 : decode cX3_size 24 = .ok (.ireturn, 1) := by decide +kernel
theorem dX3_compared_0 : decode cX3_compared 0 = .ok (.bipush 21, 2) := by decide +kernel
theorem dX3_compared_2 : decode cX3_compared 2 = .ok (.istore 4, 2) := by decide +kernel
theorem dX3_compared_4 : decode cX3_compared 4 = .ok (.iload 4, 2) := by decide +kernel
theorem dX3_compared_6 : decode cX3_compared 6 = .ok (.ifCond .lt 45, 3) := by decide +kernel
theorem dX3_compared_9 : decode cX3_compared 9 = .ok (.aload_n 0, 1) := by decide +kernel
theorem dX3_compared_10 : decode cX3_compared 10 = .ok (.iload_n 1, 1) := by decide +kernel
theorem dX3_compared_11 : decode cX3_compared 11 = .ok (.iload 4, 2) := by decide +kernel
theorem dX3_compared_13 : decode cX3_compared 13 = .ok (.iadd, 1) := by decide +kernel
theorem dX3_compared_14 : decode cX3_compared 14 = .ok (.iaload, 1) := by decide +kernel
theorem dX3_compared_15 : decode cX3_compared 15 = .ok (.aload_n 2, 1) := by decide +kernel
theorem dX3_compared_16 : decode cX3_compared 16 = .ok (.iload_n 3, 1) := by decide +kernel
theorem dX3_compared_17 : decode cX3_compared 17 = .ok (.iload 4, 2) := by decide +kernel
theorem dX3_compared_19 : decode cX3_compared 19 = .ok (.iadd, 1) := by decide +kernel
theorem dX3_compared_20 : decode cX3_compared 20 = .ok (.iaload, 1) := by decide +kernel
theorem dX3_compared_21 : decode cX3_compared 21 = .ok (.if_icmp .eq 24, 3) := by decide +kernel
theorem dX3_compared_24 : decode cX3_compared 24 = .ok (.aload_n 0, 1) := by decide +kernel
theorem dX3_compared_25 : decode cX3_compared 25 = .ok (.iload_n 1, 1) := by decide +kernel
theorem dX3_compared_26 : decode cX3_compared 26 = .ok (.iload 4, 2) := by decide +kernel
theorem dX3_compared_28 : decode cX3_compared 28 = .ok (.iadd, 1) := by decide +kernel
theorem dX3_compared_29 : decode cX3_compared 29 = .ok (.iaload, 1) := by decide +kernel
theorem dX3_compared_30 : decode cX3_compared 30 = .ok (.aload_n 2, 1) := by decide +kernel
theorem dX3_compared_31 : decode cX3_compared 31 = .ok (.iload_n 3, 1) := by decide +kernel
theorem dX3_compared_32 : decode cX3_compared 32 = .ok (.iload 4, 2) := by decide +kernel
theorem dX3_compared_34 : decode cX3_compared 34 = .ok (.iadd, 1) := by decide +kernel
theorem dX3_compared_35 : decode cX3_compared 35 = .ok (.iaload, 1) := by decide +kernel
theorem dX3_compared_36 : decode cX3_compared 36 = .ok (.if_icmp .le 7, 3) := by decide +kernel
theorem dX3_compared_39 : decode cX3_compared 39 = .ok (.iconst 1, 1) := by decide +kernel
theorem dX3_compared_40 : decode cX3_compared 40 = .ok (.goto 4, 3) := by decide +kernel
theorem dX3_compared_43 : decode cX3_compared 43 = .ok (.iconst (-1), 1) := by decide +kernel
theorem dX3_compared_44 : decode cX3_compared 44 = .ok (.ireturn, 1) := by decide +kernel
theorem dX3_compared_45 : decode cX3_compared 45 = .ok (.iinc 4 (-1), 3) := by decide +kernel
theorem dX3_compared_48 : decode cX3_compared 48 = .ok (.goto (-44), 3) := by decide +kernel
theorem dX3_compared_51 : decode cX3_compared 51 = .ok (.iconst 0, 1) := by decide +kernel
theorem dX3_compared_52 : decode cX3_compared 52 = .ok (.ireturn, 1) := by decide +kernel
theorem dX3_change_0 : decode cX3_change 0 = .ok (.lconst 0, 1) := by decide +kernel
theorem dX3_change_1 : decode cX3_change 1 = .ok (.lstore_n 3, 1) := by decide +kernel
theorem dX3_change_2 : decode cX3_change 2 = .ok (.iconst 0, 1) := by decide +kernel
theorem dX3_change_3 : decode cX3_change 3 = .ok (.istore 5, 2) := by decide +kernel
theorem dX3_change_5 : decode cX3_change 5 = .ok (.iload 5, 2) := by decide +kernel
theorem dX3_change_7 : decode cX3_change 7 = .ok (.bipush 22, 2) := by decide +kernel
theorem dX3_change_9 : decode cX3_change 9 = .ok (.if_icmp .ge 100, 3) := by decide +kernel
theorem dX3_change_12 : decode cX3_change 12 = .ok (.aload_n 0, 1) := by decide +kernel
theorem dX3_change_13 : decode cX3_change 13 = .ok (.getfield 13, 3) := by decide +kernel
theorem dX3_change_16 : decode cX3_change 16 = .ok (.bipush 22, 2) := by decide +kernel
theorem dX3_change_18 : decode cX3_change 18 = .ok (.iload_n 1, 1) := by decide +kernel
theorem dX3_change_19 : decode cX3_change 19 = .ok (.imul, 1) := by decide +kernel
theorem dX3_change_20 : decode cX3_change 20 = .ok (.iload 5, 2) := by decide +kernel
theorem dX3_change_22 : decode cX3_change 22 = .ok (.iadd, 1) := by decide +kernel
theorem dX3_change_23 : decode cX3_change 23 = .ok (.iaload, 1) := by decide +kernel
theorem dX3_change_24 : decode cX3_change 24 = .ok (.i2l, 1) := by decide +kernel
theorem dX3_change_25 : decode cX3_change 25 = .ok (.lload_n 3, 1) := by decide +kernel
theorem dX3_change_26 : decode cX3_change 26 = .ok (.ladd, 1) := by decide +kernel
theorem dX3_change_27 : decode cX3_change 27 = .ok (.iload_n 2, 1) := by decide +kernel
theorem dX3_change_28 : decode cX3_change 28 = .ok (.ifCond .eq 14, 3) := by decide +kernel
theorem dX3_change_31 : decode cX3_change 31 = .ok (.aload_n 0, 1) := by decide +kernel
theorem dX3_change_32 : decode cX3_change 32 = .ok (.getfield 23, 3) := by decide +kernel
theorem dX3_change_35 : decode cX3_change 35 = .ok (.iload 5, 2) := by decide +kernel
theorem dX3_change_37 : decode cX3_change 37 = .ok (.iaload, 1) := by decide +kernel
theorem dX3_change_38 : decode cX3_change 38 = .ok (.i2l, 1) := by decide +kernel
theorem dX3_change_39 : decode cX3_change 39 = .ok (.goto 12, 3) := by decide +kernel
theorem dX3_change_42 : decode cX3_change 42 = .ok (.aload_n 0, 1) := by decide +kernel
theorem dX3_change_43 : decode cX3_change 43 = .ok (.getfield 23, 3) := by decide +kernel
theorem dX3_change_46 : decode cX3_change 46 = .ok (.iload 5, 2) := by decide +kernel
theorem dX3_change_48 : decode cX3_change 48 = .ok (.iaload, 1) := by decide +kernel
theorem dX3_change_49 : decode cX3_change 49 = .ok (.i2l, 1) := by decide +kernel
theorem dX3_change_50 : decode cX3_change 50 = .ok (.lneg, 1) := by decide +kernel
theorem dX3_change_51 : decode cX3_change 51 = .ok (.ladd, 1) := by decide +kernel
theorem dX3_change_52 : decode cX3_change 52 = .ok (.lstore 6, 2) := by decide +kernel
theorem dX3_change_54 : decode cX3_change 54 = .ok (.lload 6, 2) := by decide +kernel
theorem dX3_change_56 : decode cX3_change 56 = .ok (.lconst 0, 1) := by decide +kernel
theorem dX3_change_57 : decode cX3_change 57 = .ok (.lcmp, 1) := by decide +kernel
theorem dX3_change_58 : decode cX3_change 58 = .ok (.ifCond .ge 9, 3) := by decide +kernel
theorem dX3_change_61 : decode cX3_change 61 = .ok (.ldc2_w 84, 3) := by decide +kernel
theorem dX3_change_64 : decode cX3_change 64 = .ok (.goto 17, 3) := by decide +kernel
theorem dX3_change_67 : decode cX3_change 67 = .ok (.lload 6, 2) := by decide +kernel
theorem dX3_change_69 : decode cX3_change 69 = .ok (.ldc2_w 86, 3) := by decide +kernel
theorem dX3_change_72 : decode cX3_change 72 = .ok (.lcmp, 1) := by decide +kernel
theorem dX3_change_73 : decode cX3_change 73 = .ok (.ifCond .lt 7, 3) := by decide +kernel
theorem dX3_change_76 : decode cX3_change 76 = .ok (.lconst 1, 1) := by decide +kernel
theorem dX3_change_77 : decode cX3_change 77 = .ok (.goto 4, 3) := by decide +kernel
theorem dX3_change_80 : decode cX3_change 80 = .ok (.lconst 0, 1) := by decide +kernel
theorem dX3_change_81 : decode cX3_change 81 = .ok (.lstore_n 3, 1) := by decide +kernel
theorem dX3_change_82 : decode cX3_change 82 = .ok (.aload_n 0, 1) := by decide +kernel
theorem dX3_change_83 : decode cX3_change 83 = .ok (.getfield 13, 3) := by decide +kernel
theorem dX3_change_86 : decode cX3_change 86 = .ok (.bipush 22, 2) := by decide +kernel
theorem dX3_change_88 : decode cX3_change 88 = .ok (.iload_n 1, 1) := by decide +kernel
theorem dX3_change_89 : decode cX3_change 89 = .ok (.imul, 1) := by decide +kernel
theorem dX3_change_90 : decode cX3_change 90 = .ok (.iload 5, 2) := by decide +kernel
theorem dX3_change_92 : decode cX3_change 92 = .ok (.iadd, 1) := by decide +kernel
theorem dX3_change_93 : decode cX3_change 93 = .ok (.lload 6, 2) := by decide +kernel
theorem dX3_change_95 : decode cX3_change 95 = .ok (.lload_n 3, 1) := by decide +kernel
theorem dX3_change_96 : decode cX3_change 96 = .ok (.ldc2_w 86, 3) := by decide +kernel
theorem dX3_change_99 : decode cX3_change 99 = .ok (.lmul, 1) := by decide +kernel
theorem dX3_change_100 : decode cX3_change 100 = .ok (.lsub, 1) := by decide +kernel
theorem dX3_change_101 : decode cX3_change 101 = .ok (.l2i, 1) := by decide +kernel
theorem dX3_change_102 : decode cX3_change 102 = .ok (.iastore, 1) := by decide +kernel
theorem dX3_change_103 : decode cX3_change 103 = .ok (.iinc 5 1, 3) := by decide +kernel
theorem dX3_change_106 : decode cX3_change 106 = .ok (.goto (-101), 3) := by decide +kernel
theorem dX3_change_109 : decode cX3_change 109 = .ok (.return_, 1) := by decide +kernel
theorem dX3_isGreat_0 : decode cX3_isGreat 0 = .ok (.lconst 0, 1) := by decide +kernel
theorem dX3_isGreat_1 : decode cX3_isGreat 1 = .ok (.lstore_n 2, 1) := by decide +kernel
theorem dX3_isGreat_2 : decode cX3_isGreat 2 = .ok (.iconst 0, 1) := by decide +kernel
theorem dX3_isGreat_3 : decode cX3_isGreat 3 = .ok (.istore 4, 2) := by decide +kernel
theorem dX3_isGreat_5 : decode cX3_isGreat 5 = .ok (.iload 4, 2) := by decide +kernel
theorem dX3_isGreat_7 : decode cX3_isGreat 7 = .ok (.aload_n 0, 1) := by decide +kernel
theorem dX3_isGreat_8 : decode cX3_isGreat 8 = .ok (.getfield 46, 3) := by decide +kernel
theorem dX3_isGreat_11 : decode cX3_isGreat 11 = .ok (.if_icmp .ge 38, 3) := by decide +kernel
theorem dX3_isGreat_14 : decode cX3_isGreat 14 = .ok (.aload_n 0, 1) := by decide +kernel
theorem dX3_isGreat_15 : decode cX3_isGreat 15 = .ok (.getfield 13, 3) := by decide +kernel
theorem dX3_isGreat_18 : decode cX3_isGreat 18 = .ok (.bipush 22, 2) := by decide +kernel
theorem dX3_isGreat_20 : decode cX3_isGreat 20 = .ok (.iload_n 1, 1) := by decide +kernel
theorem dX3_isGreat_21 : decode cX3_isGreat 21 = .ok (.imul, 1) := by decide +kernel
theorem dX3_isGreat_22 : decode cX3_isGreat 22 = .ok (.iload 4, 2) := by decide +kernel
theorem dX3_isGreat_24 : decode cX3_isGreat 24 = .ok (.iadd, 1) := by decide +kernel
theorem dX3_isGreat_25 : decode cX3_isGreat 25 = .ok (.iaload, 1) := by decide +kernel
theorem dX3_isGreat_26 : decode cX3_isGreat 26 = .ok (.i2l, 1) := by decide +kernel
theorem dX3_isGreat_27 : decode cX3_isGreat 27 = .ok (.aload_n 0, 1) := by decide +kernel
theorem dX3_isGreat_28 : decode cX3_isGreat 28 = .ok (.getfield 23, 3) := by decide +kernel
theorem dX3_isGreat_31 : decode cX3_isGreat 31 = .ok (.iload 4, 2) := by decide +kernel
theorem dX3_isGreat_33 : decode cX3_isGreat 33 = .ok (.iaload, 1) := by decide +kernel
theorem dX3_isGreat_34 : decode cX3_isGreat 34 = .ok (.i2l, 1) := by decide +kernel
theorem dX3_isGreat_35 : decode cX3_isGreat 35 = .ok (.ladd, 1) := by decide +kernel
theorem dX3_isGreat_36 : decode cX3_isGreat 36 = .ok (.lload_n 2, 1) := by decide +kernel
theorem dX3_isGreat_37 : decode cX3_isGreat 37 = .ok (.ladd, 1) := by decide +kernel
theorem dX3_isGreat_38 : decode cX3_isGreat 38 = .ok (.ldc2_w 86, 3) := by decide +kernel
theorem dX3_isGreat_41 : decode cX3_isGreat 41 = .ok (.ldiv, 1) := by decide +kernel
theorem dX3_isGreat_42 : decode cX3_isGreat 42 = .ok (.lstore_n 2, 1) := by decide +kernel
theorem dX3_isGreat_43 : decode cX3_isGreat 43 = .ok (.iinc 4 1, 3) := by decide +kernel
theorem dX3_isGreat_46 : decode cX3_isGreat 46 = .ok (.goto (-41), 3) := by decide +kernel
theorem dX3_isGreat_49 : decode cX3_isGreat 49 = .ok (.lload_n 2, 1) := by decide +kernel
theorem dX3_isGreat_50 : decode cX3_isGreat 50 = .ok (.lconst 0, 1) := by decide +kernel
theorem dX3_isGreat_51 : decode cX3_isGreat 51 = .ok (.lcmp, 1) := by decide +kernel
theorem dX3_isGreat_52 : decode cX3_isGreat 52 = .ok (.ifCond .le 7, 3) := by decide +kernel
theorem dX3_isGreat_55 : decode cX3_isGreat 55 = .ok (.iconst 1, 1) := by decide +kernel
theorem dX3_isGreat_56 : decode cX3_isGreat 56 = .ok (.goto 4, 3) := by decide +kernel
theorem dX3_isGreat_59 : decode cX3_isGreat 59 = .ok (.iconst 0, 1) := by decide +kernel
theorem dX3_isGreat_60 : decode cX3_isGreat 60 = .ok (.ireturn, 1) := by decide +kernel
theorem dX3_amountLimb_0 : decode cX3_amountLimb 0 = .ok (.aload_n 0, 1) := by decide +kernel
theorem dX3_amountLimb_1 : decode cX3_amountLimb 1 = .ok (.iconst 0, 1) := by decide +kernel
theorem dX3_amountLimb_2 : decode cX3_amountLimb 2 = .ok (.putfield 1, 3) := by decide +kernel
theorem dX3_amountLimb_5 : decode cX3_amountLimb 5 = .ok (.iload_n 1, 1) := by decide +kernel
theorem dX3_amountLimb_6 : decode cX3_amountLimb 6 = .ok (.ifCond .lt 24, 3) := by decide +kernel
theorem dX3_amountLimb_9 : decode cX3_amountLimb 9 = .ok (.aload_n 0, 1) := by decide +kernel
theorem dX3_amountLimb_10 : decode cX3_amountLimb 10 = .ok (.getfield 52, 3) := by decide +kernel
theorem dX3_amountLimb_13 : decode cX3_amountLimb 13 = .ok (.ifCond .eq 17, 3) := by decide +kernel
theorem dX3_amountLimb_16 : decode cX3_amountLimb 16 = .ok (.aload_n 0, 1) := by decide +kernel
theorem dX3_amountLimb_17 : decode cX3_amountLimb 17 = .ok (.getfield 23, 3) := by decide +kernel
theorem dX3_amountLimb_20 : decode cX3_amountLimb 20 = .ok (.aload_n 0, 1) := by decide +kernel
theorem dX3_amountLimb_21 : decode cX3_amountLimb 21 = .ok (.getfield 46, 3) := by decide +kernel
theorem dX3_amountLimb_24 : decode cX3_amountLimb 24 = .ok (.iconst 1, 1) := by decide +kernel
theorem dX3_amountLimb_25 : decode cX3_amountLimb 25 = .ok (.isub, 1) := by decide +kernel
theorem dX3_amountLimb_26 : decode cX3_amountLimb 26 = .ok (.iaload, 1) := by decide +kernel
theorem dX3_amountLimb_27 : decode cX3_amountLimb 27 = .ok (.ifCond .eq 5, 3) := by decide +kernel
theorem dX3_amountLimb_30 : decode cX3_amountLimb 30 = .ok (.iconst 0, 1) := by decide +kernel
theorem dX3_amountLimb_31 : decode cX3_amountLimb 31 = .ok (.ireturn, 1) := by decide +kernel
theorem dX3_amountLimb_32 : decode cX3_amountLimb 32 = .ok (.aload_n 0, 1) := by decide +kernel
theorem dX3_amountLimb_33 : decode cX3_amountLimb 33 = .ok (.getfield 46, 3) := by decide +kernel
theorem dX3_amountLimb_36 : decode cX3_amountLimb 36 = .ok (.iconst 1, 1) := by decide +kernel
theorem dX3_amountLimb_37 : decode cX3_amountLimb 37 = .ok (.isub, 1) := by decide +kernel
theorem dX3_amountLimb_38 : decode cX3_amountLimb 38 = .ok (.istore_n 2, 1) := by decide +kernel
theorem dX3_amountLimb_39 : decode cX3_amountLimb 39 = .ok (.iload_n 2, 1) := by decide +kernel
theorem dX3_amountLimb_40 : decode cX3_amountLimb 40 = .ok (.ifCond .le 23, 3) := by decide +kernel
theorem dX3_amountLimb_43 : decode cX3_amountLimb 43 = .ok (.aload_n 0, 1) := by decide +kernel
theorem dX3_amountLimb_44 : decode cX3_amountLimb 44 = .ok (.getfield 23, 3) := by decide +kernel
theorem dX3_amountLimb_47 : decode cX3_amountLimb 47 = .ok (.iload_n 2, 1) := by decide +kernel
theorem dX3_amountLimb_48 : decode cX3_amountLimb 48 = .ok (.aload_n 0, 1) := by decide +kernel
theorem dX3_amountLimb_49 : decode cX3_amountLimb 49 = .ok (.getfield 23, 3) := by decide +kernel
theorem dX3_amountLimb_52 : decode cX3_amountLimb 52 = .ok (.iload_n 2, 1) := by decide +kernel
theorem dX3_amountLimb_53 : decode cX3_amountLimb 53 = .ok (.iconst 1, 1) := by decide +kernel
theorem dX3_amountLimb_54 : decode cX3_amountLimb 54 = .ok (.isub, 1) := by decide +kernel
theorem dX3_amountLimb_55 : decode cX3_amountLimb 55 = .ok (.iaload, 1) := by decide +kernel
theorem dX3_amountLimb_56 : decode cX3_amountLimb 56 = .ok (.iastore, 1) := by decide +kernel
theorem dX3_amountLimb_57 : decode cX3_amountLimb 57 = .ok (.iinc 2 (-1), 3) := by decide +kernel
theorem dX3_amountLimb_60 : decode cX3_amountLimb 60 = .ok (.goto (-21), 3) := by decide +kernel
theorem dX3_amountLimb_63 : decode cX3_amountLimb 63 = .ok (.aload_n 0, 1) := by decide +kernel
theorem dX3_amountLimb_64 : decode cX3_amountLimb 64 = .ok (.getfield 23, 3) := by decide +kernel
theorem dX3_amountLimb_67 : decode cX3_amountLimb 67 = .ok (.iconst 0, 1) := by decide +kernel
theorem dX3_amountLimb_68 : decode cX3_amountLimb 68 = .ok (.iload_n 1, 1) := by decide +kernel
theorem dX3_amountLimb_69 : decode cX3_amountLimb 69 = .ok (.iastore, 1) := by decide +kernel
theorem dX3_amountLimb_70 : decode cX3_amountLimb 70 = .ok (.iconst 1, 1) := by decide +kernel
theorem dX3_amountLimb_71 : decode cX3_amountLimb 71 = .ok (.ireturn, 1) := by decide +kernel
theorem dX3_clearAmount_0 : decode cX3_clearAmount 0 = .ok (.aload_n 0, 1) := by decide +kernel
theorem dX3_clearAmount_1 : decode cX3_clearAmount 1 = .ok (.iconst 0, 1) := by decide +kernel
theorem dX3_clearAmount_2 : decode cX3_clearAmount 2 = .ok (.putfield 1, 3) := by decide +kernel
theorem dX3_clearAmount_5 : decode cX3_clearAmount 5 = .ok (.aload_n 0, 1) := by decide +kernel
theorem dX3_clearAmount_6 : decode cX3_clearAmount 6 = .ok (.getfield 52, 3) := by decide +kernel
theorem dX3_clearAmount_9 : decode cX3_clearAmount 9 = .ok (.ifCond .ne 5, 3) := by decide +kernel
theorem dX3_clearAmount_12 : decode cX3_clearAmount 12 = .ok (.iconst 0, 1) := by decide +kernel
theorem dX3_clearAmount_13 : decode cX3_clearAmount 13 = .ok (.ireturn, 1) := by decide +kernel
theorem dX3_clearAmount_14 : decode cX3_clearAmount 14 = .ok (.iconst 0, 1) := by decide +kernel
theorem dX3_clearAmount_15 : decode cX3_clearAmount 15 = .ok (.istore_n 1, 1) := by decide +kernel
theorem dX3_clearAmount_16 : decode cX3_clearAmount 16 = .ok (.iload_n 1, 1) := by decide +kernel
theorem dX3_clearAmount_17 : decode cX3_clearAmount 17 = .ok (.bipush 22, 2) := by decide +kernel
theorem dX3_clearAmount_19 : decode cX3_clearAmount 19 = .ok (.if_icmp .ge 16, 3) := by decide +kernel
theorem dX3_clearAmount_22 : decode cX3_clearAmount 22 = .ok (.aload_n 0, 1) := by decide +kernel
theorem dX3_clearAmount_23 : decode cX3_clearAmount 23 = .ok (.getfield 23, 3) := by decide +kernel
theorem dX3_clearAmount_26 : decode cX3_clearAmount 26 = .ok (.iload_n 1, 1) := by decide +kernel
theorem dX3_clearAmount_27 : decode cX3_clearAmount 27 = .ok (.iconst 0, 1) := by decide +kernel
theorem dX3_clearAmount_28 : decode cX3_clearAmount 28 = .ok (.iastore, 1) := by decide +kernel
theorem dX3_clearAmount_29 : decode cX3_clearAmount 29 = .ok (.iinc 1 1, 3) := by decide +kernel
theorem dX3_clearAmount_32 : decode cX3_clearAmount 32 = .ok (.goto (-16), 3) := by decide +kernel
theorem dX3_clearAmount_35 : decode cX3_clearAmount 35 = .ok (.iconst 1, 1) := by decide +kernel
theorem dX3_clearAmount_36 : decode cX3_clearAmount 36 = .ok (.ireturn, 1) := by decide +kernel
theorem dX3_no_0 : decode cX3_no 0 = .ok (.iload_n 1, 1) := by decide +kernel
theorem dX3_no_1 : decode cX3_no 1 = .ok (.ifCond .lt 11, 3) := by decide +kernel
theorem dX3_no_4 : decode cX3_no 4 = .ok (.iload_n 1, 1) := by decide +kernel
theorem dX3_no_5 : decode cX3_no 5 = .ok (.aload_n 0, 1) := by decide +kernel
theorem dX3_no_6 : decode cX3_no 6 = .ok (.getfield 43, 3) := by decide +kernel
theorem dX3_no_9 : decode cX3_no 9 = .ok (.if_icmp .lt 7, 3) := by decide +kernel
theorem dX3_no_12 : decode cX3_no 12 = .ok (.iconst 1, 1) := by decide +kernel
theorem dX3_no_13 : decode cX3_no 13 = .ok (.goto 4, 3) := by decide +kernel
theorem dX3_no_16 : decode cX3_no 16 = .ok (.iconst 0, 1) := by decide +kernel
theorem dX3_no_17 : decode cX3_no 17 = .ok (.ireturn, 1) := by decide +kernel
theorem dX3_isFull_0 : decode cX3_isFull 0 = .ok (.aload_n 0, 1) := by decide +kernel
theorem dX3_isFull_1 : decode cX3_isFull 1 = .ok (.getfield 29, 3) := by decide +kernel
theorem dX3_isFull_4 : decode cX3_isFull 4 = .ok (.iload_n 1, 1) := by decide +kernel
theorem dX3_isFull_5 : decode cX3_isFull 5 = .ok (.baload, 1) := by decide +kernel
theorem dX3_isFull_6 : decode cX3_isFull 6 = .ok (.ifCond .eq 7, 3) := by decide +kernel
theorem dX3_isFull_9 : decode cX3_isFull 9 = .ok (.iconst 0, 1) := by decide +kernel
theorem dX3_isFull_10 : decode cX3_isFull 10 = .ok (.goto 4, 3) := by decide +kernel
theorem dX3_isFull_13 : decode cX3_isFull 13 = .ok (.iconst 1, 1) := by decide +kernel
theorem dX3_isFull_14 : decode cX3_isFull 14 = .ok (.istore_n 3, 1) := by decide +kernel
theorem dX3_isFull_15 : decode cX3_isFull 15 = .ok (.iload_n 2, 1) := by decide +kernel
theorem dX3_isFull_16 : decode cX3_isFull 16 = .ok (.iload_n 1, 1) := by decide +kernel
theorem dX3_isFull_17 : decode cX3_isFull 17 = .ok (.if_icmp .eq 15, 3) := by decide +kernel
theorem dX3_isFull_20 : decode cX3_isFull 20 = .ok (.aload_n 0, 1) := by decide +kernel
theorem dX3_isFull_21 : decode cX3_isFull 21 = .ok (.getfield 29, 3) := by decide +kernel
theorem dX3_isFull_24 : decode cX3_isFull 24 = .ok (.iload_n 2, 1) := by decide +kernel
theorem dX3_isFull_25 : decode cX3_isFull 25 = .ok (.baload, 1) := by decide +kernel
theorem dX3_isFull_26 : decode cX3_isFull 26 = .ok (.ifCond .ne 6, 3) := by decide +kernel
theorem dX3_isFull_29 : decode cX3_isFull 29 = .ok (.iinc 3 1, 3) := by decide +kernel
theorem dX3_isFull_32 : decode cX3_isFull 32 = .ok (.aload_n 0, 1) := by decide +kernel
theorem dX3_isFull_33 : decode cX3_isFull 33 = .ok (.invokevirtual 77, 3) := by decide +kernel
theorem dX3_isFull_36 : decode cX3_isFull 36 = .ok (.iload_n 3, 1) := by decide +kernel
theorem dX3_isFull_37 : decode cX3_isFull 37 = .ok (.iadd, 1) := by decide +kernel
theorem dX3_isFull_38 : decode cX3_isFull 38 = .ok (.aload_n 0, 1) := by decide +kernel
theorem dX3_isFull_39 : decode cX3_isFull 39 = .ok (.getfield 49, 3) := by decide +kernel
theorem dX3_isFull_42 : decode cX3_isFull 42 = .ok (.if_icmp .le 7, 3) := by decide +kernel
theorem dX3_isFull_45 : decode cX3_isFull 45 = .ok (.iconst 1, 1) := by decide +kernel
theorem dX3_isFull_46 : decode cX3_isFull 46 = .ok (.goto 4, 3) := by decide +kernel
theorem dX3_isFull_49 : decode cX3_isFull 49 = .ok (.iconst 0, 1) := by decide +kernel
theorem dX3_isFull_50 : decode cX3_isFull 50 = .ok (.ireturn, 1) := by decide +kernel
theorem dX3_deposit_0 : decode cX3_deposit 0 = .ok (.aload_n 0, 1) := by decide +kernel
theorem dX3_deposit_1 : decode cX3_deposit 1 = .ok (.iconst 0, 1) := by decide +kernel
theorem dX3_deposit_2 : decode cX3_deposit 2 = .ok (.putfield 1, 3) := by decide +kernel
theorem dX3_deposit_5 : decode cX3_deposit 5 = .ok (.aload_n 0, 1) := by decide +kernel
theorem dX3_deposit_6 : decode cX3_deposit 6 = .ok (.getfield 52, 3) := by decide +kernel
theorem dX3_deposit_9 : decode cX3_deposit 9 = .ok (.ifCond .ne 6, 3) := by decide +kernel
theorem dX3_deposit_12 : decode cX3_deposit 12 = .ok (.bipush 6, 2) := by decide +kernel
theorem dX3_deposit_14 : decode cX3_deposit 14 = .ok (.ireturn, 1) := by decide +kernel
theorem dX3_deposit_15 : decode cX3_deposit 15 = .ok (.aload_n 0, 1) := by decide +kernel
theorem dX3_deposit_16 : decode cX3_deposit 16 = .ok (.iload_n 1, 1) := by decide +kernel
theorem dX3_deposit_17 : decode cX3_deposit 17 = .ok (.invokevirtual 88, 3) := by decide +kernel
theorem dX3_deposit_20 : decode cX3_deposit 20 = .ok (.ifCond .eq 5, 3) := by decide +kernel
theorem dX3_deposit_23 : decode cX3_deposit 23 = .ok (.iconst 1, 1) := by decide +kernel
theorem dX3_deposit_24 : decode cX3_deposit 24 = .ok (.ireturn, 1) := by decide +kernel
theorem dX3_deposit_25 : decode cX3_deposit 25 = .ok (.aload_n 0, 1) := by decide +kernel
theorem dX3_deposit_26 : decode cX3_deposit 26 = .ok (.iload_n 1, 1) := by decide +kernel
theorem dX3_deposit_27 : decode cX3_deposit 27 = .ok (.invokevirtual 92, 3) := by decide +kernel
theorem dX3_deposit_30 : decode cX3_deposit 30 = .ok (.ifCond .eq 5, 3) := by decide +kernel
theorem dX3_deposit_33 : decode cX3_deposit 33 = .ok (.iconst 3, 1) := by decide +kernel
theorem dX3_deposit_34 : decode cX3_deposit 34 = .ok (.ireturn, 1) := by decide +kernel
theorem dX3_deposit_35 : decode cX3_deposit 35 = .ok (.aload_n 0, 1) := by decide +kernel
theorem dX3_deposit_36 : decode cX3_deposit 36 = .ok (.iload_n 1, 1) := by decide +kernel
theorem dX3_deposit_37 : decode cX3_deposit 37 = .ok (.bipush 24, 2) := by decide +kernel
theorem dX3_deposit_39 : decode cX3_deposit 39 = .ok (.invokevirtual 95, 3) := by decide +kernel
theorem dX3_deposit_42 : decode cX3_deposit 42 = .ok (.ifCond .eq 5, 3) := by decide +kernel
theorem dX3_deposit_45 : decode cX3_deposit 45 = .ok (.iconst 4, 1) := by decide +kernel
theorem dX3_deposit_46 : decode cX3_deposit 46 = .ok (.ireturn, 1) := by decide +kernel
theorem dX3_deposit_47 : decode cX3_deposit 47 = .ok (.aload_n 0, 1) := by decide +kernel
theorem dX3_deposit_48 : decode cX3_deposit 48 = .ok (.iload_n 1, 1) := by decide +kernel
theorem dX3_deposit_49 : decode cX3_deposit 49 = .ok (.iconst 1, 1) := by decide +kernel
theorem dX3_deposit_50 : decode cX3_deposit 50 = .ok (.invokevirtual 99, 3) := by decide +kernel
theorem dX3_deposit_53 : decode cX3_deposit 53 = .ok (.aload_n 0, 1) := by decide +kernel
theorem dX3_deposit_54 : decode cX3_deposit 54 = .ok (.bipush 24, 2) := by decide +kernel
theorem dX3_deposit_56 : decode cX3_deposit 56 = .ok (.iconst 1, 1) := by decide +kernel
theorem dX3_deposit_57 : decode cX3_deposit 57 = .ok (.invokevirtual 99, 3) := by decide +kernel
theorem dX3_deposit_60 : decode cX3_deposit 60 = .ok (.aload_n 0, 1) := by decide +kernel
theorem dX3_deposit_61 : decode cX3_deposit 61 = .ok (.getfield 29, 3) := by decide +kernel
theorem dX3_deposit_64 : decode cX3_deposit 64 = .ok (.iload_n 1, 1) := by decide +kernel
theorem dX3_deposit_65 : decode cX3_deposit 65 = .ok (.iconst 1, 1) := by decide +kernel
theorem dX3_deposit_66 : decode cX3_deposit 66 = .ok (.bastore, 1) := by decide +kernel
theorem dX3_deposit_67 : decode cX3_deposit 67 = .ok (.aload_n 0, 1) := by decide +kernel
theorem dX3_deposit_68 : decode cX3_deposit 68 = .ok (.getfield 29, 3) := by decide +kernel
theorem dX3_deposit_71 : decode cX3_deposit 71 = .ok (.bipush 24, 2) := by decide +kernel
theorem dX3_deposit_73 : decode cX3_deposit 73 = .ok (.iconst 1, 1) := by decide +kernel
theorem dX3_deposit_74 : decode cX3_deposit 74 = .ok (.bastore, 1) := by decide +kernel
theorem dX3_deposit_75 : decode cX3_deposit 75 = .ok (.iconst 0, 1) := by decide +kernel
theorem dX3_deposit_76 : decode cX3_deposit 76 = .ok (.ireturn, 1) := by decide +kernel
theorem dX3_withdraw_0 : decode cX3_withdraw 0 = .ok (.aload_n 0, 1) := by decide +kernel
theorem dX3_withdraw_1 : decode cX3_withdraw 1 = .ok (.iconst 0, 1) := by decide +kernel
theorem dX3_withdraw_2 : decode cX3_withdraw 2 = .ok (.putfield 1, 3) := by decide +kernel
theorem dX3_withdraw_5 : decode cX3_withdraw 5 = .ok (.aload_n 0, 1) := by decide +kernel
theorem dX3_withdraw_6 : decode cX3_withdraw 6 = .ok (.getfield 52, 3) := by decide +kernel
theorem dX3_withdraw_9 : decode cX3_withdraw 9 = .ok (.ifCond .ne 6, 3) := by decide +kernel
theorem dX3_withdraw_12 : decode cX3_withdraw 12 = .ok (.bipush 6, 2) := by decide +kernel
theorem dX3_withdraw_14 : decode cX3_withdraw 14 = .ok (.ireturn, 1) := by decide +kernel
theorem dX3_withdraw_15 : decode cX3_withdraw 15 = .ok (.aload_n 0, 1) := by decide +kernel
theorem dX3_withdraw_16 : decode cX3_withdraw 16 = .ok (.iload_n 1, 1) := by decide +kernel
theorem dX3_withdraw_17 : decode cX3_withdraw 17 = .ok (.invokevirtual 88, 3) := by decide +kernel
theorem dX3_withdraw_20 : decode cX3_withdraw 20 = .ok (.ifCond .eq 5, 3) := by decide +kernel
theorem dX3_withdraw_23 : decode cX3_withdraw 23 = .ok (.iconst 1, 1) := by decide +kernel
theorem dX3_withdraw_24 : decode cX3_withdraw 24 = .ok (.ireturn, 1) := by decide +kernel
theorem dX3_withdraw_25 : decode cX3_withdraw 25 = .ok (.aload_n 0, 1) := by decide +kernel
theorem dX3_withdraw_26 : decode cX3_withdraw 26 = .ok (.getfield 23, 3) := by decide +kernel
theorem dX3_withdraw_29 : decode cX3_withdraw 29 = .ok (.iconst 0, 1) := by decide +kernel
theorem dX3_withdraw_30 : decode cX3_withdraw 30 = .ok (.aload_n 0, 1) := by decide +kernel
theorem dX3_withdraw_31 : decode cX3_withdraw 31 = .ok (.getfield 13, 3) := by decide +kernel
theorem dX3_withdraw_34 : decode cX3_withdraw 34 = .ok (.bipush 22, 2) := by decide +kernel
theorem dX3_withdraw_36 : decode cX3_withdraw 36 = .ok (.iload_n 1, 1) := by decide +kernel
theorem dX3_withdraw_37 : decode cX3_withdraw 37 = .ok (.imul, 1) := by decide +kernel
theorem dX3_withdraw_38 : decode cX3_withdraw 38 = .ok (.invokestatic 103, 3) := by decide +kernel
theorem dX3_withdraw_41 : decode cX3_withdraw 41 = .ok (.ifCond .le 5, 3) := by decide +kernel
theorem dX3_withdraw_44 : decode cX3_withdraw 44 = .ok (.iconst 2, 1) := by decide +kernel
theorem dX3_withdraw_45 : decode cX3_withdraw 45 = .ok (.ireturn, 1) := by decide +kernel
theorem dX3_withdraw_46 : decode cX3_withdraw 46 = .ok (.aload_n 0, 1) := by decide +kernel
theorem dX3_withdraw_47 : decode cX3_withdraw 47 = .ok (.iload_n 1, 1) := by decide +kernel
theorem dX3_withdraw_48 : decode cX3_withdraw 48 = .ok (.bipush 24, 2) := by decide +kernel
theorem dX3_withdraw_50 : decode cX3_withdraw 50 = .ok (.invokevirtual 95, 3) := by decide +kernel
theorem dX3_withdraw_53 : decode cX3_withdraw 53 = .ok (.ifCond .eq 5, 3) := by decide +kernel
theorem dX3_withdraw_56 : decode cX3_withdraw 56 = .ok (.iconst 4, 1) := by decide +kernel
theorem dX3_withdraw_57 : decode cX3_withdraw 57 = .ok (.ireturn, 1) := by decide +kernel
theorem dX3_withdraw_58 : decode cX3_withdraw 58 = .ok (.aload_n 0, 1) := by decide +kernel
theorem dX3_withdraw_59 : decode cX3_withdraw 59 = .ok (.iload_n 1, 1) := by decide +kernel
theorem dX3_withdraw_60 : decode cX3_withdraw 60 = .ok (.iconst 0, 1) := by decide +kernel
theorem dX3_withdraw_61 : decode cX3_withdraw 61 = .ok (.invokevirtual 99, 3) := by decide +kernel
theorem dX3_withdraw_64 : decode cX3_withdraw 64 = .ok (.aload_n 0, 1) := by decide +kernel
theorem dX3_withdraw_65 : decode cX3_withdraw 65 = .ok (.bipush 24, 2) := by decide +kernel
theorem dX3_withdraw_67 : decode cX3_withdraw 67 = .ok (.iconst 0, 1) := by decide +kernel
theorem dX3_withdraw_68 : decode cX3_withdraw 68 = .ok (.invokevirtual 99, 3) := by decide +kernel
theorem dX3_withdraw_71 : decode cX3_withdraw 71 = .ok (.aload_n 0, 1) := by decide +kernel
theorem dX3_withdraw_72 : decode cX3_withdraw 72 = .ok (.getfield 29, 3) := by decide +kernel
theorem dX3_withdraw_75 : decode cX3_withdraw 75 = .ok (.iload_n 1, 1) := by decide +kernel
theorem dX3_withdraw_76 : decode cX3_withdraw 76 = .ok (.iconst 1, 1) := by decide +kernel
theorem dX3_withdraw_77 : decode cX3_withdraw 77 = .ok (.bastore, 1) := by decide +kernel
theorem dX3_withdraw_78 : decode cX3_withdraw 78 = .ok (.aload_n 0, 1) := by decide +kernel
theorem dX3_withdraw_79 : decode cX3_withdraw 79 = .ok (.getfield 29, 3) := by decide +kernel
theorem dX3_withdraw_82 : decode cX3_withdraw 82 = .ok (.bipush 24, 2) := by decide +kernel
theorem dX3_withdraw_84 : decode cX3_withdraw 84 = .ok (.iconst 1, 1) := by decide +kernel
theorem dX3_withdraw_85 : decode cX3_withdraw 85 = .ok (.bastore, 1) := by decide +kernel
theorem dX3_withdraw_86 : decode cX3_withdraw 86 = .ok (.iconst 0, 1) := by decide +kernel
theorem dX3_withdraw_87 : decode cX3_withdraw 87 = .ok (.ireturn, 1) := by decide +kernel
theorem dX3_transfer_0 : decode cX3_transfer 0 = .ok (.aload_n 0, 1) := by decide +kernel
theorem dX3_transfer_1 : decode cX3_transfer 1 = .ok (.iconst 0, 1) := by decide +kernel
theorem dX3_transfer_2 : decode cX3_transfer 2 = .ok (.putfield 1, 3) := by decide +kernel
theorem dX3_transfer_5 : decode cX3_transfer 5 = .ok (.aload_n 0, 1) := by decide +kernel
theorem dX3_transfer_6 : decode cX3_transfer 6 = .ok (.getfield 52, 3) := by decide +kernel
theorem dX3_transfer_9 : decode cX3_transfer 9 = .ok (.ifCond .ne 6, 3) := by decide +kernel
theorem dX3_transfer_12 : decode cX3_transfer 12 = .ok (.bipush 6, 2) := by decide +kernel
theorem dX3_transfer_14 : decode cX3_transfer 14 = .ok (.ireturn, 1) := by decide +kernel
theorem dX3_transfer_15 : decode cX3_transfer 15 = .ok (.aload_n 0, 1) := by decide +kernel
theorem dX3_transfer_16 : decode cX3_transfer 16 = .ok (.iload_n 1, 1) := by decide +kernel
theorem dX3_transfer_17 : decode cX3_transfer 17 = .ok (.invokevirtual 88, 3) := by decide +kernel
theorem dX3_transfer_20 : decode cX3_transfer 20 = .ok (.ifCond .ne 11, 3) := by decide +kernel
theorem dX3_transfer_23 : decode cX3_transfer 23 = .ok (.aload_n 0, 1) := by decide +kernel
theorem dX3_transfer_24 : decode cX3_transfer 24 = .ok (.iload_n 2, 1) := by decide +kernel
theorem dX3_transfer_25 : decode cX3_transfer 25 = .ok (.invokevirtual 88, 3) := by decide +kernel
theorem dX3_transfer_28 : decode cX3_transfer 28 = .ok (.ifCond .eq 5, 3) := by decide +kernel
theorem dX3_transfer_31 : decode cX3_transfer 31 = .ok (.iconst 1, 1) := by decide +kernel
theorem dX3_transfer_32 : decode cX3_transfer 32 = .ok (.ireturn, 1) := by decide +kernel
theorem dX3_transfer_33 : decode cX3_transfer 33 = .ok (.aload_n 0, 1) := by decide +kernel
theorem dX3_transfer_34 : decode cX3_transfer 34 = .ok (.getfield 23, 3) := by decide +kernel
theorem dX3_transfer_37 : decode cX3_transfer 37 = .ok (.iconst 0, 1) := by decide +kernel
theorem dX3_transfer_38 : decode cX3_transfer 38 = .ok (.aload_n 0, 1) := by decide +kernel
theorem dX3_transfer_39 : decode cX3_transfer 39 = .ok (.getfield 13, 3) := by decide +kernel
theorem dX3_transfer_42 : decode cX3_transfer 42 = .ok (.bipush 22, 2) := by decide +kernel
theorem dX3_transfer_44 : decode cX3_transfer 44 = .ok (.iload_n 1, 1) := by decide +kernel
theorem dX3_transfer_45 : decode cX3_transfer 45 = .ok (.imul, 1) := by decide +kernel
theorem dX3_transfer_46 : decode cX3_transfer 46 = .ok (.invokestatic 103, 3) := by decide +kernel
theorem dX3_transfer_49 : decode cX3_transfer 49 = .ok (.ifCond .le 5, 3) := by decide +kernel
end
section
theorem dX3_transfer_52 : decode cX3_transfer 52 = .ok (.iconst 2, 1) := by decide +kernel
theorem dX3_transfer_53 : decode cX3_transfer 53 = .ok (.ireturn, 1) := by decide +kernel
theorem dX3_transfer_54 : decode cX3_transfer 54 = .ok (.iload_n 1, 1) := by decide +kernel
theorem dX3_transfer_55 : decode cX3_transfer 55 = .ok (.iload_n 2, 1) := by decide +kernel
theorem dX3_transfer_56 : decode cX3_transfer 56 = .ok (.if_icmp .eq 13, 3) := by decide +kernel
theorem dX3_transfer_59 : decode cX3_transfer 59 = .ok (.aload_n 0, 1) := by decide +kernel
theorem dX3_transfer_60 : decode cX3_transfer 60 = .ok (.iload_n 2, 1) := by decide +kernel
theorem dX3_transfer_61 : decode cX3_transfer 61 = .ok (.invokevirtual 92, 3) := by decide +kernel
theorem dX3_transfer_64 : decode cX3_transfer 64 = .ok (.ifCond .eq 5, 3) := by decide +kernel
theorem dX3_transfer_67 : decode cX3_transfer 67 = .ok (.iconst 3, 1) := by decide +kernel
theorem dX3_transfer_68 : decode cX3_transfer 68 = .ok (.ireturn, 1) := by decide +kernel
theorem dX3_transfer_69 : decode cX3_transfer 69 = .ok (.aload_n 0, 1) := by decide +kernel
theorem dX3_transfer_70 : decode cX3_transfer 70 = .ok (.iload_n 1, 1) := by decide +kernel
theorem dX3_transfer_71 : decode cX3_transfer 71 = .ok (.iload_n 2, 1) := by decide +kernel
theorem dX3_transfer_72 : decode cX3_transfer 72 = .ok (.invokevirtual 95, 3) := by decide +kernel
theorem dX3_transfer_75 : decode cX3_transfer 75 = .ok (.ifCond .eq 5, 3) := by decide +kernel
theorem dX3_transfer_78 : decode cX3_transfer 78 = .ok (.iconst 4, 1) := by decide +kernel
theorem dX3_transfer_79 : decode cX3_transfer 79 = .ok (.ireturn, 1) := by decide +kernel
theorem dX3_transfer_80 : decode cX3_transfer 80 = .ok (.aload_n 0, 1) := by decide +kernel
theorem dX3_transfer_81 : decode cX3_transfer 81 = .ok (.iload_n 1, 1) := by decide +kernel
theorem dX3_transfer_82 : decode cX3_transfer 82 = .ok (.iconst 0, 1) := by decide +kernel
theorem dX3_transfer_83 : decode cX3_transfer 83 = .ok (.invokevirtual 99, 3) := by decide +kernel
theorem dX3_transfer_86 : decode cX3_transfer 86 = .ok (.aload_n 0, 1) := by decide +kernel
theorem dX3_transfer_87 : decode cX3_transfer 87 = .ok (.iload_n 2, 1) := by decide +kernel
theorem dX3_transfer_88 : decode cX3_transfer 88 = .ok (.iconst 1, 1) := by decide +kernel
theorem dX3_transfer_89 : decode cX3_transfer 89 = .ok (.invokevirtual 99, 3) := by decide +kernel
theorem dX3_transfer_92 : decode cX3_transfer 92 = .ok (.aload_n 0, 1) := by decide +kernel
theorem dX3_transfer_93 : decode cX3_transfer 93 = .ok (.getfield 29, 3) := by decide +kernel
theorem dX3_transfer_96 : decode cX3_transfer 96 = .ok (.iload_n 1, 1) := by decide +kernel
theorem dX3_transfer_97 : decode cX3_transfer 97 = .ok (.iconst 1, 1) := by decide +kernel
theorem dX3_transfer_98 : decode cX3_transfer 98 = .ok (.bastore, 1) := by decide +kernel
theorem dX3_transfer_99 : decode cX3_transfer 99 = .ok (.aload_n 0, 1) := by decide +kernel
theorem dX3_transfer_100 : decode cX3_transfer 100 = .ok (.getfield 29, 3) := by decide +kernel
theorem dX3_transfer_103 : decode cX3_transfer 103 = .ok (.iload_n 2, 1) := by decide +kernel
theorem dX3_transfer_104 : decode cX3_transfer 104 = .ok (.iconst 1, 1) := by decide +kernel
theorem dX3_transfer_105 : decode cX3_transfer 105 = .ok (.bastore, 1) := by decide +kernel
theorem dX3_transfer_106 : decode cX3_transfer 106 = .ok (.iconst 0, 1) := by decide +kernel
theorem dX3_transfer_107 : decode cX3_transfer 107 = .ok (.ireturn, 1) := by decide +kernel
theorem dX3_part_0 : decode cX3_part 0 = .ok (.aload_n 0, 1) := by decide +kernel
theorem dX3_part_1 : decode cX3_part 1 = .ok (.iconst 0, 1) := by decide +kernel
theorem dX3_part_2 : decode cX3_part 2 = .ok (.putfield 1, 3) := by decide +kernel
theorem dX3_part_5 : decode cX3_part 5 = .ok (.aload_n 0, 1) := by decide +kernel
theorem dX3_part_6 : decode cX3_part 6 = .ok (.getfield 52, 3) := by decide +kernel
theorem dX3_part_9 : decode cX3_part 9 = .ok (.ifCond .ne 6, 3) := by decide +kernel
theorem dX3_part_12 : decode cX3_part 12 = .ok (.bipush 6, 2) := by decide +kernel
theorem dX3_part_14 : decode cX3_part 14 = .ok (.ireturn, 1) := by decide +kernel
theorem dX3_part_15 : decode cX3_part 15 = .ok (.aload_n 0, 1) := by decide +kernel
theorem dX3_part_16 : decode cX3_part 16 = .ok (.iload_n 1, 1) := by decide +kernel
theorem dX3_part_17 : decode cX3_part 17 = .ok (.invokevirtual 88, 3) := by decide +kernel
theorem dX3_part_20 : decode cX3_part 20 = .ok (.ifCond .eq 5, 3) := by decide +kernel
theorem dX3_part_23 : decode cX3_part 23 = .ok (.iconst 1, 1) := by decide +kernel
theorem dX3_part_24 : decode cX3_part 24 = .ok (.ireturn, 1) := by decide +kernel
theorem dX3_part_25 : decode cX3_part 25 = .ok (.iload_n 2, 1) := by decide +kernel
theorem dX3_part_26 : decode cX3_part 26 = .ok (.ifCond .lt 13, 3) := by decide +kernel
theorem dX3_part_29 : decode cX3_part 29 = .ok (.iload_n 2, 1) := by decide +kernel
theorem dX3_part_30 : decode cX3_part 30 = .ok (.iload_n 3, 1) := by decide +kernel
theorem dX3_part_31 : decode cX3_part 31 = .ok (.if_icmp .gt 8, 3) := by decide +kernel
theorem dX3_part_34 : decode cX3_part 34 = .ok (.iload_n 3, 1) := by decide +kernel
theorem dX3_part_35 : decode cX3_part 35 = .ok (.iconst 1, 1) := by decide +kernel
theorem dX3_part_36 : decode cX3_part 36 = .ok (.if_icmp .ge 5, 3) := by decide +kernel
theorem dX3_part_39 : decode cX3_part 39 = .ok (.iconst 5, 1) := by decide +kernel
theorem dX3_part_40 : decode cX3_part 40 = .ok (.ireturn, 1) := by decide +kernel
theorem dX3_part_41 : decode cX3_part 41 = .ok (.lconst 0, 1) := by decide +kernel
theorem dX3_part_42 : decode cX3_part 42 = .ok (.lstore 4, 2) := by decide +kernel
theorem dX3_part_44 : decode cX3_part 44 = .ok (.iconst 0, 1) := by decide +kernel
theorem dX3_part_45 : decode cX3_part 45 = .ok (.istore 6, 2) := by decide +kernel
theorem dX3_part_47 : decode cX3_part 47 = .ok (.iload 6, 2) := by decide +kernel
theorem dX3_part_49 : decode cX3_part 49 = .ok (.bipush 22, 2) := by decide +kernel
theorem dX3_part_51 : decode cX3_part 51 = .ok (.if_icmp .ge 52, 3) := by decide +kernel
theorem dX3_part_54 : decode cX3_part 54 = .ok (.lload 4, 2) := by decide +kernel
theorem dX3_part_56 : decode cX3_part 56 = .ok (.aload_n 0, 1) := by decide +kernel
theorem dX3_part_57 : decode cX3_part 57 = .ok (.getfield 13, 3) := by decide +kernel
theorem dX3_part_60 : decode cX3_part 60 = .ok (.bipush 22, 2) := by decide +kernel
theorem dX3_part_62 : decode cX3_part 62 = .ok (.iload_n 1, 1) := by decide +kernel
theorem dX3_part_63 : decode cX3_part 63 = .ok (.imul, 1) := by decide +kernel
theorem dX3_part_64 : decode cX3_part 64 = .ok (.iload 6, 2) := by decide +kernel
theorem dX3_part_66 : decode cX3_part 66 = .ok (.iadd, 1) := by decide +kernel
theorem dX3_part_67 : decode cX3_part 67 = .ok (.iaload, 1) := by decide +kernel
theorem dX3_part_68 : decode cX3_part 68 = .ok (.i2l, 1) := by decide +kernel
theorem dX3_part_69 : decode cX3_part 69 = .ok (.iload_n 2, 1) := by decide +kernel
theorem dX3_part_70 : decode cX3_part 70 = .ok (.i2l, 1) := by decide +kernel
theorem dX3_part_71 : decode cX3_part 71 = .ok (.lmul, 1) := by decide +kernel
theorem dX3_part_72 : decode cX3_part 72 = .ok (.ladd, 1) := by decide +kernel
theorem dX3_part_73 : decode cX3_part 73 = .ok (.lstore 4, 2) := by decide +kernel
theorem dX3_part_75 : decode cX3_part 75 = .ok (.aload_n 0, 1) := by decide +kernel
theorem dX3_part_76 : decode cX3_part 76 = .ok (.getfield 26, 3) := by decide +kernel
theorem dX3_part_79 : decode cX3_part 79 = .ok (.iload 6, 2) := by decide +kernel
theorem dX3_part_81 : decode cX3_part 81 = .ok (.lload 4, 2) := by decide +kernel
theorem dX3_part_83 : decode cX3_part 83 = .ok (.ldc2_w 86, 3) := by decide +kernel
theorem dX3_part_86 : decode cX3_part 86 = .ok (.lrem, 1) := by decide +kernel
theorem dX3_part_87 : decode cX3_part 87 = .ok (.l2i, 1) := by decide +kernel
theorem dX3_part_88 : decode cX3_part 88 = .ok (.iastore, 1) := by decide +kernel
theorem dX3_part_89 : decode cX3_part 89 = .ok (.lload 4, 2) := by decide +kernel
theorem dX3_part_91 : decode cX3_part 91 = .ok (.ldc2_w 86, 3) := by decide +kernel
theorem dX3_part_94 : decode cX3_part 94 = .ok (.ldiv, 1) := by decide +kernel
theorem dX3_part_95 : decode cX3_part 95 = .ok (.lstore 4, 2) := by decide +kernel
theorem dX3_part_97 : decode cX3_part 97 = .ok (.iinc 6 1, 3) := by decide +kernel
theorem dX3_part_100 : decode cX3_part 100 = .ok (.goto (-53), 3) := by decide +kernel
theorem dX3_part_103 : decode cX3_part 103 = .ok (.lconst 0, 1) := by decide +kernel
theorem dX3_part_104 : decode cX3_part 104 = .ok (.lstore 6, 2) := by decide +kernel
theorem dX3_part_106 : decode cX3_part 106 = .ok (.bipush 21, 2) := by decide +kernel
theorem dX3_part_108 : decode cX3_part 108 = .ok (.istore 8, 2) := by decide +kernel
theorem dX3_part_110 : decode cX3_part 110 = .ok (.iload 8, 2) := by decide +kernel
theorem dX3_part_112 : decode cX3_part 112 = .ok (.ifCond .lt 46, 3) := by decide +kernel
theorem dX3_part_115 : decode cX3_part 115 = .ok (.lload 6, 2) := by decide +kernel
theorem dX3_part_117 : decode cX3_part 117 = .ok (.ldc2_w 86, 3) := by decide +kernel
theorem dX3_part_120 : decode cX3_part 120 = .ok (.lmul, 1) := by decide +kernel
theorem dX3_part_121 : decode cX3_part 121 = .ok (.aload_n 0, 1) := by decide +kernel
theorem dX3_part_122 : decode cX3_part 122 = .ok (.getfield 26, 3) := by decide +kernel
theorem dX3_part_125 : decode cX3_part 125 = .ok (.iload 8, 2) := by decide +kernel
theorem dX3_part_127 : decode cX3_part 127 = .ok (.iaload, 1) := by decide +kernel
theorem dX3_part_128 : decode cX3_part 128 = .ok (.i2l, 1) := by decide +kernel
theorem dX3_part_129 : decode cX3_part 129 = .ok (.ladd, 1) := by decide +kernel
theorem dX3_part_130 : decode cX3_part 130 = .ok (.lstore 6, 2) := by decide +kernel
theorem dX3_part_132 : decode cX3_part 132 = .ok (.aload_n 0, 1) := by decide +kernel
theorem dX3_part_133 : decode cX3_part 133 = .ok (.getfield 23, 3) := by decide +kernel
theorem dX3_part_136 : decode cX3_part 136 = .ok (.iload 8, 2) := by decide +kernel
theorem dX3_part_138 : decode cX3_part 138 = .ok (.lload 6, 2) := by decide +kernel
theorem dX3_part_140 : decode cX3_part 140 = .ok (.iload_n 3, 1) := by decide +kernel
theorem dX3_part_141 : decode cX3_part 141 = .ok (.i2l, 1) := by decide +kernel
theorem dX3_part_142 : decode cX3_part 142 = .ok (.ldiv, 1) := by decide +kernel
theorem dX3_part_143 : decode cX3_part 143 = .ok (.l2i, 1) := by decide +kernel
theorem dX3_part_144 : decode cX3_part 144 = .ok (.iastore, 1) := by decide +kernel
theorem dX3_part_145 : decode cX3_part 145 = .ok (.lload 6, 2) := by decide +kernel
theorem dX3_part_147 : decode cX3_part 147 = .ok (.iload_n 3, 1) := by decide +kernel
theorem dX3_part_148 : decode cX3_part 148 = .ok (.i2l, 1) := by decide +kernel
theorem dX3_part_149 : decode cX3_part 149 = .ok (.lrem, 1) := by decide +kernel
theorem dX3_part_150 : decode cX3_part 150 = .ok (.lstore 6, 2) := by decide +kernel
theorem dX3_part_152 : decode cX3_part 152 = .ok (.iinc 8 (-1), 3) := by decide +kernel
theorem dX3_part_155 : decode cX3_part 155 = .ok (.goto (-45), 3) := by decide +kernel
theorem dX3_part_158 : decode cX3_part 158 = .ok (.iconst 0, 1) := by decide +kernel
theorem dX3_part_159 : decode cX3_part 159 = .ok (.ireturn, 1) := by decide +kernel
theorem dX3_balanceSize_0 : decode cX3_balanceSize 0 = .ok (.aload_n 0, 1) := by decide +kernel
theorem dX3_balanceSize_1 : decode cX3_balanceSize 1 = .ok (.iconst 0, 1) := by decide +kernel
theorem dX3_balanceSize_2 : decode cX3_balanceSize 2 = .ok (.putfield 1, 3) := by decide +kernel
theorem dX3_balanceSize_5 : decode cX3_balanceSize 5 = .ok (.aload_n 0, 1) := by decide +kernel
theorem dX3_balanceSize_6 : decode cX3_balanceSize 6 = .ok (.getfield 52, 3) := by decide +kernel
theorem dX3_balanceSize_9 : decode cX3_balanceSize 9 = .ok (.ifCond .eq 11, 3) := by decide +kernel
theorem dX3_balanceSize_12 : decode cX3_balanceSize 12 = .ok (.aload_n 0, 1) := by decide +kernel
theorem dX3_balanceSize_13 : decode cX3_balanceSize 13 = .ok (.iload_n 1, 1) := by decide +kernel
theorem dX3_balanceSize_14 : decode cX3_balanceSize 14 = .ok (.invokevirtual 88, 3) := by decide +kernel
theorem dX3_balanceSize_17 : decode cX3_balanceSize 17 = .ok (.ifCond .eq 7, 3) := by decide +kernel
theorem dX3_balanceSize_20 : decode cX3_balanceSize 20 = .ok (.iconst (-1), 1) := by decide +kernel
theorem dX3_balanceSize_21 : decode cX3_balanceSize 21 = .ok (.goto 14, 3) := by decide +kernel
theorem dX3_balanceSize_24 : decode cX3_balanceSize 24 = .ok (.aload_n 0, 1) := by decide +kernel
theorem dX3_balanceSize_25 : decode cX3_balanceSize 25 = .ok (.getfield 13, 3) := by decide +kernel
theorem dX3_balanceSize_28 : decode cX3_balanceSize 28 = .ok (.bipush 22, 2) := by decide +kernel
theorem dX3_balanceSize_30 : decode cX3_balanceSize 30 = .ok (.iload_n 1, 1) := by decide +kernel
theorem dX3_balanceSize_31 : decode cX3_balanceSize 31 = .ok (.imul, 1) := by decide +kernel
theorem dX3_balanceSize_32 : decode cX3_balanceSize 32 = .ok (.invokestatic 107, 3) := by decide +kernel
theorem dX3_balanceSize_35 : decode cX3_balanceSize 35 = .ok (.ireturn, 1) := by decide +kernel
theorem dX3_balanceLimb_0 : decode cX3_balanceLimb 0 = .ok (.aload_n 0, 1) := by decide +kernel
theorem dX3_balanceLimb_1 : decode cX3_balanceLimb 1 = .ok (.iconst 0, 1) := by decide +kernel
theorem dX3_balanceLimb_2 : decode cX3_balanceLimb 2 = .ok (.putfield 1, 3) := by decide +kernel
theorem dX3_balanceLimb_5 : decode cX3_balanceLimb 5 = .ok (.aload_n 0, 1) := by decide +kernel
theorem dX3_balanceLimb_6 : decode cX3_balanceLimb 6 = .ok (.getfield 52, 3) := by decide +kernel
theorem dX3_balanceLimb_9 : decode cX3_balanceLimb 9 = .ok (.ifCond .eq 15, 3) := by decide +kernel
theorem dX3_balanceLimb_12 : decode cX3_balanceLimb 12 = .ok (.aload_n 0, 1) := by decide +kernel
theorem dX3_balanceLimb_13 : decode cX3_balanceLimb 13 = .ok (.iload_n 1, 1) := by decide +kernel
theorem dX3_balanceLimb_14 : decode cX3_balanceLimb 14 = .ok (.invokevirtual 88, 3) := by decide +kernel
theorem dX3_balanceLimb_17 : decode cX3_balanceLimb 17 = .ok (.ifCond .ne 7, 3) := by decide +kernel
theorem dX3_balanceLimb_20 : decode cX3_balanceLimb 20 = .ok (.iload_n 2, 1) := by decide +kernel
theorem dX3_balanceLimb_21 : decode cX3_balanceLimb 21 = .ok (.ifCond .ge 5, 3) := by decide +kernel
theorem dX3_balanceLimb_24 : decode cX3_balanceLimb 24 = .ok (.iconst (-1), 1) := by decide +kernel
theorem dX3_balanceLimb_25 : decode cX3_balanceLimb 25 = .ok (.ireturn, 1) := by decide +kernel
theorem dX3_balanceLimb_26 : decode cX3_balanceLimb 26 = .ok (.iload_n 2, 1) := by decide +kernel
theorem dX3_balanceLimb_27 : decode cX3_balanceLimb 27 = .ok (.bipush 22, 2) := by decide +kernel
theorem dX3_balanceLimb_29 : decode cX3_balanceLimb 29 = .ok (.if_icmp .ge 17, 3) := by decide +kernel
theorem dX3_balanceLimb_32 : decode cX3_balanceLimb 32 = .ok (.aload_n 0, 1) := by decide +kernel
theorem dX3_balanceLimb_33 : decode cX3_balanceLimb 33 = .ok (.getfield 13, 3) := by decide +kernel
theorem dX3_balanceLimb_36 : decode cX3_balanceLimb 36 = .ok (.bipush 22, 2) := by decide +kernel
theorem dX3_balanceLimb_38 : decode cX3_balanceLimb 38 = .ok (.iload_n 1, 1) := by decide +kernel
theorem dX3_balanceLimb_39 : decode cX3_balanceLimb 39 = .ok (.imul, 1) := by decide +kernel
theorem dX3_balanceLimb_40 : decode cX3_balanceLimb 40 = .ok (.iload_n 2, 1) := by decide +kernel
theorem dX3_balanceLimb_41 : decode cX3_balanceLimb 41 = .ok (.iadd, 1) := by decide +kernel
theorem dX3_balanceLimb_42 : decode cX3_balanceLimb 42 = .ok (.iaload, 1) := by decide +kernel
theorem dX3_balanceLimb_43 : decode cX3_balanceLimb 43 = .ok (.goto 4, 3) := by decide +kernel
theorem dX3_balanceLimb_46 : decode cX3_balanceLimb 46 = .ok (.iconst 0, 1) := by decide +kernel
theorem dX3_balanceLimb_47 : decode cX3_balanceLimb 47 = .ok (.ireturn, 1) := by decide +kernel
theorem dX3_totalLimb_0 : decode cX3_totalLimb 0 = .ok (.aload_n 0, 1) := by decide +kernel
theorem dX3_totalLimb_1 : decode cX3_totalLimb 1 = .ok (.iconst 0, 1) := by decide +kernel
theorem dX3_totalLimb_2 : decode cX3_totalLimb 2 = .ok (.putfield 1, 3) := by decide +kernel
theorem dX3_totalLimb_5 : decode cX3_totalLimb 5 = .ok (.aload_n 0, 1) := by decide +kernel
theorem dX3_totalLimb_6 : decode cX3_totalLimb 6 = .ok (.getfield 52, 3) := by decide +kernel
theorem dX3_totalLimb_9 : decode cX3_totalLimb 9 = .ok (.ifCond .eq 7, 3) := by decide +kernel
theorem dX3_totalLimb_12 : decode cX3_totalLimb 12 = .ok (.iload_n 1, 1) := by decide +kernel
theorem dX3_totalLimb_13 : decode cX3_totalLimb 13 = .ok (.ifCond .ge 5, 3) := by decide +kernel
theorem dX3_totalLimb_16 : decode cX3_totalLimb 16 = .ok (.iconst (-1), 1) := by decide +kernel
theorem dX3_totalLimb_17 : decode cX3_totalLimb 17 = .ok (.ireturn, 1) := by decide +kernel
theorem dX3_totalLimb_18 : decode cX3_totalLimb 18 = .ok (.iload_n 1, 1) := by decide +kernel
theorem dX3_totalLimb_19 : decode cX3_totalLimb 19 = .ok (.bipush 22, 2) := by decide +kernel
theorem dX3_totalLimb_21 : decode cX3_totalLimb 21 = .ok (.if_icmp .ge 16, 3) := by decide +kernel
theorem dX3_totalLimb_24 : decode cX3_totalLimb 24 = .ok (.aload_n 0, 1) := by decide +kernel
theorem dX3_totalLimb_25 : decode cX3_totalLimb 25 = .ok (.getfield 13, 3) := by decide +kernel
theorem dX3_totalLimb_28 : decode cX3_totalLimb 28 = .ok (.sipush 528, 3) := by decide +kernel
theorem dX3_totalLimb_31 : decode cX3_totalLimb 31 = .ok (.iload_n 1, 1) := by decide +kernel
theorem dX3_totalLimb_32 : decode cX3_totalLimb 32 = .ok (.iadd, 1) := by decide +kernel
theorem dX3_totalLimb_33 : decode cX3_totalLimb 33 = .ok (.iaload, 1) := by decide +kernel
theorem dX3_totalLimb_34 : decode cX3_totalLimb 34 = .ok (.goto 4, 3) := by decide +kernel
theorem dX3_totalLimb_37 : decode cX3_totalLimb 37 = .ok (.iconst 0, 1) := by decide +kernel
theorem dX3_totalLimb_38 : decode cX3_totalLimb 38 = .ok (.ireturn, 1) := by decide +kernel
theorem dX3_amount_0 : decode cX3_amount 0 = .ok (.aload_n 0, 1) := by decide +kernel
theorem dX3_amount_1 : decode cX3_amount 1 = .ok (.iconst 0, 1) := by decide +kernel
theorem dX3_amount_2 : decode cX3_amount 2 = .ok (.putfield 1, 3) := by decide +kernel
theorem dX3_amount_5 : decode cX3_amount 5 = .ok (.aload_n 0, 1) := by decide +kernel
theorem dX3_amount_6 : decode cX3_amount 6 = .ok (.getfield 52, 3) := by decide +kernel
theorem dX3_amount_9 : decode cX3_amount 9 = .ok (.ifCond .eq 7, 3) := by decide +kernel
theorem dX3_amount_12 : decode cX3_amount 12 = .ok (.iload_n 1, 1) := by decide +kernel
theorem dX3_amount_13 : decode cX3_amount 13 = .ok (.ifCond .ge 5, 3) := by decide +kernel
theorem dX3_amount_16 : decode cX3_amount 16 = .ok (.iconst (-1), 1) := by decide +kernel
theorem dX3_amount_17 : decode cX3_amount 17 = .ok (.ireturn, 1) := by decide +kernel
theorem dX3_amount_18 : decode cX3_amount 18 = .ok (.iload_n 1, 1) := by decide +kernel
theorem dX3_amount_19 : decode cX3_amount 19 = .ok (.bipush 22, 2) := by decide +kernel
theorem dX3_amount_21 : decode cX3_amount 21 = .ok (.if_icmp .ge 12, 3) := by decide +kernel
theorem dX3_amount_24 : decode cX3_amount 24 = .ok (.aload_n 0, 1) := by decide +kernel
theorem dX3_amount_25 : decode cX3_amount 25 = .ok (.getfield 23, 3) := by decide +kernel
theorem dX3_amount_28 : decode cX3_amount 28 = .ok (.iload_n 1, 1) := by decide +kernel
theorem dX3_amount_29 : decode cX3_amount 29 = .ok (.iaload, 1) := by decide +kernel
theorem dX3_amount_30 : decode cX3_amount 30 = .ok (.goto 4, 3) := by decide +kernel
theorem dX3_amount_33 : decode cX3_amount 33 = .ok (.iconst 0, 1) := by decide +kernel
theorem dX3_amount_34 : decode cX3_amount 34 = .ok (.ireturn, 1) := by decide +kernel
theorem dX3_compare_0 : decode cX3_compare 0 = .ok (.aload_n 0, 1) := by decide +kernel
theorem dX3_compare_1 : decode cX3_compare 1 = .ok (.iconst 0, 1) := by decide +kernel
theorem dX3_compare_2 : decode cX3_compare 2 = .ok (.putfield 1, 3) := by decide +kernel
theorem dX3_compare_5 : decode cX3_compare 5 = .ok (.aload_n 0, 1) := by decide +kernel
theorem dX3_compare_6 : decode cX3_compare 6 = .ok (.getfield 52, 3) := by decide +kernel
theorem dX3_compare_9 : decode cX3_compare 9 = .ok (.ifCond .eq 19, 3) := by decide +kernel
theorem dX3_compare_12 : decode cX3_compare 12 = .ok (.aload_n 0, 1) := by decide +kernel
theorem dX3_compare_13 : decode cX3_compare 13 = .ok (.iload_n 1, 1) := by decide +kernel
theorem dX3_compare_14 : decode cX3_compare 14 = .ok (.invokevirtual 88, 3) := by decide +kernel
theorem dX3_compare_17 : decode cX3_compare 17 = .ok (.ifCond .ne 11, 3) := by decide +kernel
theorem dX3_compare_20 : decode cX3_compare 20 = .ok (.aload_n 0, 1) := by decide +kernel
theorem dX3_compare_21 : decode cX3_compare 21 = .ok (.iload_n 2, 1) := by decide +kernel
theorem dX3_compare_22 : decode cX3_compare 22 = .ok (.invokevirtual 88, 3) := by decide +kernel
theorem dX3_compare_25 : decode cX3_compare 25 = .ok (.ifCond .eq 8, 3) := by decide +kernel
theorem dX3_compare_28 : decode cX3_compare 28 = .ok (.bipush (-2), 2) := by decide +kernel
theorem dX3_compare_30 : decode cX3_compare 30 = .ok (.goto 22, 3) := by decide +kernel
theorem dX3_compare_33 : decode cX3_compare 33 = .ok (.aload_n 0, 1) := by decide +kernel
theorem dX3_compare_34 : decode cX3_compare 34 = .ok (.getfield 13, 3) := by decide +kernel
theorem dX3_compare_37 : decode cX3_compare 37 = .ok (.bipush 22, 2) := by decide +kernel
theorem dX3_compare_39 : decode cX3_compare 39 = .ok (.iload_n 1, 1) := by decide +kernel
theorem dX3_compare_40 : decode cX3_compare 40 = .ok (.imul, 1) := by decide +kernel
theorem dX3_compare_41 : decode cX3_compare 41 = .ok (.aload_n 0, 1) := by decide +kernel
theorem dX3_compare_42 : decode cX3_compare 42 = .ok (.getfield 13, 3) := by decide +kernel
theorem dX3_compare_45 : decode cX3_compare 45 = .ok (.bipush 22, 2) := by decide +kernel
theorem dX3_compare_47 : decode cX3_compare 47 = .ok (.iload_n 2, 1) := by decide +kernel
theorem dX3_compare_48 : decode cX3_compare 48 = .ok (.imul, 1) := by decide +kernel
theorem dX3_compare_49 : decode cX3_compare 49 = .ok (.invokestatic 103, 3) := by decide +kernel
theorem dX3_compare_52 : decode cX3_compare 52 = .ok (.ireturn, 1) := by decide +kernel
theorem dX3_write_0 : decode cX3_write 0 = .ok (.aload_n 0, 1) := by decide +kernel
theorem dX3_write_1 : decode cX3_write 1 = .ok (.iconst 0, 1) := by decide +kernel
theorem dX3_write_2 : decode cX3_write 2 = .ok (.putfield 1, 3) := by decide +kernel
theorem dX3_write_5 : decode cX3_write 5 = .ok (.aload_n 0, 1) := by decide +kernel
theorem dX3_write_6 : decode cX3_write 6 = .ok (.getfield 52, 3) := by decide +kernel
theorem dX3_write_9 : decode cX3_write 9 = .ok (.ifCond .eq 11, 3) := by decide +kernel
theorem dX3_write_12 : decode cX3_write 12 = .ok (.aload_n 0, 1) := by decide +kernel
theorem dX3_write_13 : decode cX3_write 13 = .ok (.iload_n 1, 1) := by decide +kernel
theorem dX3_write_14 : decode cX3_write 14 = .ok (.invokevirtual 88, 3) := by decide +kernel
theorem dX3_write_17 : decode cX3_write 17 = .ok (.ifCond .eq 5, 3) := by decide +kernel
theorem dX3_write_20 : decode cX3_write 20 = .ok (.iconst (-1), 1) := by decide +kernel
theorem dX3_write_21 : decode cX3_write 21 = .ok (.ireturn, 1) := by decide +kernel
theorem dX3_write_22 : decode cX3_write 22 = .ok (.iconst 0, 1) := by decide +kernel
theorem dX3_write_23 : decode cX3_write 23 = .ok (.istore_n 2, 1) := by decide +kernel
theorem dX3_write_24 : decode cX3_write 24 = .ok (.iload_n 2, 1) := by decide +kernel
theorem dX3_write_25 : decode cX3_write 25 = .ok (.bipush 22, 2) := by decide +kernel
theorem dX3_write_27 : decode cX3_write 27 = .ok (.if_icmp .ge 26, 3) := by decide +kernel
theorem dX3_write_30 : decode cX3_write 30 = .ok (.aload_n 0, 1) := by decide +kernel
theorem dX3_write_31 : decode cX3_write 31 = .ok (.getfield 26, 3) := by decide +kernel
theorem dX3_write_34 : decode cX3_write 34 = .ok (.iload_n 2, 1) := by decide +kernel
theorem dX3_write_35 : decode cX3_write 35 = .ok (.aload_n 0, 1) := by decide +kernel
theorem dX3_write_36 : decode cX3_write 36 = .ok (.getfield 13, 3) := by decide +kernel
theorem dX3_write_39 : decode cX3_write 39 = .ok (.bipush 22, 2) := by decide +kernel
theorem dX3_write_41 : decode cX3_write 41 = .ok (.iload_n 1, 1) := by decide +kernel
theorem dX3_write_42 : decode cX3_write 42 = .ok (.imul, 1) := by decide +kernel
theorem dX3_write_43 : decode cX3_write 43 = .ok (.iload_n 2, 1) := by decide +kernel
theorem dX3_write_44 : decode cX3_write 44 = .ok (.iadd, 1) := by decide +kernel
theorem dX3_write_45 : decode cX3_write 45 = .ok (.iaload, 1) := by decide +kernel
theorem dX3_write_46 : decode cX3_write 46 = .ok (.iastore, 1) := by decide +kernel
theorem dX3_write_47 : decode cX3_write 47 = .ok (.iinc 2 1, 3) := by decide +kernel
theorem dX3_write_50 : decode cX3_write 50 = .ok (.goto (-26), 3) := by decide +kernel
theorem dX3_write_53 : decode cX3_write 53 = .ok (.iconst 0, 1) := by decide +kernel
theorem dX3_write_54 : decode cX3_write 54 = .ok (.istore_n 2, 1) := by decide +kernel
theorem dX3_write_55 : decode cX3_write 55 = .ok (.lconst 0, 1) := by decide +kernel
theorem dX3_write_56 : decode cX3_write 56 = .ok (.lstore_n 3, 1) := by decide +kernel
theorem dX3_write_57 : decode cX3_write 57 = .ok (.bipush 21, 2) := by decide +kernel
theorem dX3_write_59 : decode cX3_write 59 = .ok (.istore 5, 2) := by decide +kernel
theorem dX3_write_61 : decode cX3_write 61 = .ok (.iload 5, 2) := by decide +kernel
theorem dX3_write_63 : decode cX3_write 63 = .ok (.ifCond .lt 43, 3) := by decide +kernel
theorem dX3_write_66 : decode cX3_write 66 = .ok (.lload_n 3, 1) := by decide +kernel
theorem dX3_write_67 : decode cX3_write 67 = .ok (.ldc2_w 86, 3) := by decide +kernel
theorem dX3_write_70 : decode cX3_write 70 = .ok (.lmul, 1) := by decide +kernel
theorem dX3_write_71 : decode cX3_write 71 = .ok (.aload_n 0, 1) := by decide +kernel
theorem dX3_write_72 : decode cX3_write 72 = .ok (.getfield 26, 3) := by decide +kernel
theorem dX3_write_75 : decode cX3_write 75 = .ok (.iload 5, 2) := by decide +kernel
theorem dX3_write_77 : decode cX3_write 77 = .ok (.iaload, 1) := by decide +kernel
theorem dX3_write_78 : decode cX3_write 78 = .ok (.i2l, 1) := by decide +kernel
theorem dX3_write_79 : decode cX3_write 79 = .ok (.ladd, 1) := by decide +kernel
theorem dX3_write_80 : decode cX3_write 80 = .ok (.lstore_n 3, 1) := by decide +kernel
theorem dX3_write_81 : decode cX3_write 81 = .ok (.aload_n 0, 1) := by decide +kernel
theorem dX3_write_82 : decode cX3_write 82 = .ok (.getfield 26, 3) := by decide +kernel
theorem dX3_write_85 : decode cX3_write 85 = .ok (.iload 5, 2) := by decide +kernel
theorem dX3_write_87 : decode cX3_write 87 = .ok (.lload_n 3, 1) := by decide +kernel
theorem dX3_write_88 : decode cX3_write 88 = .ok (.ldc2_w 111, 3) := by decide +kernel
theorem dX3_write_91 : decode cX3_write 91 = .ok (.ldiv, 1) := by decide +kernel
theorem dX3_write_92 : decode cX3_write 92 = .ok (.l2i, 1) := by decide +kernel
theorem dX3_write_93 : decode cX3_write 93 = .ok (.iastore, 1) := by decide +kernel
theorem dX3_write_94 : decode cX3_write 94 = .ok (.lload_n 3, 1) := by decide +kernel
theorem dX3_write_95 : decode cX3_write 95 = .ok (.ldc2_w 111, 3) := by decide +kernel
theorem dX3_write_98 : decode cX3_write 98 = .ok (.lrem, 1) := by decide +kernel
theorem dX3_write_99 : decode cX3_write 99 = .ok (.lstore_n 3, 1) := by decide +kernel
theorem dX3_write_100 : decode cX3_write 100 = .ok (.iinc 5 (-1), 3) := by decide +kernel
theorem dX3_write_103 : decode cX3_write 103 = .ok (.goto (-42), 3) := by decide +kernel
theorem dX3_write_106 : decode cX3_write 106 = .ok (.aload_n 0, 1) := by decide +kernel
theorem dX3_write_107 : decode cX3_write 107 = .ok (.getfield 39, 3) := by decide +kernel
theorem dX3_write_110 : decode cX3_write 110 = .ok (.iload_n 2, 1) := by decide +kernel
theorem dX3_write_111 : decode cX3_write 111 = .ok (.ldc2_w 113, 3) := by decide +kernel
theorem dX3_write_114 : decode cX3_write 114 = .ok (.lload_n 3, 1) := by decide +kernel
theorem dX3_write_115 : decode cX3_write 115 = .ok (.ladd, 1) := by decide +kernel
theorem dX3_write_116 : decode cX3_write 116 = .ok (.l2i, 1) := by decide +kernel
theorem dX3_write_117 : decode cX3_write 117 = .ok (.i2b, 1) := by decide +kernel
theorem dX3_write_118 : decode cX3_write 118 = .ok (.bastore, 1) := by decide +kernel
theorem dX3_write_119 : decode cX3_write 119 = .ok (.iinc 2 1, 3) := by decide +kernel
theorem dX3_write_122 : decode cX3_write 122 = .ok (.aload_n 0, 1) := by decide +kernel
theorem dX3_write_123 : decode cX3_write 123 = .ok (.getfield 26, 3) := by decide +kernel
theorem dX3_write_126 : decode cX3_write 126 = .ok (.iconst 0, 1) := by decide +kernel
theorem dX3_write_127 : decode cX3_write 127 = .ok (.invokestatic 107, 3) := by decide +kernel
theorem dX3_write_130 : decode cX3_write 130 = .ok (.ifCond .gt (-75), 3) := by decide +kernel
theorem dX3_write_133 : decode cX3_write 133 = .ok (.iconst 0, 1) := by decide +kernel
theorem dX3_write_134 : decode cX3_write 134 = .ok (.istore_n 3, 1) := by decide +kernel
theorem dX3_write_135 : decode cX3_write 135 = .ok (.iload_n 2, 1) := by decide +kernel
theorem dX3_write_136 : decode cX3_write 136 = .ok (.iconst 1, 1) := by decide +kernel
theorem dX3_write_137 : decode cX3_write 137 = .ok (.isub, 1) := by decide +kernel
theorem dX3_write_138 : decode cX3_write 138 = .ok (.istore 4, 2) := by decide +kernel
theorem dX3_write_140 : decode cX3_write 140 = .ok (.iload_n 3, 1) := by decide +kernel
theorem dX3_write_141 : decode cX3_write 141 = .ok (.iload 4, 2) := by decide +kernel
theorem dX3_write_143 : decode cX3_write 143 = .ok (.if_icmp .ge 42, 3) := by decide +kernel
theorem dX3_write_146 : decode cX3_write 146 = .ok (.aload_n 0, 1) := by decide +kernel
theorem dX3_write_147 : decode cX3_write 147 = .ok (.getfield 39, 3) := by decide +kernel
theorem dX3_write_150 : decode cX3_write 150 = .ok (.iload_n 3, 1) := by decide +kernel
theorem dX3_write_151 : decode cX3_write 151 = .ok (.baload, 1) := by decide +kernel
theorem dX3_write_152 : decode cX3_write 152 = .ok (.istore 5, 2) := by decide +kernel
theorem dX3_write_154 : decode cX3_write 154 = .ok (.aload_n 0, 1) := by decide +kernel
theorem dX3_write_155 : decode cX3_write 155 = .ok (.getfield 39, 3) := by decide +kernel
theorem dX3_write_158 : decode cX3_write 158 = .ok (.iload_n 3, 1) := by decide +kernel
theorem dX3_write_159 : decode cX3_write 159 = .ok (.aload_n 0, 1) := by decide +kernel
theorem dX3_write_160 : decode cX3_write 160 = .ok (.getfield 39, 3) := by decide +kernel
theorem dX3_write_163 : decode cX3_write 163 = .ok (.iload 4, 2) := by decide +kernel
theorem dX3_write_165 : decode cX3_write 165 = .ok (.baload, 1) := by decide +kernel
theorem dX3_write_166 : decode cX3_write 166 = .ok (.bastore, 1) := by decide +kernel
theorem dX3_write_167 : decode cX3_write 167 = .ok (.aload_n 0, 1) := by decide +kernel
theorem dX3_write_168 : decode cX3_write 168 = .ok (.getfield 39, 3) := by decide +kernel
theorem dX3_write_171 : decode cX3_write 171 = .ok (.iload 4, 2) := by decide +kernel
theorem dX3_write_173 : decode cX3_write 173 = .ok (.iload 5, 2) := by decide +kernel
theorem dX3_write_175 : decode cX3_write 175 = .ok (.bastore, 1) := by decide +kernel
theorem dX3_write_176 : decode cX3_write 176 = .ok (.iinc 3 1, 3) := by decide +kernel
theorem dX3_write_179 : decode cX3_write 179 = .ok (.iinc 4 (-1), 3) := by decide +kernel
theorem dX3_write_182 : decode cX3_write 182 = .ok (.goto (-42), 3) := by decide +kernel
theorem dX3_write_185 : decode cX3_write 185 = .ok (.aload_n 0, 1) := by decide +kernel
theorem dX3_write_186 : decode cX3_write 186 = .ok (.iload_n 2, 1) := by decide +kernel
theorem dX3_write_187 : decode cX3_write 187 = .ok (.putfield 115, 3) := by decide +kernel
theorem dX3_write_190 : decode cX3_write 190 = .ok (.iload_n 2, 1) := by decide +kernel
theorem dX3_write_191 : decode cX3_write 191 = .ok (.ireturn, 1) := by decide +kernel
theorem dX3_octet_0 : decode cX3_octet 0 = .ok (.aload_n 0, 1) := by decide +kernel
theorem dX3_octet_1 : decode cX3_octet 1 = .ok (.iload_n 1, 1) := by decide +kernel
theorem dX3_octet_2 : decode cX3_octet 2 = .ok (.ifCond .lt 11, 3) := by decide +kernel
theorem dX3_octet_5 : decode cX3_octet 5 = .ok (.iload_n 1, 1) := by decide +kernel
theorem dX3_octet_6 : decode cX3_octet 6 = .ok (.aload_n 0, 1) := by decide +kernel
theorem dX3_octet_7 : decode cX3_octet 7 = .ok (.getfield 115, 3) := by decide +kernel
theorem dX3_octet_10 : decode cX3_octet 10 = .ok (.if_icmp .lt 7, 3) := by decide +kernel
theorem dX3_octet_13 : decode cX3_octet 13 = .ok (.iconst 1, 1) := by decide +kernel
theorem dX3_octet_14 : decode cX3_octet 14 = .ok (.goto 4, 3) := by decide +kernel
theorem dX3_octet_17 : decode cX3_octet 17 = .ok (.iconst 0, 1) := by decide +kernel
theorem dX3_octet_18 : decode cX3_octet 18 = .ok (.putfield 1, 3) := by decide +kernel
theorem dX3_octet_21 : decode cX3_octet 21 = .ok (.aload_n 0, 1) := by decide +kernel
theorem dX3_octet_22 : decode cX3_octet 22 = .ok (.getfield 1, 3) := by decide +kernel
theorem dX3_octet_25 : decode cX3_octet 25 = .ok (.iconst 1, 1) := by decide +kernel
theorem dX3_octet_26 : decode cX3_octet 26 = .ok (.if_icmp .ne 7, 3) := by decide +kernel
theorem dX3_octet_29 : decode cX3_octet 29 = .ok (.iconst 0, 1) := by decide +kernel
theorem dX3_octet_30 : decode cX3_octet 30 = .ok (.goto 9, 3) := by decide +kernel
theorem dX3_octet_33 : decode cX3_octet 33 = .ok (.aload_n 0, 1) := by decide +kernel
theorem dX3_octet_34 : decode cX3_octet 34 = .ok (.getfield 39, 3) := by decide +kernel
theorem dX3_octet_37 : decode cX3_octet 37 = .ok (.iload_n 1, 1) := by decide +kernel
theorem dX3_octet_38 : decode cX3_octet 38 = .ok (.baload, 1) := by decide +kernel
theorem dX3_octet_39 : decode cX3_octet 39 = .ok (.ireturn, 1) := by decide +kernel
theorem dX3_count_0 : decode cX3_count 0 = .ok (.aload_n 0, 1) := by decide +kernel
theorem dX3_count_1 : decode cX3_count 1 = .ok (.iconst 0, 1) := by decide +kernel
theorem dX3_count_2 : decode cX3_count 2 = .ok (.putfield 1, 3) := by decide +kernel
theorem dX3_count_5 : decode cX3_count 5 = .ok (.iload_n 1, 1) := by decide +kernel
theorem dX3_count_6 : decode cX3_count 6 = .ok (.tableswitch 124 0 8 #[50, 55, 60, 65, 70, 83, 88, 93, 115], 50) := by decide +kernel
theorem dX3_count_56 : decode cX3_count 56 = .ok (.aload_n 0, 1) := by decide +kernel
theorem dX3_count_57 : decode cX3_count 57 = .ok (.getfield 43, 3) := by decide +kernel
theorem dX3_count_60 : decode cX3_count 60 = .ok (.ireturn, 1) := by decide +kernel
theorem dX3_count_61 : decode cX3_count 61 = .ok (.aload_n 0, 1) := by decide +kernel
theorem dX3_count_62 : decode cX3_count 62 = .ok (.getfield 46, 3) := by decide +kernel
theorem dX3_count_65 : decode cX3_count 65 = .ok (.ireturn, 1) := by decide +kernel
theorem dX3_count_66 : decode cX3_count 66 = .ok (.aload_n 0, 1) := by decide +kernel
theorem dX3_count_67 : decode cX3_count 67 = .ok (.getfield 49, 3) := by decide +kernel
theorem dX3_count_70 : decode cX3_count 70 = .ok (.ireturn, 1) := by decide +kernel
theorem dX3_count_71 : decode cX3_count 71 = .ok (.aload_n 0, 1) := by decide +kernel
theorem dX3_count_72 : decode cX3_count 72 = .ok (.getfield 62, 3) := by decide +kernel
theorem dX3_count_75 : decode cX3_count 75 = .ok (.ireturn, 1) := by decide +kernel
theorem dX3_count_76 : decode cX3_count 76 = .ok (.aload_n 0, 1) := by decide +kernel
theorem dX3_count_77 : decode cX3_count 77 = .ok (.getfield 52, 3) := by decide +kernel
theorem dX3_count_80 : decode cX3_count 80 = .ok (.ifCond .eq 7, 3) := by decide +kernel
theorem dX3_count_83 : decode cX3_count 83 = .ok (.iconst 1, 1) := by decide +kernel
theorem dX3_count_84 : decode cX3_count 84 = .ok (.goto 4, 3) := by decide +kernel
theorem dX3_count_87 : decode cX3_count 87 = .ok (.iconst 0, 1) := by decide +kernel
theorem dX3_count_88 : decode cX3_count 88 = .ok (.ireturn, 1) := by decide +kernel
theorem dX3_count_89 : decode cX3_count 89 = .ok (.aload_n 0, 1) := by decide +kernel
theorem dX3_count_90 : decode cX3_count 90 = .ok (.invokevirtual 77, 3) := by decide +kernel
theorem dX3_count_93 : decode cX3_count 93 = .ok (.ireturn, 1) := by decide +kernel
theorem dX3_count_94 : decode cX3_count 94 = .ok (.aload_n 0, 1) := by decide +kernel
theorem dX3_count_95 : decode cX3_count 95 = .ok (.getfield 36, 3) := by decide +kernel
theorem dX3_count_98 : decode cX3_count 98 = .ok (.ireturn, 1) := by decide +kernel
theorem dX3_count_99 : decode cX3_count 99 = .ok (.aload_n 0, 1) := by decide +kernel
theorem dX3_count_100 : decode cX3_count 100 = .ok (.getfield 52, 3) := by decide +kernel
theorem dX3_count_103 : decode cX3_count 103 = .ok (.ifCond .eq 16, 3) := by decide +kernel
theorem dX3_count_106 : decode cX3_count 106 = .ok (.aload_n 0, 1) := by decide +kernel
theorem dX3_count_107 : decode cX3_count 107 = .ok (.getfield 13, 3) := by decide +kernel
theorem dX3_count_110 : decode cX3_count 110 = .ok (.sipush 528, 3) := by decide +kernel
theorem dX3_count_113 : decode cX3_count 113 = .ok (.invokestatic 107, 3) := by decide +kernel
theorem dX3_count_116 : decode cX3_count 116 = .ok (.goto 4, 3) := by decide +kernel
theorem dX3_count_119 : decode cX3_count 119 = .ok (.iconst 0, 1) := by decide +kernel
theorem dX3_count_120 : decode cX3_count 120 = .ok (.ireturn, 1) := by decide +kernel
theorem dX3_count_121 : decode cX3_count 121 = .ok (.aload_n 0, 1) := by decide +kernel
theorem dX3_count_122 : decode cX3_count 122 = .ok (.getfield 23, 3) := by decide +kernel
theorem dX3_count_125 : decode cX3_count 125 = .ok (.iconst 0, 1) := by decide +kernel
theorem dX3_count_126 : decode cX3_count 126 = .ok (.invokestatic 107, 3) := by decide +kernel
theorem dX3_count_129 : decode cX3_count 129 = .ok (.ireturn, 1) := by decide +kernel
theorem dX3_count_130 : decode cX3_count 130 = .ok (.iconst (-1), 1) := by decide +kernel
theorem dX3_count_131 : decode cX3_count 131 = .ok (.ireturn, 1) := by decide +kernel
theorem dJ6_compare_7cf53_0 : decode cJ6_compare_7cf53 0 = .ok (.iload_n 0, 1) := by decide +kernel
theorem dJ6_compare_7cf53_1 : decode cJ6_compare_7cf53 1 = .ok (.iload_n 1, 1) := by decide +kernel
theorem dJ6_compare_7cf53_2 : decode cJ6_compare_7cf53 2 = .ok (.if_icmp .ge 7, 3) := by decide +kernel
theorem dJ6_compare_7cf53_5 : decode cJ6_compare_7cf53 5 = .ok (.iconst (-1), 1) := by decide +kernel
theorem dJ6_compare_7cf53_6 : decode cJ6_compare_7cf53 6 = .ok (.goto 13, 3) := by decide +kernel
theorem dJ6_compare_7cf53_9 : decode cJ6_compare_7cf53 9 = .ok (.iload_n 0, 1) := by decide +kernel
theorem dJ6_compare_7cf53_10 : decode cJ6_compare_7cf53 10 = .ok (.iload_n 1, 1) := by decide +kernel
theorem dJ6_compare_7cf53_11 : decode cJ6_compare_7cf53 11 = .ok (.if_icmp .ne 7, 3) := by decide +kernel
theorem dJ6_compare_7cf53_14 : decode cJ6_compare_7cf53 14 = .ok (.iconst 0, 1) := by decide +kernel
theorem dJ6_compare_7cf53_15 : decode cJ6_compare_7cf53 15 = .ok (.goto 4, 3) := by decide +kernel
theorem dJ6_compare_7cf53_18 : decode cJ6_compare_7cf53 18 = .ok (.iconst 1, 1) := by decide +kernel
theorem dJ6_compare_7cf53_19 : decode cJ6_compare_7cf53 19 = .ok (.ireturn, 1) := by decide +kernel
theorem dJ6_bitCount_0f7a4_0 : decode cJ6_bitCount_0f7a4 0 = .ok (.iload_n 0, 1) := by decide +kernel
theorem dJ6_bitCount_0f7a4_1 : decode cJ6_bitCount_0f7a4 1 = .ok (.iload_n 0, 1) := by decide +kernel
theorem dJ6_bitCount_0f7a4_2 : decode cJ6_bitCount_0f7a4 2 = .ok (.iconst 1, 1) := by decide +kernel
theorem dJ6_bitCount_0f7a4_3 : decode cJ6_bitCount_0f7a4 3 = .ok (.iushr, 1) := by decide +kernel
theorem dJ6_bitCount_0f7a4_4 : decode cJ6_bitCount_0f7a4 4 = .ok (.ldc_w 265, 3) := by decide +kernel
theorem dJ6_bitCount_0f7a4_7 : decode cJ6_bitCount_0f7a4 7 = .ok (.iand, 1) := by decide +kernel
theorem dJ6_bitCount_0f7a4_8 : decode cJ6_bitCount_0f7a4 8 = .ok (.isub, 1) := by decide +kernel
theorem dJ6_bitCount_0f7a4_9 : decode cJ6_bitCount_0f7a4 9 = .ok (.istore_n 0, 1) := by decide +kernel
theorem dJ6_bitCount_0f7a4_10 : decode cJ6_bitCount_0f7a4 10 = .ok (.iload_n 0, 1) := by decide +kernel
theorem dJ6_bitCount_0f7a4_11 : decode cJ6_bitCount_0f7a4 11 = .ok (.ldc_w 266, 3) := by decide +kernel
theorem dJ6_bitCount_0f7a4_14 : decode cJ6_bitCount_0f7a4 14 = .ok (.iand, 1) := by decide +kernel
theorem dJ6_bitCount_0f7a4_15 : decode cJ6_bitCount_0f7a4 15 = .ok (.iload_n 0, 1) := by decide +kernel
theorem dJ6_bitCount_0f7a4_16 : decode cJ6_bitCount_0f7a4 16 = .ok (.iconst 2, 1) := by decide +kernel
theorem dJ6_bitCount_0f7a4_17 : decode cJ6_bitCount_0f7a4 17 = .ok (.iushr, 1) := by decide +kernel
theorem dJ6_bitCount_0f7a4_18 : decode cJ6_bitCount_0f7a4 18 = .ok (.ldc_w 266, 3) := by decide +kernel
theorem dJ6_bitCount_0f7a4_21 : decode cJ6_bitCount_0f7a4 21 = .ok (.iand, 1) := by decide +kernel
theorem dJ6_bitCount_0f7a4_22 : decode cJ6_bitCount_0f7a4 22 = .ok (.iadd, 1) := by decide +kernel
theorem dJ6_bitCount_0f7a4_23 : decode cJ6_bitCount_0f7a4 23 = .ok (.istore_n 0, 1) := by decide +kernel
theorem dJ6_bitCount_0f7a4_24 : decode cJ6_bitCount_0f7a4 24 = .ok (.iload_n 0, 1) := by decide +kernel
theorem dJ6_bitCount_0f7a4_25 : decode cJ6_bitCount_0f7a4 25 = .ok (.iload_n 0, 1) := by decide +kernel
theorem dJ6_bitCount_0f7a4_26 : decode cJ6_bitCount_0f7a4 26 = .ok (.iconst 4, 1) := by decide +kernel
theorem dJ6_bitCount_0f7a4_27 : decode cJ6_bitCount_0f7a4 27 = .ok (.iushr, 1) := by decide +kernel
theorem dJ6_bitCount_0f7a4_28 : decode cJ6_bitCount_0f7a4 28 = .ok (.iadd, 1) := by decide +kernel
theorem dJ6_bitCount_0f7a4_29 : decode cJ6_bitCount_0f7a4 29 = .ok (.ldc_w 267, 3) := by decide +kernel
theorem dJ6_bitCount_0f7a4_32 : decode cJ6_bitCount_0f7a4 32 = .ok (.iand, 1) := by decide +kernel
theorem dJ6_bitCount_0f7a4_33 : decode cJ6_bitCount_0f7a4 33 = .ok (.istore_n 0, 1) := by decide +kernel
theorem dJ6_bitCount_0f7a4_34 : decode cJ6_bitCount_0f7a4 34 = .ok (.iload_n 0, 1) := by decide +kernel
theorem dJ6_bitCount_0f7a4_35 : decode cJ6_bitCount_0f7a4 35 = .ok (.iload_n 0, 1) := by decide +kernel
theorem dJ6_bitCount_0f7a4_36 : decode cJ6_bitCount_0f7a4 36 = .ok (.bipush 8, 2) := by decide +kernel
theorem dJ6_bitCount_0f7a4_38 : decode cJ6_bitCount_0f7a4 38 = .ok (.iushr, 1) := by decide +kernel
theorem dJ6_bitCount_0f7a4_39 : decode cJ6_bitCount_0f7a4 39 = .ok (.iadd, 1) := by decide +kernel
theorem dJ6_bitCount_0f7a4_40 : decode cJ6_bitCount_0f7a4 40 = .ok (.istore_n 0, 1) := by decide +kernel
theorem dJ6_bitCount_0f7a4_41 : decode cJ6_bitCount_0f7a4 41 = .ok (.iload_n 0, 1) := by decide +kernel
theorem dJ6_bitCount_0f7a4_42 : decode cJ6_bitCount_0f7a4 42 = .ok (.iload_n 0, 1) := by decide +kernel
theorem dJ6_bitCount_0f7a4_43 : decode cJ6_bitCount_0f7a4 43 = .ok (.bipush 16, 2) := by decide +kernel
theorem dJ6_bitCount_0f7a4_45 : decode cJ6_bitCount_0f7a4 45 = .ok (.iushr, 1) := by decide +kernel
theorem dJ6_bitCount_0f7a4_46 : decode cJ6_bitCount_0f7a4 46 = .ok (.iadd, 1) := by decide +kernel
theorem dJ6_bitCount_0f7a4_47 : decode cJ6_bitCount_0f7a4 47 = .ok (.istore_n 0, 1) := by decide +kernel
theorem dJ6_bitCount_0f7a4_48 : decode cJ6_bitCount_0f7a4 48 = .ok (.iload_n 0, 1) := by decide +kernel
theorem dJ6_bitCount_0f7a4_49 : decode cJ6_bitCount_0f7a4 49 = .ok (.bipush 63, 2) := by decide +kernel
theorem dJ6_bitCount_0f7a4_51 : decode cJ6_bitCount_0f7a4 51 = .ok (.iand, 1) := by decide +kernel
theorem dJ6_bitCount_0f7a4_52 : decode cJ6_bitCount_0f7a4 52 = .ok (.ireturn, 1) := by decide +kernel
theorem dJ9_max_7cf53_0 : decode cJ9_max_7cf53 0 = .ok (.iload_n 0, 1) := by decide +kernel
theorem dJ9_max_7cf53_1 : decode cJ9_max_7cf53 1 = .ok (.iload_n 1, 1) := by decide +kernel
theorem dJ9_max_7cf53_2 : decode cJ9_max_7cf53 2 = .ok (.if_icmp .lt 7, 3) := by decide +kernel
theorem dJ9_max_7cf53_5 : decode cJ9_max_7cf53 5 = .ok (.iload_n 0, 1) := by decide +kernel
theorem dJ9_max_7cf53_6 : decode cJ9_max_7cf53 6 = .ok (.goto 4, 3) := by decide +kernel
theorem dJ9_max_7cf53_9 : decode cJ9_max_7cf53 9 = .ok (.iload_n 1, 1) := by decide +kernel
theorem dJ9_max_7cf53_10 : decode cJ9_max_7cf53 10 = .ok (.ireturn, 1) := by decide +kernel
theorem dJ9_min_7cf53_0 : decode cJ9_min_7cf53 0 = .ok (.iload_n 0, 1) := by decide +kernel
theorem dJ9_min_7cf53_1 : decode cJ9_min_7cf53 1 = .ok (.iload_n 1, 1) := by decide +kernel
theorem dJ9_min_7cf53_2 : decode cJ9_min_7cf53 2 = .ok (.if_icmp .gt 7, 3) := by decide +kernel
theorem dJ9_min_7cf53_5 : decode cJ9_min_7cf53 5 = .ok (.iload_n 0, 1) := by decide +kernel
theorem dJ9_min_7cf53_6 : decode cJ9_min_7cf53 6 = .ok (.goto 4, 3) := by decide +kernel
theorem dJ9_min_7cf53_9 : decode cJ9_min_7cf53 9 = .ok (.iload_n 1, 1) := by decide +kernel
theorem dJ9_min_7cf53_10 : decode cJ9_min_7cf53 10 = .ok (.ireturn, 1) := by decide +kernel
theorem dL_cell_0 : decode cL_cell 0 = .ok (.iload_n 1, 1) := by decide +kernel
theorem dL_cell_1 : decode cL_cell 1 = .ok (.aload_n 0, 1) := by decide +kernel
theorem dL_cell_2 : decode cL_cell 2 = .ok (.arraylength, 1) := by decide +kernel
theorem dL_cell_3 : decode cL_cell 3 = .ok (.if_icmp .ge 9, 3) := by decide +kernel
theorem dL_cell_6 : decode cL_cell 6 = .ok (.aload_n 0, 1) := by decide +kernel
theorem dL_cell_7 : decode cL_cell 7 = .ok (.iload_n 1, 1) := by decide +kernel
theorem dL_cell_8 : decode cL_cell 8 = .ok (.iaload, 1) := by decide +kernel
theorem dL_cell_9 : decode cL_cell 9 = .ok (.goto 4, 3) := by decide +kernel
theorem dL_cell_12 : decode cL_cell 12 = .ok (.iconst 0, 1) := by decide +kernel
theorem dL_cell_13 : decode cL_cell 13 = .ok (.ireturn, 1) := by decide +kernel
theorem dL_octet_0 : decode cL_octet 0 = .ok (.aload_n 2, 1) := by decide +kernel
theorem dL_octet_1 : decode cL_octet 1 = .ok (.iconst 0, 1) := by decide +kernel
theorem dL_octet_2 : decode cL_octet 2 = .ok (.aload_n 0, 1) := by decide +kernel
theorem dL_octet_3 : decode cL_octet 3 = .ok (.iload_n 1, 1) := by decide +kernel
theorem dL_octet_4 : decode cL_octet 4 = .ok (.invokevirtual 7, 3) := by decide +kernel
theorem dL_octet_7 : decode cL_octet 7 = .ok (.i2l, 1) := by decide +kernel
theorem dL_octet_8 : decode cL_octet 8 = .ok (.lastore, 1) := by decide +kernel
theorem dL_octet_9 : decode cL_octet 9 = .ok (.goto 6, 3) := by decide +kernel
theorem dL_octet_12 : decode cL_octet 12 = .ok (.astore_n 3, 1) := by decide +kernel
theorem dL_octet_13 : decode cL_octet 13 = .ok (.iconst 1, 1) := by decide +kernel
theorem dL_octet_14 : decode cL_octet 14 = .ok (.ireturn, 1) := by decide +kernel
theorem dL_octet_15 : decode cL_octet 15 = .ok (.iconst 0, 1) := by decide +kernel
theorem dL_octet_16 : decode cL_octet 16 = .ok (.ireturn, 1) := by decide +kernel
theorem dL_law_0 : decode cL_law 0 = .ok (.new 8, 3) := by decide +kernel
theorem dL_law_3 : decode cL_law 3 = .ok (.dup, 1) := by decide +kernel
theorem dL_law_4 : decode cL_law 4 = .ok (.aload_n 0, 1) := by decide +kernel
theorem dL_law_5 : decode cL_law 5 = .ok (.iconst 0, 1) := by decide +kernel
theorem dL_law_6 : decode cL_law 6 = .ok (.invokestatic 15, 3) := by decide +kernel
theorem dL_law_9 : decode cL_law 9 = .ok (.aload_n 0, 1) := by decide +kernel
theorem dL_law_10 : decode cL_law 10 = .ok (.iconst 1, 1) := by decide +kernel
theorem dL_law_11 : decode cL_law 11 = .ok (.invokestatic 15, 3) := by decide +kernel
theorem dL_law_14 : decode cL_law 14 = .ok (.aload_n 0, 1) := by decide +kernel
theorem dL_law_15 : decode cL_law 15 = .ok (.iconst 2, 1) := by decide +kernel
theorem dL_law_16 : decode cL_law 16 = .ok (.invokestatic 15, 3) := by decide +kernel
theorem dL_law_19 : decode cL_law 19 = .ok (.invokespecial 21, 3) := by decide +kernel
theorem dL_law_22 : decode cL_law 22 = .ok (.astore_n 1, 1) := by decide +kernel
theorem dL_law_23 : decode cL_law 23 = .ok (.new 24, 3) := by decide +kernel
theorem dL_law_26 : decode cL_law 26 = .ok (.dup, 1) := by decide +kernel
theorem dL_law_27 : decode cL_law 27 = .ok (.aload_n 0, 1) := by decide +kernel
theorem dL_law_28 : decode cL_law 28 = .ok (.iconst 0, 1) := by decide +kernel
theorem dL_law_29 : decode cL_law 29 = .ok (.invokestatic 15, 3) := by decide +kernel
theorem dL_law_32 : decode cL_law 32 = .ok (.aload_n 0, 1) := by decide +kernel
theorem dL_law_33 : decode cL_law 33 = .ok (.iconst 1, 1) := by decide +kernel
theorem dL_law_34 : decode cL_law 34 = .ok (.invokestatic 15, 3) := by decide +kernel
theorem dL_law_37 : decode cL_law 37 = .ok (.aload_n 0, 1) := by decide +kernel
theorem dL_law_38 : decode cL_law 38 = .ok (.iconst 2, 1) := by decide +kernel
theorem dL_law_39 : decode cL_law 39 = .ok (.invokestatic 15, 3) := by decide +kernel
theorem dL_law_42 : decode cL_law 42 = .ok (.invokespecial 26, 3) := by decide +kernel
theorem dL_law_45 : decode cL_law 45 = .ok (.astore_n 2, 1) := by decide +kernel
theorem dL_law_46 : decode cL_law 46 = .ok (.iconst 1, 1) := by decide +kernel
theorem dL_law_47 : decode cL_law 47 = .ok (.newarray .long, 2) := by decide +kernel
theorem dL_law_49 : decode cL_law 49 = .ok (.astore_n 3, 1) := by decide +kernel
theorem dL_law_50 : decode cL_law 50 = .ok (.iconst 3, 1) := by decide +kernel
theorem dL_law_51 : decode cL_law 51 = .ok (.istore 4, 2) := by decide +kernel
theorem dL_law_53 : decode cL_law 53 = .ok (.iload 4, 2) := by decide +kernel
theorem dL_law_55 : decode cL_law 55 = .ok (.aload_n 0, 1) := by decide +kernel
theorem dL_law_56 : decode cL_law 56 = .ok (.arraylength, 1) := by decide +kernel
theorem dL_law_57 : decode cL_law 57 = .ok (.iconst 4, 1) := by decide +kernel
theorem dL_law_58 : decode cL_law 58 = .ok (.isub, 1) := by decide +kernel
theorem dL_law_59 : decode cL_law 59 = .ok (.if_icmp .gt 611, 3) := by decide +kernel
theorem dL_law_62 : decode cL_law 62 = .ok (.aload_n 0, 1) := by decide +kernel
theorem dL_law_63 : decode cL_law 63 = .ok (.iload 4, 2) := by decide +kernel
theorem dL_law_65 : decode cL_law 65 = .ok (.iaload, 1) := by decide +kernel
theorem dL_law_66 : decode cL_law 66 = .ok (.bipush 31, 2) := by decide +kernel
theorem dL_law_68 : decode cL_law 68 = .ok (.iand, 1) := by decide +kernel
theorem dL_law_69 : decode cL_law 69 = .ok (.tableswitch 595 0 18 #[91, 104, 129, 142, 167, 192, 229, 278, 291, 304, 329, 366, 391, 416, 453, 476, 489, 514, 570], 91) := by decide +kernel
theorem dL_law_160 : decode cL_law 160 = .ok (.aload_n 1, 1) := by decide +kernel
theorem dL_law_161 : decode cL_law 161 = .ok (.invokevirtual 27, 3) := by decide +kernel
theorem dL_law_164 : decode cL_law 164 = .ok (.aload_n 2, 1) := by decide +kernel
theorem dL_law_165 : decode cL_law 165 = .ok (.invokevirtual 31, 3) := by decide +kernel
theorem dL_law_168 : decode cL_law 168 = .ok (.if_icmp .eq 496, 3) := by decide +kernel
theorem dL_law_171 : decode cL_law 171 = .ok (.iconst 0, 1) := by decide +kernel
theorem dL_law_172 : decode cL_law 172 = .ok (.ireturn, 1) := by decide +kernel
theorem dL_law_173 : decode cL_law 173 = .ok (.aload_n 1, 1) := by decide +kernel
theorem dL_law_174 : decode cL_law 174 = .ok (.aload_n 0, 1) := by decide +kernel
theorem dL_law_175 : decode cL_law 175 = .ok (.iload 4, 2) := by decide +kernel
theorem dL_law_177 : decode cL_law 177 = .ok (.iconst 1, 1) := by decide +kernel
theorem dL_law_178 : decode cL_law 178 = .ok (.iadd, 1) := by decide +kernel
theorem dL_law_179 : decode cL_law 179 = .ok (.iaload, 1) := by decide +kernel
theorem dL_law_180 : decode cL_law 180 = .ok (.invokevirtual 32, 3) := by decide +kernel
theorem dL_law_183 : decode cL_law 183 = .ok (.aload_n 2, 1) := by decide +kernel
theorem dL_law_184 : decode cL_law 184 = .ok (.aload_n 0, 1) := by decide +kernel
theorem dL_law_185 : decode cL_law 185 = .ok (.iload 4, 2) := by decide +kernel
theorem dL_law_187 : decode cL_law 187 = .ok (.iconst 1, 1) := by decide +kernel
theorem dL_law_188 : decode cL_law 188 = .ok (.iadd, 1) := by decide +kernel
theorem dL_law_189 : decode cL_law 189 = .ok (.iaload, 1) := by decide +kernel
theorem dL_law_190 : decode cL_law 190 = .ok (.invokevirtual 36, 3) := by decide +kernel
theorem dL_law_193 : decode cL_law 193 = .ok (.if_icmp .eq 471, 3) := by decide +kernel
theorem dL_law_196 : decode cL_law 196 = .ok (.iconst 0, 1) := by decide +kernel
theorem dL_law_197 : decode cL_law 197 = .ok (.ireturn, 1) := by decide +kernel
theorem dL_law_198 : decode cL_law 198 = .ok (.aload_n 1, 1) := by decide +kernel
theorem dL_law_199 : decode cL_law 199 = .ok (.invokevirtual 37, 3) := by decide +kernel
theorem dL_law_202 : decode cL_law 202 = .ok (.aload_n 2, 1) := by decide +kernel
theorem dL_law_203 : decode cL_law 203 = .ok (.invokevirtual 40, 3) := by decide +kernel
theorem dL_law_206 : decode cL_law 206 = .ok (.if_icmp .eq 458, 3) := by decide +kernel
theorem dL_law_209 : decode cL_law 209 = .ok (.iconst 0, 1) := by decide +kernel
theorem dL_law_210 : decode cL_law 210 = .ok (.ireturn, 1) := by decide +kernel
theorem dL_law_211 : decode cL_law 211 = .ok (.aload_n 1, 1) := by decide +kernel
theorem dL_law_212 : decode cL_law 212 = .ok (.aload_n 0, 1) := by decide +kernel
theorem dL_law_213 : decode cL_law 213 = .ok (.iload 4, 2) := by decide +kernel
theorem dL_law_215 : decode cL_law 215 = .ok (.iconst 1, 1) := by decide +kernel
theorem dL_law_216 : decode cL_law 216 = .ok (.iadd, 1) := by decide +kernel
theorem dL_law_217 : decode cL_law 217 = .ok (.iaload, 1) := by decide +kernel
theorem dL_law_218 : decode cL_law 218 = .ok (.invokevirtual 41, 3) := by decide +kernel
theorem dL_law_221 : decode cL_law 221 = .ok (.aload_n 2, 1) := by decide +kernel
theorem dL_law_222 : decode cL_law 222 = .ok (.aload_n 0, 1) := by decide +kernel
theorem dL_law_223 : decode cL_law 223 = .ok (.iload 4, 2) := by decide +kernel
theorem dL_law_225 : decode cL_law 225 = .ok (.iconst 1, 1) := by decide +kernel
theorem dL_law_226 : decode cL_law 226 = .ok (.iadd, 1) := by decide +kernel
theorem dL_law_227 : decode cL_law 227 = .ok (.iaload, 1) := by decide +kernel
theorem dL_law_228 : decode cL_law 228 = .ok (.invokevirtual 44, 3) := by decide +kernel
theorem dL_law_231 : decode cL_law 231 = .ok (.if_icmp .eq 433, 3) := by decide +kernel
theorem dL_law_234 : decode cL_law 234 = .ok (.iconst 0, 1) := by decide +kernel
theorem dL_law_235 : decode cL_law 235 = .ok (.ireturn, 1) := by decide +kernel
theorem dL_law_236 : decode cL_law 236 = .ok (.aload_n 1, 1) := by decide +kernel
theorem dL_law_237 : decode cL_law 237 = .ok (.aload_n 0, 1) := by decide +kernel
theorem dL_law_238 : decode cL_law 238 = .ok (.iload 4, 2) := by decide +kernel
theorem dL_law_240 : decode cL_law 240 = .ok (.iconst 1, 1) := by decide +kernel
theorem dL_law_241 : decode cL_law 241 = .ok (.iadd, 1) := by decide +kernel
theorem dL_law_242 : decode cL_law 242 = .ok (.iaload, 1) := by decide +kernel
theorem dL_law_243 : decode cL_law 243 = .ok (.invokevirtual 45, 3) := by decide +kernel
theorem dL_law_246 : decode cL_law 246 = .ok (.aload_n 2, 1) := by decide +kernel
theorem dL_law_247 : decode cL_law 247 = .ok (.aload_n 0, 1) := by decide +kernel
theorem dL_law_248 : decode cL_law 248 = .ok (.iload 4, 2) := by decide +kernel
theorem dL_law_250 : decode cL_law 250 = .ok (.iconst 1, 1) := by decide +kernel
theorem dL_law_251 : decode cL_law 251 = .ok (.iadd, 1) := by decide +kernel
theorem dL_law_252 : decode cL_law 252 = .ok (.iaload, 1) := by decide +kernel
theorem dL_law_253 : decode cL_law 253 = .ok (.invokevirtual 48, 3) := by decide +kernel
theorem dL_law_256 : decode cL_law 256 = .ok (.if_icmp .eq 408, 3) := by decide +kernel
theorem dL_law_259 : decode cL_law 259 = .ok (.iconst 0, 1) := by decide +kernel
theorem dL_law_260 : decode cL_law 260 = .ok (.ireturn, 1) := by decide +kernel
theorem dL_law_261 : decode cL_law 261 = .ok (.aload_n 1, 1) := by decide +kernel
theorem dL_law_262 : decode cL_law 262 = .ok (.aload_n 0, 1) := by decide +kernel
theorem dL_law_263 : decode cL_law 263 = .ok (.iload 4, 2) := by decide +kernel
theorem dL_law_265 : decode cL_law 265 = .ok (.iconst 1, 1) := by decide +kernel
theorem dL_law_266 : decode cL_law 266 = .ok (.iadd, 1) := by decide +kernel
theorem dL_law_267 : decode cL_law 267 = .ok (.iaload, 1) := by decide +kernel
theorem dL_law_268 : decode cL_law 268 = .ok (.aload_n 0, 1) := by decide +kernel
theorem dL_law_269 : decode cL_law 269 = .ok (.iload 4, 2) := by decide +kernel
theorem dL_law_271 : decode cL_law 271 = .ok (.iconst 2, 1) := by decide +kernel
theorem dL_law_272 : decode cL_law 272 = .ok (.iadd, 1) := by decide +kernel
theorem dL_law_273 : decode cL_law 273 = .ok (.iaload, 1) := by decide +kernel
theorem dL_law_274 : decode cL_law 274 = .ok (.invokevirtual 49, 3) := by decide +kernel
theorem dL_law_277 : decode cL_law 277 = .ok (.aload_n 2, 1) := by decide +kernel
theorem dL_law_278 : decode cL_law 278 = .ok (.aload_n 0, 1) := by decide +kernel
theorem dL_law_279 : decode cL_law 279 = .ok (.iload 4, 2) := by decide +kernel
theorem dL_law_281 : decode cL_law 281 = .ok (.iconst 1, 1) := by decide +kernel
theorem dL_law_282 : decode cL_law 282 = .ok (.iadd, 1) := by decide +kernel
theorem dL_law_283 : decode cL_law 283 = .ok (.iaload, 1) := by decide +kernel
theorem dL_law_284 : decode cL_law 284 = .ok (.aload_n 0, 1) := by decide +kernel
theorem dL_law_285 : decode cL_law 285 = .ok (.iload 4, 2) := by decide +kernel
theorem dL_law_287 : decode cL_law 287 = .ok (.iconst 2, 1) := by decide +kernel
theorem dL_law_288 : decode cL_law 288 = .ok (.iadd, 1) := by decide +kernel
theorem dL_law_289 : decode cL_law 289 = .ok (.iaload, 1) := by decide +kernel
theorem dL_law_290 : decode cL_law 290 = .ok (.invokevirtual 53, 3) := by decide +kernel
theorem dL_law_293 : decode cL_law 293 = .ok (.if_icmp .eq 371, 3) := by decide +kernel
theorem dL_law_296 : decode cL_law 296 = .ok (.iconst 0, 1) := by decide +kernel
theorem dL_law_297 : decode cL_law 297 = .ok (.ireturn, 1) := by decide +kernel
theorem dL_law_298 : decode cL_law 298 = .ok (.aload_n 1, 1) := by decide +kernel
theorem dL_law_299 : decode cL_law 299 = .ok (.aload_n 0, 1) := by decide +kernel
theorem dL_law_300 : decode cL_law 300 = .ok (.iload 4, 2) := by decide +kernel
theorem dL_law_302 : decode cL_law 302 = .ok (.iconst 1, 1) := by decide +kernel
theorem dL_law_303 : decode cL_law 303 = .ok (.iadd, 1) := by decide +kernel
theorem dL_law_304 : decode cL_law 304 = .ok (.iaload, 1) := by decide +kernel
theorem dL_law_305 : decode cL_law 305 = .ok (.aload_n 0, 1) := by decide +kernel
theorem dL_law_306 : decode cL_law 306 = .ok (.iload 4, 2) := by decide +kernel
theorem dL_law_308 : decode cL_law 308 = .ok (.iconst 2, 1) := by decide +kernel
theorem dL_law_309 : decode cL_law 309 = .ok (.iadd, 1) := by decide +kernel
theorem dL_law_310 : decode cL_law 310 = .ok (.iaload, 1) := by decide +kernel
theorem dL_law_311 : decode cL_law 311 = .ok (.aload_n 0, 1) := by decide +kernel
theorem dL_law_312 : decode cL_law 312 = .ok (.iload 4, 2) := by decide +kernel
theorem dL_law_314 : decode cL_law 314 = .ok (.iconst 3, 1) := by decide +kernel
theorem dL_law_315 : decode cL_law 315 = .ok (.iadd, 1) := by decide +kernel
theorem dL_law_316 : decode cL_law 316 = .ok (.iaload, 1) := by decide +kernel
theorem dL_law_317 : decode cL_law 317 = .ok (.invokevirtual 54, 3) := by decide +kernel
theorem dL_law_320 : decode cL_law 320 = .ok (.aload_n 2, 1) := by decide +kernel
theorem dL_law_321 : decode cL_law 321 = .ok (.aload_n 0, 1) := by decide +kernel
theorem dL_law_322 : decode cL_law 322 = .ok (.iload 4, 2) := by decide +kernel
theorem dL_law_324 : decode cL_law 324 = .ok (.iconst 1, 1) := by decide +kernel
theorem dL_law_325 : decode cL_law 325 = .ok (.iadd, 1) := by decide +kernel
theorem dL_law_326 : decode cL_law 326 = .ok (.iaload, 1) := by decide +kernel
theorem dL_law_327 : decode cL_law 327 = .ok (.aload_n 0, 1) := by decide +kernel
theorem dL_law_328 : decode cL_law 328 = .ok (.iload 4, 2) := by decide +kernel
theorem dL_law_330 : decode cL_law 330 = .ok (.iconst 2, 1) := by decide +kernel
theorem dL_law_331 : decode cL_law 331 = .ok (.iadd, 1) := by decide +kernel
theorem dL_law_332 : decode cL_law 332 = .ok (.iaload, 1) := by decide +kernel
theorem dL_law_333 : decode cL_law 333 = .ok (.aload_n 0, 1) := by decide +kernel
theorem dL_law_334 : decode cL_law 334 = .ok (.iload 4, 2) := by decide +kernel
theorem dL_law_336 : decode cL_law 336 = .ok (.iconst 3, 1) := by decide +kernel
theorem dL_law_337 : decode cL_law 337 = .ok (.iadd, 1) := by decide +kernel
theorem dL_law_338 : decode cL_law 338 = .ok (.iaload, 1) := by decide +kernel
theorem dL_law_339 : decode cL_law 339 = .ok (.invokevirtual 58, 3) := by decide +kernel
theorem dL_law_342 : decode cL_law 342 = .ok (.if_icmp .eq 322, 3) := by decide +kernel
theorem dL_law_345 : decode cL_law 345 = .ok (.iconst 0, 1) := by decide +kernel
theorem dL_law_346 : decode cL_law 346 = .ok (.ireturn, 1) := by decide +kernel
theorem dL_law_347 : decode cL_law 347 = .ok (.aload_n 1, 1) := by decide +kernel
theorem dL_law_348 : decode cL_law 348 = .ok (.invokevirtual 59, 3) := by decide +kernel
theorem dL_law_351 : decode cL_law 351 = .ok (.aload_n 2, 1) := by decide +kernel
theorem dL_law_352 : decode cL_law 352 = .ok (.invokevirtual 63, 3) := by decide +kernel
theorem dL_law_355 : decode cL_law 355 = .ok (.if_icmp .eq 309, 3) := by decide +kernel
theorem dL_law_358 : decode cL_law 358 = .ok (.iconst 0, 1) := by decide +kernel
theorem dL_law_359 : decode cL_law 359 = .ok (.ireturn, 1) := by decide +kernel
theorem dL_law_360 : decode cL_law 360 = .ok (.aload_n 1, 1) := by decide +kernel
theorem dL_law_361 : decode cL_law 361 = .ok (.invokevirtual 64, 3) := by decide +kernel
theorem dL_law_364 : decode cL_law 364 = .ok (.aload_n 2, 1) := by decide +kernel
theorem dL_law_365 : decode cL_law 365 = .ok (.invokevirtual 67, 3) := by decide +kernel
theorem dL_law_368 : decode cL_law 368 = .ok (.if_icmp .eq 296, 3) := by decide +kernel
theorem dL_law_371 : decode cL_law 371 = .ok (.iconst 0, 1) := by decide +kernel
theorem dL_law_372 : decode cL_law 372 = .ok (.ireturn, 1) := by decide +kernel
theorem dL_law_373 : decode cL_law 373 = .ok (.aload_n 1, 1) := by decide +kernel
theorem dL_law_374 : decode cL_law 374 = .ok (.aload_n 0, 1) := by decide +kernel
theorem dL_law_375 : decode cL_law 375 = .ok (.iload 4, 2) := by decide +kernel
theorem dL_law_377 : decode cL_law 377 = .ok (.iconst 1, 1) := by decide +kernel
theorem dL_law_378 : decode cL_law 378 = .ok (.iadd, 1) := by decide +kernel
theorem dL_law_379 : decode cL_law 379 = .ok (.iaload, 1) := by decide +kernel
theorem dL_law_380 : decode cL_law 380 = .ok (.invokevirtual 68, 3) := by decide +kernel
theorem dL_law_383 : decode cL_law 383 = .ok (.aload_n 2, 1) := by decide +kernel
theorem dL_law_384 : decode cL_law 384 = .ok (.aload_n 0, 1) := by decide +kernel
theorem dL_law_385 : decode cL_law 385 = .ok (.iload 4, 2) := by decide +kernel
theorem dL_law_387 : decode cL_law 387 = .ok (.iconst 1, 1) := by decide +kernel
theorem dL_law_388 : decode cL_law 388 = .ok (.iadd, 1) := by decide +kernel
theorem dL_law_389 : decode cL_law 389 = .ok (.iaload, 1) := by decide +kernel
theorem dL_law_390 : decode cL_law 390 = .ok (.invokevirtual 71, 3) := by decide +kernel
theorem dL_law_393 : decode cL_law 393 = .ok (.if_icmp .eq 271, 3) := by decide +kernel
theorem dL_law_396 : decode cL_law 396 = .ok (.iconst 0, 1) := by decide +kernel
theorem dL_law_397 : decode cL_law 397 = .ok (.ireturn, 1) := by decide +kernel
theorem dL_law_398 : decode cL_law 398 = .ok (.aload_n 1, 1) := by decide +kernel
theorem dL_law_399 : decode cL_law 399 = .ok (.aload_n 0, 1) := by decide +kernel
theorem dL_law_400 : decode cL_law 400 = .ok (.iload 4, 2) := by decide +kernel
theorem dL_law_402 : decode cL_law 402 = .ok (.iconst 1, 1) := by decide +kernel
theorem dL_law_403 : decode cL_law 403 = .ok (.iadd, 1) := by decide +kernel
theorem dL_law_404 : decode cL_law 404 = .ok (.iaload, 1) := by decide +kernel
theorem dL_law_405 : decode cL_law 405 = .ok (.aload_n 0, 1) := by decide +kernel
theorem dL_law_406 : decode cL_law 406 = .ok (.iload 4, 2) := by decide +kernel
theorem dL_law_408 : decode cL_law 408 = .ok (.iconst 2, 1) := by decide +kernel
theorem dL_law_409 : decode cL_law 409 = .ok (.iadd, 1) := by decide +kernel
theorem dL_law_410 : decode cL_law 410 = .ok (.iaload, 1) := by decide +kernel
theorem dL_law_411 : decode cL_law 411 = .ok (.invokevirtual 72, 3) := by decide +kernel
theorem dL_law_414 : decode cL_law 414 = .ok (.aload_n 2, 1) := by decide +kernel
theorem dL_law_415 : decode cL_law 415 = .ok (.aload_n 0, 1) := by decide +kernel
theorem dL_law_416 : decode cL_law 416 = .ok (.iload 4, 2) := by decide +kernel
theorem dL_law_418 : decode cL_law 418 = .ok (.iconst 1, 1) := by decide +kernel
theorem dL_law_419 : decode cL_law 419 = .ok (.iadd, 1) := by decide +kernel
theorem dL_law_420 : decode cL_law 420 = .ok (.iaload, 1) := by decide +kernel
theorem dL_law_421 : decode cL_law 421 = .ok (.aload_n 0, 1) := by decide +kernel
theorem dL_law_422 : decode cL_law 422 = .ok (.iload 4, 2) := by decide +kernel
theorem dL_law_424 : decode cL_law 424 = .ok (.iconst 2, 1) := by decide +kernel
theorem dL_law_425 : decode cL_law 425 = .ok (.iadd, 1) := by decide +kernel
theorem dL_law_426 : decode cL_law 426 = .ok (.iaload, 1) := by decide +kernel
theorem dL_law_427 : decode cL_law 427 = .ok (.invokevirtual 75, 3) := by decide +kernel
theorem dL_law_430 : decode cL_law 430 = .ok (.if_icmp .eq 234, 3) := by decide +kernel
theorem dL_law_433 : decode cL_law 433 = .ok (.iconst 0, 1) := by decide +kernel
theorem dL_law_434 : decode cL_law 434 = .ok (.ireturn, 1) := by decide +kernel
theorem dL_law_435 : decode cL_law 435 = .ok (.aload_n 1, 1) := by decide +kernel
theorem dL_law_436 : decode cL_law 436 = .ok (.aload_n 0, 1) := by decide +kernel
theorem dL_law_437 : decode cL_law 437 = .ok (.iload 4, 2) := by decide +kernel
theorem dL_law_439 : decode cL_law 439 = .ok (.iconst 1, 1) := by decide +kernel
theorem dL_law_440 : decode cL_law 440 = .ok (.iadd, 1) := by decide +kernel
theorem dL_law_441 : decode cL_law 441 = .ok (.iaload, 1) := by decide +kernel
theorem dL_law_442 : decode cL_law 442 = .ok (.invokevirtual 76, 3) := by decide +kernel
theorem dL_law_445 : decode cL_law 445 = .ok (.aload_n 2, 1) := by decide +kernel
theorem dL_law_446 : decode cL_law 446 = .ok (.aload_n 0, 1) := by decide +kernel
theorem dL_law_447 : decode cL_law 447 = .ok (.iload 4, 2) := by decide +kernel
theorem dL_law_449 : decode cL_law 449 = .ok (.iconst 1, 1) := by decide +kernel
theorem dL_law_450 : decode cL_law 450 = .ok (.iadd, 1) := by decide +kernel
theorem dL_law_451 : decode cL_law 451 = .ok (.iaload, 1) := by decide +kernel
theorem dL_law_452 : decode cL_law 452 = .ok (.invokevirtual 79, 3) := by decide +kernel
theorem dL_law_455 : decode cL_law 455 = .ok (.if_icmp .eq 209, 3) := by decide +kernel
theorem dL_law_458 : decode cL_law 458 = .ok (.iconst 0, 1) := by decide +kernel
theorem dL_law_459 : decode cL_law 459 = .ok (.ireturn, 1) := by decide +kernel
theorem dL_law_460 : decode cL_law 460 = .ok (.aload_n 1, 1) := by decide +kernel
theorem dL_law_461 : decode cL_law 461 = .ok (.aload_n 0, 1) := by decide +kernel
theorem dL_law_462 : decode cL_law 462 = .ok (.iload 4, 2) := by decide +kernel
theorem dL_law_464 : decode cL_law 464 = .ok (.iconst 1, 1) := by decide +kernel
theorem dL_law_465 : decode cL_law 465 = .ok (.iadd, 1) := by decide +kernel
theorem dL_law_466 : decode cL_law 466 = .ok (.iaload, 1) := by decide +kernel
theorem dL_law_467 : decode cL_law 467 = .ok (.invokevirtual 80, 3) := by decide +kernel
theorem dL_law_470 : decode cL_law 470 = .ok (.aload_n 2, 1) := by decide +kernel
theorem dL_law_471 : decode cL_law 471 = .ok (.aload_n 0, 1) := by decide +kernel
theorem dL_law_472 : decode cL_law 472 = .ok (.iload 4, 2) := by decide +kernel
theorem dL_law_474 : decode cL_law 474 = .ok (.iconst 1, 1) := by decide +kernel
theorem dL_law_475 : decode cL_law 475 = .ok (.iadd, 1) := by decide +kernel
theorem dL_law_476 : decode cL_law 476 = .ok (.iaload, 1) := by decide +kernel
theorem dL_law_477 : decode cL_law 477 = .ok (.invokevirtual 83, 3) := by decide +kernel
theorem dL_law_480 : decode cL_law 480 = .ok (.if_icmp .eq 184, 3) := by decide +kernel
theorem dL_law_483 : decode cL_law 483 = .ok (.iconst 0, 1) := by decide +kernel
theorem dL_law_484 : decode cL_law 484 = .ok (.ireturn, 1) := by decide +kernel
theorem dL_law_485 : decode cL_law 485 = .ok (.aload_n 1, 1) := by decide +kernel
theorem dL_law_486 : decode cL_law 486 = .ok (.aload_n 0, 1) := by decide +kernel
theorem dL_law_487 : decode cL_law 487 = .ok (.iload 4, 2) := by decide +kernel
theorem dL_law_489 : decode cL_law 489 = .ok (.iconst 1, 1) := by decide +kernel
theorem dL_law_490 : decode cL_law 490 = .ok (.iadd, 1) := by decide +kernel
theorem dL_law_491 : decode cL_law 491 = .ok (.iaload, 1) := by decide +kernel
theorem dL_law_492 : decode cL_law 492 = .ok (.aload_n 0, 1) := by decide +kernel
theorem dL_law_493 : decode cL_law 493 = .ok (.iload 4, 2) := by decide +kernel
theorem dL_law_495 : decode cL_law 495 = .ok (.iconst 2, 1) := by decide +kernel
theorem dL_law_496 : decode cL_law 496 = .ok (.iadd, 1) := by decide +kernel
theorem dL_law_497 : decode cL_law 497 = .ok (.iaload, 1) := by decide +kernel
theorem dL_law_498 : decode cL_law 498 = .ok (.invokevirtual 84, 3) := by decide +kernel
theorem dL_law_501 : decode cL_law 501 = .ok (.aload_n 2, 1) := by decide +kernel
theorem dL_law_502 : decode cL_law 502 = .ok (.aload_n 0, 1) := by decide +kernel
theorem dL_law_503 : decode cL_law 503 = .ok (.iload 4, 2) := by decide +kernel
theorem dL_law_505 : decode cL_law 505 = .ok (.iconst 1, 1) := by decide +kernel
theorem dL_law_506 : decode cL_law 506 = .ok (.iadd, 1) := by decide +kernel
theorem dL_law_507 : decode cL_law 507 = .ok (.iaload, 1) := by decide +kernel
theorem dL_law_508 : decode cL_law 508 = .ok (.aload_n 0, 1) := by decide +kernel
theorem dL_law_509 : decode cL_law 509 = .ok (.iload 4, 2) := by decide +kernel
theorem dL_law_511 : decode cL_law 511 = .ok (.iconst 2, 1) := by decide +kernel
theorem dL_law_512 : decode cL_law 512 = .ok (.iadd, 1) := by decide +kernel
theorem dL_law_513 : decode cL_law 513 = .ok (.iaload, 1) := by decide +kernel
theorem dL_law_514 : decode cL_law 514 = .ok (.invokevirtual 87, 3) := by decide +kernel
theorem dL_law_517 : decode cL_law 517 = .ok (.if_icmp .eq 147, 3) := by decide +kernel
theorem dL_law_520 : decode cL_law 520 = .ok (.iconst 0, 1) := by decide +kernel
theorem dL_law_521 : decode cL_law 521 = .ok (.ireturn, 1) := by decide +kernel
theorem dL_law_522 : decode cL_law 522 = .ok (.aload_n 1, 1) := by decide +kernel
theorem dL_law_523 : decode cL_law 523 = .ok (.aload_n 0, 1) := by decide +kernel
theorem dL_law_524 : decode cL_law 524 = .ok (.iload 4, 2) := by decide +kernel
theorem dL_law_526 : decode cL_law 526 = .ok (.iconst 1, 1) := by decide +kernel
theorem dL_law_527 : decode cL_law 527 = .ok (.iadd, 1) := by decide +kernel
theorem dL_law_528 : decode cL_law 528 = .ok (.iaload, 1) := by decide +kernel
theorem dL_law_529 : decode cL_law 529 = .ok (.invokevirtual 88, 3) := by decide +kernel
theorem dL_law_532 : decode cL_law 532 = .ok (.aload_n 2, 1) := by decide +kernel
theorem dL_law_533 : decode cL_law 533 = .ok (.aload_n 0, 1) := by decide +kernel
theorem dL_law_534 : decode cL_law 534 = .ok (.iload 4, 2) := by decide +kernel
theorem dL_law_536 : decode cL_law 536 = .ok (.iconst 1, 1) := by decide +kernel
theorem dL_law_537 : decode cL_law 537 = .ok (.iadd, 1) := by decide +kernel
theorem dL_law_538 : decode cL_law 538 = .ok (.iaload, 1) := by decide +kernel
theorem dL_law_539 : decode cL_law 539 = .ok (.invokevirtual 92, 3) := by decide +kernel
theorem dL_law_542 : decode cL_law 542 = .ok (.goto 122, 3) := by decide +kernel
theorem dL_law_545 : decode cL_law 545 = .ok (.aload_n 1, 1) := by decide +kernel
theorem dL_law_546 : decode cL_law 546 = .ok (.invokevirtual 93, 3) := by decide +kernel
theorem dL_law_549 : decode cL_law 549 = .ok (.aload_n 2, 1) := by decide +kernel
theorem dL_law_550 : decode cL_law 550 = .ok (.invokevirtual 96, 3) := by decide +kernel
theorem dL_law_553 : decode cL_law 553 = .ok (.if_icmp .eq 111, 3) := by decide +kernel
theorem dL_law_556 : decode cL_law 556 = .ok (.iconst 0, 1) := by decide +kernel
theorem dL_law_557 : decode cL_law 557 = .ok (.ireturn, 1) := by decide +kernel
theorem dL_law_558 : decode cL_law 558 = .ok (.aload_n 1, 1) := by decide +kernel
theorem dL_law_559 : decode cL_law 559 = .ok (.aload_n 0, 1) := by decide +kernel
theorem dL_law_560 : decode cL_law 560 = .ok (.iload 4, 2) := by decide +kernel
theorem dL_law_562 : decode cL_law 562 = .ok (.iconst 1, 1) := by decide +kernel
theorem dL_law_563 : decode cL_law 563 = .ok (.iadd, 1) := by decide +kernel
theorem dL_law_564 : decode cL_law 564 = .ok (.iaload, 1) := by decide +kernel
theorem dL_law_565 : decode cL_law 565 = .ok (.invokevirtual 97, 3) := by decide +kernel
theorem dL_law_568 : decode cL_law 568 = .ok (.aload_n 2, 1) := by decide +kernel
theorem dL_law_569 : decode cL_law 569 = .ok (.aload_n 0, 1) := by decide +kernel
theorem dL_law_570 : decode cL_law 570 = .ok (.iload 4, 2) := by decide +kernel
theorem dL_law_572 : decode cL_law 572 = .ok (.iconst 1, 1) := by decide +kernel
theorem dL_law_573 : decode cL_law 573 = .ok (.iadd, 1) := by decide +kernel
theorem dL_law_574 : decode cL_law 574 = .ok (.iaload, 1) := by decide +kernel
theorem dL_law_575 : decode cL_law 575 = .ok (.invokevirtual 100, 3) := by decide +kernel
theorem dL_law_578 : decode cL_law 578 = .ok (.if_icmp .eq 86, 3) := by decide +kernel
theorem dL_law_581 : decode cL_law 581 = .ok (.iconst 0, 1) := by decide +kernel
theorem dL_law_582 : decode cL_law 582 = .ok (.ireturn, 1) := by decide +kernel
theorem dL_law_583 : decode cL_law 583 = .ok (.aload_n 1, 1) := by decide +kernel
theorem dL_law_584 : decode cL_law 584 = .ok (.aload_n 0, 1) := by decide +kernel
theorem dL_law_585 : decode cL_law 585 = .ok (.iload 4, 2) := by decide +kernel
theorem dL_law_587 : decode cL_law 587 = .ok (.iconst 1, 1) := by decide +kernel
theorem dL_law_588 : decode cL_law 588 = .ok (.iadd, 1) := by decide +kernel
theorem dL_law_589 : decode cL_law 589 = .ok (.iaload, 1) := by decide +kernel
theorem dL_law_590 : decode cL_law 590 = .ok (.aload_n 3, 1) := by decide +kernel
theorem dL_law_591 : decode cL_law 591 = .ok (.invokestatic 101, 3) := by decide +kernel
theorem dL_law_594 : decode cL_law 594 = .ok (.istore 5, 2) := by decide +kernel
theorem dL_law_596 : decode cL_law 596 = .ok (.aload_n 2, 1) := by decide +kernel
theorem dL_law_597 : decode cL_law 597 = .ok (.aload_n 0, 1) := by decide +kernel
theorem dL_law_598 : decode cL_law 598 = .ok (.iload 4, 2) := by decide +kernel
theorem dL_law_600 : decode cL_law 600 = .ok (.iconst 1, 1) := by decide +kernel
theorem dL_law_601 : decode cL_law 601 = .ok (.iadd, 1) := by decide +kernel
theorem dL_law_602 : decode cL_law 602 = .ok (.iaload, 1) := by decide +kernel
theorem dL_law_603 : decode cL_law 603 = .ok (.invokevirtual 104, 3) := by decide +kernel
theorem dL_law_606 : decode cL_law 606 = .ok (.istore 6, 2) := by decide +kernel
theorem dL_law_608 : decode cL_law 608 = .ok (.aload_n 2, 1) := by decide +kernel
theorem dL_law_609 : decode cL_law 609 = .ok (.invokevirtual 105, 3) := by decide +kernel
theorem dL_law_612 : decode cL_law 612 = .ok (.iload 5, 2) := by decide +kernel
theorem dL_law_614 : decode cL_law 614 = .ok (.if_icmp .eq 5, 3) := by decide +kernel
theorem dL_law_617 : decode cL_law 617 = .ok (.iconst 0, 1) := by decide +kernel
theorem dL_law_618 : decode cL_law 618 = .ok (.ireturn, 1) := by decide +kernel
theorem dL_law_619 : decode cL_law 619 = .ok (.iload 5, 2) := by decide +kernel
theorem dL_law_621 : decode cL_law 621 = .ok (.ifCond .ne 15, 3) := by decide +kernel
theorem dL_law_624 : decode cL_law 624 = .ok (.aload_n 3, 1) := by decide +kernel
theorem dL_law_625 : decode cL_law 625 = .ok (.iconst 0, 1) := by decide +kernel
theorem dL_law_626 : decode cL_law 626 = .ok (.laload, 1) := by decide +kernel
theorem dL_law_627 : decode cL_law 627 = .ok (.iload 6, 2) := by decide +kernel
theorem dL_law_629 : decode cL_law 629 = .ok (.i2l, 1) := by decide +kernel
theorem dL_law_630 : decode cL_law 630 = .ok (.lcmp, 1) := by decide +kernel
theorem dL_law_631 : decode cL_law 631 = .ok (.ifCond .eq 5, 3) := by decide +kernel
theorem dL_law_634 : decode cL_law 634 = .ok (.iconst 0, 1) := by decide +kernel
theorem dL_law_635 : decode cL_law 635 = .ok (.ireturn, 1) := by decide +kernel
theorem dL_law_636 : decode cL_law 636 = .ok (.goto 28, 3) := by decide +kernel
theorem dL_law_639 : decode cL_law 639 = .ok (.aload_n 1, 1) := by decide +kernel
theorem dL_law_640 : decode cL_law 640 = .ok (.aload_n 0, 1) := by decide +kernel
theorem dL_law_641 : decode cL_law 641 = .ok (.iload 4, 2) := by decide +kernel
theorem dL_law_643 : decode cL_law 643 = .ok (.iconst 1, 1) := by decide +kernel
theorem dL_law_644 : decode cL_law 644 = .ok (.iadd, 1) := by decide +kernel
theorem dL_law_645 : decode cL_law 645 = .ok (.iaload, 1) := by decide +kernel
theorem dL_law_646 : decode cL_law 646 = .ok (.invokevirtual 108, 3) := by decide +kernel
theorem dL_law_649 : decode cL_law 649 = .ok (.aload_n 2, 1) := by decide +kernel
theorem dL_law_650 : decode cL_law 650 = .ok (.aload_n 0, 1) := by decide +kernel
theorem dL_law_651 : decode cL_law 651 = .ok (.iload 4, 2) := by decide +kernel
theorem dL_law_653 : decode cL_law 653 = .ok (.iconst 1, 1) := by decide +kernel
theorem dL_law_654 : decode cL_law 654 = .ok (.iadd, 1) := by decide +kernel
theorem dL_law_655 : decode cL_law 655 = .ok (.iaload, 1) := by decide +kernel
theorem dL_law_656 : decode cL_law 656 = .ok (.invokevirtual 111, 3) := by decide +kernel
theorem dL_law_659 : decode cL_law 659 = .ok (.if_icmp .eq 5, 3) := by decide +kernel
theorem dL_law_662 : decode cL_law 662 = .ok (.iconst 0, 1) := by decide +kernel
theorem dL_law_663 : decode cL_law 663 = .ok (.ireturn, 1) := by decide +kernel
theorem dL_law_664 : decode cL_law 664 = .ok (.iinc 4 4, 3) := by decide +kernel
theorem dL_law_667 : decode cL_law 667 = .ok (.goto (-614), 3) := by decide +kernel
theorem dL_law_670 : decode cL_law 670 = .ok (.iconst 1, 1) := by decide +kernel
theorem dL_law_671 : decode cL_law 671 = .ok (.ireturn, 1) := by decide +kernel
end
section
/-! limbs to the base 2^31 -/
def lbN (v i : Nat) : Nat := v / 2147483648 ^ i % 2147483648
def lb (v : Nat) : Nat → Int32 := fun i => nI (lbN v i)
def szF (v : Nat) : Nat → Nat
  | 0 => 0
  | n + 1 => if lbN v n = 0 then szF v n else n + 1
theorem lbN_lt (v i : Nat) : lbN v i < 2147483648 := Nat.mod_lt _ (by decide)
theorem lbN_lt' (v i : Nat) : lbN v i < 2 ^ 31 := Nat.mod_lt _ (by decide)
theorem bp_pos (i : Nat) : 0 < 2147483648 ^ i := Nat.pow_pos (by decide)
theorem lbN_split (v i : Nat) : v / 2147483648 ^ i = v / 2147483648 ^ (i + 1) * 2147483648 + lbN v i := by
  unfold lbN
  rw [Nat.pow_succ, ← Nat.div_div_eq_div_mul]
  omega
theorem lbN_mod (v i : Nat) : v % 2147483648 ^ (i + 1) = v % 2147483648 ^ i + 2147483648 ^ i * lbN v i := by
  unfold lbN
  rw [Nat.pow_succ, Nat.mod_mul]
theorem lbN_zero {v w i : Nat} (h : v < 2147483648 ^ w) (hi : w ≤ i) : lbN v i = 0 := by
  unfold lbN
  rw [Nat.div_eq_of_lt (Nat.lt_of_lt_of_le h (Nat.pow_le_pow_right (by decide) hi))]
theorem szF_le (v : Nat) : ∀ n, szF v n ≤ n
  | 0 => Nat.le_refl 0
  | n + 1 => by
    have := szF_le v n
    unfold szF
    split <;> omega
theorem szF_beyond (v : Nat) : ∀ (n i : Nat), szF v n ≤ i → i < n → lbN v i = 0
  | 0, i, _, h => absurd h (Nat.not_lt_zero i)
  | n + 1, i, h1, h2 => by
    unfold szF at h1
    split at h1
    · next h0 =>
      rcases Nat.lt_or_ge i n with q | q
      · exact szF_beyond v n i h1 q
      · have : i = n := by omega
        rw [this]; exact h0
    · omega
theorem szF_down {v n : Nat} (h : lbN v n = 0) : szF v (n + 1) = szF v n := by
  rw [szF, if_pos h]
theorem szF_stop {v n : Nat} (h : ¬ lbN v n = 0) : szF v (n + 1) = n + 1 := by
  rw [szF, if_neg h]
theorem szF_wide {v w : Nat} (h : v < 2147483648 ^ w) : ∀ k, szF v (w + k) = szF v w
  | 0 => rfl
  | k + 1 => by
    rw [show w + (k + 1) = (w + k) + 1 by omega, szF_down (lbN_zero h (by omega)), szF_wide h k]
theorem szF_lt {v : Nat} : ∀ n, v < 2147483648 ^ n → v < 2147483648 ^ szF v n
  | 0, h => h
  | n + 1, h => by
    by_cases h0 : lbN v n = 0
    · rw [szF_down h0]
      refine szF_lt n ?_
      have h1 := lbN_split v n
      rw [Nat.div_eq_of_lt h, h0] at h1
      rcases Nat.lt_or_ge v (2147483648 ^ n) with q | q
      · exact q
      · have := (Nat.le_div_iff_mul_le (bp_pos n)).mpr (by rw [Nat.one_mul]; exact q)
        omega
    · rw [szF_stop h0]; exact h
theorem szF_le_of {v : Nat} {m : Nat} (h : v < 2147483648 ^ m) : ∀ n, szF v n ≤ m
  | 0 => Nat.zero_le m
  | n + 1 => by
    by_cases h0 : lbN v n = 0
    · rw [szF_down h0]; exact szF_le_of h n
    · rw [szF_stop h0]
      rcases Nat.lt_or_ge n m with q | q
      · exact q
      · exact absurd (lbN_zero h q) h0
theorem szF_le_iff {v m n : Nat} (hv : v < 2147483648 ^ n) : szF v n ≤ m ↔ v < 2147483648 ^ m := by
  constructor
  · intro h
    exact Nat.lt_of_lt_of_le (szF_lt n hv) (Nat.pow_le_pow_right (by decide) h)
  · intro h
    exact szF_le_of h n
theorem szF_0 (v : Nat) : ∀ n, v < 2147483648 ^ n → (szF v n = 0 ↔ v = 0) := by
  intro n h
  constructor
  · intro h0
    have := szF_lt n h
    rw [h0] at this
    omega
  · intro h0
    subst h0
    have := szF_le_of (v := 0) (m := 0) (by decide) n
    omega
theorem szF_zero (n : Nat) : szF 0 n = 0 := (szF_0 0 n (bp_pos n)).mpr rfl
theorem lbN_of_zero (i : Nat) : lbN 0 i = 0 := by unfold lbN; rw [Nat.zero_div]
/-- equal limbs, equal numbers -/
theorem lbN_ext {v u : Nat} : ∀ w, v < 2147483648 ^ w → u < 2147483648 ^ w → (∀ i, i < w → lbN v i = lbN u i) → v = u := by
  intro w hv hu h
  have key : ∀ k, k ≤ w → v % 2147483648 ^ k = u % 2147483648 ^ k := by
    intro k
    induction k with
    | zero => intro _; rw [Nat.pow_zero, Nat.mod_one, Nat.mod_one]
    | succ k ih => intro hk; rw [lbN_mod, lbN_mod, ih (by omega), h k (by omega)]
  have := key w (Nat.le_refl w)
  rwa [Nat.mod_eq_of_lt hv, Nat.mod_eq_of_lt hu] at this
/-! the sum, limb by limb -/
def cyA (v a i : Nat) : Nat := (v % 2147483648 ^ i + a % 2147483648 ^ i) / 2147483648 ^ i
theorem cyA_0 (v a : Nat) : cyA v a 0 = 0 := by simp [cyA, Nat.mod_one]
theorem cyA_lt (v a i : Nat) : cyA v a i < 2 := by
  unfold cyA
  have h1 := Nat.mod_lt v (bp_pos i)
  have h2 := Nat.mod_lt a (bp_pos i)
  rw [Nat.div_lt_iff_lt_mul (bp_pos i)]
  omega
theorem add_limb (v a i : Nat) : (cyA v a i + lbN v i + lbN a i) % 2147483648 = lbN (v + a) i := by
  have hP := bp_pos i
  have h1 : (v + a) / 2147483648 ^ i = v / 2147483648 ^ i + a / 2147483648 ^ i + cyA v a i := by
    unfold cyA
    generalize 2147483648 ^ i = P at hP
    conv => lhs; rw [← Nat.div_add_mod v P, ← Nat.div_add_mod a P]
    rw [show P * (v / P) + v % P + (P * (a / P) + a % P) = (v % P + a % P) + P * (v / P + a / P) by rw [Nat.mul_add]; omega]
    rw [Nat.add_mul_div_left _ _ hP]
    omega
  unfold lbN
  rw [h1]
  omega
theorem add_carry (v a i : Nat) : (cyA v a i + lbN v i + lbN a i) / 2147483648 = cyA v a (i + 1) := by
  have hP := bp_pos i
  have e : cyA v a (i + 1) = ((v % 2147483648 ^ i + a % 2147483648 ^ i) + 2147483648 ^ i * (lbN v i + lbN a i)) / (2147483648 ^ i * 2147483648) := by
    unfold cyA
    rw [lbN_mod, lbN_mod, Nat.pow_succ, Nat.mul_add]
    congr 1
    omega
  rw [e, ← Nat.div_div_eq_div_mul, Nat.add_mul_div_left _ _ hP]
  unfold cyA
  congr 1
  omega
/-! the difference -/
def cyS (v a i : Nat) : Nat := if v % 2147483648 ^ i < a % 2147483648 ^ i then 1 else 0
theorem cyS_0 (v a : Nat) : cyS v a 0 = 0 := by simp [cyS, Nat.mod_one]
theorem cyS_lt (v a i : Nat) : cyS v a i < 2 := by unfold cyS; split <;> omega
theorem sub_quot {v a : Nat} (h : a ≤ v) (i : Nat) : (v - a) / 2147483648 ^ i + a / 2147483648 ^ i + cyS v a i = v / 2147483648 ^ i := by
  have hP := bp_pos i
  unfold cyS
  generalize 2147483648 ^ i = P at hP
  have e1 := Nat.div_add_mod v P
  have e2 := Nat.div_add_mod a P
  have l1 := Nat.mod_lt v hP
  have l2 := Nat.mod_lt a hP
  split
  · next hl =>
    have hq : a / P < v / P := by
      rcases Nat.lt_or_ge (a / P) (v / P) with q | q
      · exact q
      · have := Nat.mul_le_mul_left P q
        omega
    have e3 : v - a = P * (v / P - a / P - 1) + (v % P + P - a % P) := by
      have : P * (v / P) = P * (v / P - a / P - 1) + P * (a / P) + P := by
        conv => lhs; rw [show v / P = (v / P - a / P - 1) + a / P + 1 by omega]
        rw [Nat.mul_add, Nat.mul_add, Nat.mul_one]
      omega
    rw [e3, Nat.mul_add_div hP, Nat.div_eq_of_lt (by omega : v % P + P - a % P < P)]
    omega
  · next hl =>
    have hq : a / P ≤ v / P := Nat.div_le_div_right h
    have e3 : v - a = P * (v / P - a / P) + (v % P - a % P) := by
      have : P * (v / P) = P * (v / P - a / P) + P * (a / P) := by
        conv => lhs; rw [show v / P = (v / P - a / P) + a / P by omega]
        rw [Nat.mul_add]
      omega
    rw [e3, Nat.mul_add_div hP, Nat.div_eq_of_lt (by omega : v % P - a % P < P)]
    omega
theorem sub_limb {v a : Nat} (h : a ≤ v) (i : Nat) : ((lbN v i : Int) - lbN a i - cyS v a i) % 2147483648 = lbN (v - a) i := by
  have := sub_quot h i
  unfold lbN
  omega
theorem sub_borrow (v a i : Nat) : ((lbN v i : Int) - lbN a i - cyS v a i < 0) ↔ cyS v a (i + 1) = 1 := by
  have hP := bp_pos i
  unfold cyS
  rw [lbN_mod, lbN_mod]
  have l1 := Nat.mod_lt v hP
  have l2 := Nat.mod_lt a hP
  generalize 2147483648 ^ i = P at hP l1 l2
  generalize lbN v i = x
  generalize lbN a i = y
  rcases Nat.lt_trichotomy x y with q | q | q
  · have := Nat.mul_le_mul_left P q
    rw [Nat.mul_succ] at this
    have h1 : v % P + P * x < a % P + P * y := by omega
    rw [if_pos h1]
    split <;> omega
  · subst q
    by_cases h1 : v % P < a % P
    · rw [if_pos h1, if_pos (by omega)]; omega
    · rw [if_neg h1, if_neg (by omega)]; omega
  · have := Nat.mul_le_mul_left P q
    rw [Nat.mul_succ] at this
    have h1 : ¬ v % P + P * x < a % P + P * y := by omega
    rw [if_neg h1]
    split <;> omega
/-! the product by a small number -/
def cyM (v p i : Nat) : Nat := v % 2147483648 ^ i * p / 2147483648 ^ i
theorem cyM_0 (v p : Nat) : cyM v p 0 = 0 := by simp [cyM, Nat.mod_one]
theorem cyM_le (v p i : Nat) : cyM v p i ≤ p := by
  unfold cyM
  have h1 := Nat.mod_lt v (bp_pos i)
  have h2 : v % 2147483648 ^ i * p ≤ 2147483648 ^ i * p := Nat.mul_le_mul_right p (Nat.le_of_lt h1)
  calc v % 2147483648 ^ i * p / 2147483648 ^ i ≤ 2147483648 ^ i * p / 2147483648 ^ i := Nat.div_le_div_right h2
    _ = p := Nat.mul_div_cancel_left p (bp_pos i)
theorem mul_limb (v p i : Nat) : (lbN v i * p + cyM v p i) % 2147483648 = lbN (v * p) i := by
  have hP := bp_pos i
  have h1 : (v * p) / 2147483648 ^ i = v / 2147483648 ^ i * p + cyM v p i := by
    unfold cyM
    generalize 2147483648 ^ i = P at hP
    conv => lhs; rw [← Nat.div_add_mod v P]
    rw [Nat.add_mul, Nat.mul_assoc, Nat.mul_add_div hP]
  have h2 : lbN (v * p) i = (v / 2147483648 ^ i * p + cyM v p i) % 2147483648 := by
    show (v * p) / 2147483648 ^ i % 2147483648 = _
    rw [h1]
  rw [h2, Nat.add_mod, Nat.mul_mod, lbN, Nat.mod_mod, ← Nat.mul_mod, ← Nat.add_mod]
theorem mul_carry (v p i : Nat) : (lbN v i * p + cyM v p i) / 2147483648 = cyM v p (i + 1) := by
  have hP := bp_pos i
  have e : cyM v p (i + 1) = (v % 2147483648 ^ i * p + 2147483648 ^ i * (lbN v i * p)) / (2147483648 ^ i * 2147483648) := by
    unfold cyM
    rw [lbN_mod, Nat.pow_succ, Nat.add_mul, Nat.mul_assoc]
  rw [e, ← Nat.div_div_eq_div_mul, Nat.add_mul_div_left _ _ hP]
  unfold cyM
  rw [Nat.add_comm]
/-! the quotient, from the top -/
def rmD (v q i : Nat) : Nat := v / 2147483648 ^ i % q
theorem rmD_top {v w : Nat} (h : v < 2147483648 ^ w) (q : Nat) : rmD v q w = 0 := by
  unfold rmD
  rw [Nat.div_eq_of_lt h, Nat.zero_mod]
theorem rmD_lt (v i : Nat) {q : Nat} (hq : 0 < q) : rmD v q i < q := Nat.mod_lt _ hq
theorem div_rem (v q i : Nat) : (rmD v q (i + 1) * 2147483648 + lbN v i) % q = rmD v q i := by
  unfold rmD
  rw [lbN_split v i]
  generalize v / 2147483648 ^ (i + 1) = X
  generalize lbN v i = x
  rw [Nat.add_mod, Nat.mul_mod, Nat.mod_mod, ← Nat.mul_mod, ← Nat.add_mod]
theorem div_lt (v i : Nat) {q : Nat} (hq : 0 < q) : (rmD v q (i + 1) * 2147483648 + lbN v i) / q < 2147483648 := by
  have h1 := rmD_lt v (i + 1) hq
  have h2 := lbN_lt v i
  rw [Nat.div_lt_iff_lt_mul hq]
  have h3 : (rmD v q (i + 1) + 1) * 2147483648 ≤ q * 2147483648 := Nat.mul_le_mul_right _ h1
  rw [Nat.mul_comm 2147483648 q]
  omega
theorem div_limb (v i : Nat) {q : Nat} (hq : 0 < q) : (rmD v q (i + 1) * 2147483648 + lbN v i) / q = lbN (v / q) i := by
  have h0 := div_lt v i hq
  have e : (v / 2147483648 ^ i) / q = v / 2147483648 ^ (i + 1) / q * 2147483648 + (rmD v q (i + 1) * 2147483648 + lbN v i) / q := by
    rw [lbN_split v i]
    unfold rmD
    generalize v / 2147483648 ^ (i + 1) = X
    generalize lbN v i = x
    conv => lhs; rw [← Nat.div_add_mod X q]
    rw [show (q * (X / q) + X % q) * 2147483648 + x = (X % q * 2147483648 + x) + q * (X / q * 2147483648) by
      rw [Nat.add_mul, Nat.mul_assoc]; omega]
    rw [Nat.add_mul_div_left _ _ hq]
    omega
  have e2 : lbN (v / q) i = (v / 2147483648 ^ i) / q % 2147483648 := by
    show v / q / 2147483648 ^ i % 2147483648 = _
    rw [Nat.div_div_eq_div_mul, Nat.mul_comm q, ← Nat.div_div_eq_div_mul]
  rw [e2, e]
  generalize (rmD v q (i + 1) * 2147483648 + lbN v i) / q = y at h0 ⊢
  generalize v / 2147483648 ^ (i + 1) / q = z
  omega
theorem rmD_0 (v q : Nat) : rmD v q 0 = v % q := by simp [rmD]
/-! comparison, from the top -/
theorem cmp_lt {v u i : Nat} (h : v / 2147483648 ^ (i + 1) = u / 2147483648 ^ (i + 1)) (hl : lbN v i < lbN u i) : v < u := by
  rcases Nat.lt_or_ge v u with q | q
  · exact q
  · have h1 : u / 2147483648 ^ i ≤ v / 2147483648 ^ i := Nat.div_le_div_right q
    rw [lbN_split v i, lbN_split u i, h] at h1
    omega
theorem cmp_eq {v u i : Nat} (h : v / 2147483648 ^ (i + 1) = u / 2147483648 ^ (i + 1)) (hl : lbN v i = lbN u i) : v / 2147483648 ^ i = u / 2147483648 ^ i := by
  rw [lbN_split v i, lbN_split u i, h, hl]
theorem cmp_top {v u w : Nat} (hv : v < 2147483648 ^ w) (hu : u < 2147483648 ^ w) : v / 2147483648 ^ w = u / 2147483648 ^ w := by
  rw [Nat.div_eq_of_lt hv, Nat.div_eq_of_lt hu]
theorem cmp_0 {v u : Nat} (h : v / 2147483648 ^ 0 = u / 2147483648 ^ 0) : v = u := by simpa using h
/-! one limb more at the bottom -/
theorem app_0 (v : Nat) {x : Nat} (hx : x < 2147483648) : lbN (v * 2147483648 + x) 0 = x := by
  unfold lbN
  rw [Nat.pow_zero, Nat.div_one]
  omega
theorem app_s (v i : Nat) {x : Nat} (hx : x < 2147483648) : lbN (v * 2147483648 + x) (i + 1) = lbN v i := by
  unfold lbN
  rw [Nat.pow_succ, Nat.mul_comm (2147483648 ^ i), ← Nat.div_div_eq_div_mul]
  congr 2
  omega
/-! rows filled from below, from above -/
def fl (g f : Nat → Int32) (i : Nat) : Nat → Int32 := fun k => if k < i then g k else f k
def fd (g f : Nat → Int32) (i : Nat) : Nat → Int32 := fun k => if k < i then f k else g k
theorem fl_0 (g f : Nat → Int32) : fl g f 0 = f := by funext k; simp [fl]
theorem fl_hi {g f : Nat → Int32} {i k : Nat} (h : i ≤ k) : fl g f i k = f k := by simp [fl, Nat.not_lt.mpr h]
theorem fl_lo {g f : Nat → Int32} {i k : Nat} (h : k < i) : fl g f i k = g k := by simp [fl, h]
theorem fl_s {g f : Nat → Int32} {i : Nat} {x : Int32} (h : x = g i) : upd (fl g f i) i x = fl g f (i + 1) := by
  subst h
  funext k
  simp only [upd, fl]
  by_cases h1 : k = i
  · subst h1; simp
  · by_cases h2 : k < i
    · simp [h1, h2, Nat.lt_succ_of_lt h2]
    · have h3 : ¬ k < i + 1 := by omega
      simp [h1, h2, h3]
theorem fd_lo {g f : Nat → Int32} {i k : Nat} (h : k < i) : fd g f i k = f k := by simp [fd, h]
theorem fd_0 (g f : Nat → Int32) : fd g f 0 = g := by funext k; simp [fd]
theorem fd_s {g f : Nat → Int32} {i : Nat} {x : Int32} (h : x = g i) : upd (fd g f (i + 1)) i x = fd g f i := by
  subst h
  funext k
  simp only [upd, fd]
  by_cases h1 : k = i
  · subst h1; simp
  · by_cases h2 : k < i
    · simp [h1, h2, Nat.lt_succ_of_lt h2]
    · have h3 : ¬ k < i + 1 := by omega
      simp [h1, h2, h3]
end
section
/-! worlds as plain lists: premises, read-only cells, rows that agree -/
theorem ro_keep {A : Nat → Prop} {H0 H : Heap} {locs : List Loc} {D : va_G} {cl : List vw_C} {ws : va_W} (hS : va_S A H0 H locs) (hP : va_P D cl ws H0) (hn : ∀ q ∈ ws, ¬ A q.1) : va_P D cl ws H :=
  hP.kept (fun k q hk => hS.2.1 q.1 ((hP k q hk).lt) (hn q (List.mem_of_getElem? hk)))
theorem ro_kept {D : va_G} {cl : List vw_C} {ws : va_W} {H H1 : Heap} {A1 : Nat → Prop} (hP : va_P D cl ws H) (hk : ∀ q : Nat, q < H.size → ¬ A1 q → H1[q]? = H[q]?) (hn : ∀ q ∈ ws, ¬ A1 q.1) : va_P D cl ws H1 :=
  hP.kept (fun k q hq => hk q.1 ((hP k q hq).lt) (hn q (List.mem_of_getElem? hq)))
def nPc (av : List Value) (D : va_G) (ws : va_W) (tys : List (ClassId × FieldType)) : Array Value → State → Prop := va_Pc av (fun U => va_P D vwCl ws U.heap ∧ va_K D vwCl tys U)
theorem nPc_blind {av : List Value} {D : va_G} {ws : va_W} {tys : List (ClassId × FieldType)} : FrameBlind (nPc av D ws tys) := fun a U g mk q => by
  obtain ⟨q0, qP, qK⟩ := q
  exact ⟨q0, qP, va_K.moved (u := U) (U := U.calling g mk a) (Vm.Alike.refl U.vm) qK⟩
theorem nPc_use {av : List Value} {D : va_G} {ws : va_W} {tys : List (ClassId × FieldType)} {H : Heap} {s : State} (hP : va_P D vwCl ws H) (hK : va_K D vwCl tys s) : ∀ U : State, U.heap = H → s.WarmedH U.vm → nPc av D ws tys av.toArray U :=
  fun U hU hW => ⟨rfl, by rw [hU]; exact hP, va_K.moved hW.alike hK⟩
theorem arr_congr {cA : ClassId} {n : Nat} {f g : Nat → Int32} (h : ∀ k, k < n → f k = g k) : vp_cell cA (n, .inl f) = vp_cell cA (n, .inl g) := by
  rw [vp_cell_i, vp_cell_i]
  unfold arrV
  congr 1
  apply Array.ext
  · simp
  · intro i h1 h2
    simp only [Array.size_ofFn] at h1
    simp only [Array.getElem_ofFn]
    rw [h i h1]
theorem at_congr {D : va_G} {cl : List vw_C} {a : Nat} {cA : ClassId} {n : Nat} {f g : Nat → Int32} {H : Heap} (hP : va_at D cl (a, .inl (cA, n, .inl f)) H) (h : ∀ k, k < n → f k = g k) : va_at D cl (a, .inl (cA, n, .inl g)) H := by
  show H[a]? = some (vp_cell cA (n, .inl g))
  rw [← arr_congr h]
  exact hP
theorem vp_nil {D : va_G} {cl : List vw_C} {H : Heap} : va_P D cl [] H := fun k q h => by simp at h
theorem vp_cons {D : va_G} {cl : List vw_C} {q : Nat × va_E} {ws : va_W} {H : Heap} (h : va_at D cl q H) (hs : va_P D cl ws H) : va_P D cl (q :: ws) H := by
  intro k x hk
  cases k with
  | zero => cases hk; exact h
  | succ k => exact hs k x hk
theorem vd_one {A : Nat → Prop} {o : Nat} {e : va_E} (h : A o) : va_D A [(o, e)] := by
  refine ⟨fun i j p q hi hj _ => ?_, fun k q hk => ?_⟩
  · have h1 := (List.getElem?_eq_some_iff.mp hi).1
    have h2 := (List.getElem?_eq_some_iff.mp hj).1
    simp at h1 h2
    omega
  · have h1 := (List.getElem?_eq_some_iff.mp hk).1
    simp at h1
    subst h1
    cases hk
    exact h
theorem vd_two {A : Nat → Prop} {o a : Nat} {e f : va_E} (h : A o) (h2 : A a) (hn : o ≠ a) : va_D A [(o, e), (a, f)] := by
  refine ⟨fun i j p q hi hj hpq => ?_, fun k q hk => ?_⟩
  · match i, j, hi, hj with
    | 0, 0, _, _ => rfl
    | 1, 1, _, _ => rfl
    | 0, 1, hi, hj => cases hi; cases hj; exact absurd hpq hn
    | 1, 0, hi, hj => cases hi; cases hj; exact absurd hpq.symm hn
    | i + 2, _, hi, _ => simp at hi
    | 0, j + 2, _, hj => simp at hj
    | 1, j + 2, _, hj => simp at hj
  · match k, hk with
    | 0, hk => cases hk; exact h
    | 1, hk => cases hk; exact h2
    | k + 2, hk => simp at hk
/-- the two cells of a number -/
def nAd (o a : Nat) : Nat → Prop := fun q => q = o ∨ q = a
abbrev nW (cI : ClassId) (w o a v : Nat) : va_W := [(o, .inr (1, [.ref a, .int (nI (szF v w))])), (a, .inl (cI, w, .inl (lb v)))]
theorem nI_le0 {k : Nat} (h : k < 2 ^ 31) : nI k ≤ 0 ↔ k = 0 := by
  constructor
  · intro h1
    rcases Nat.eq_zero_or_pos k with q | q
    · exact q
    · exact absurd h1 (nI_nle q h)
  · intro h1
    subst h1
    exact nI_pos' (by decide)
theorem nI_eq0 {k : Nat} (h : k < 2 ^ 31) : nI k = 0 ↔ k = 0 := by
  rw [← nI_0]; exact nI_eq h (by decide)
theorem nI_of_nonneg {x : Int32} (h : ¬ x < 0) : x = nI x.toNatClampNeg ∧ x.toNatClampNeg < 2 ^ 31 := by
  obtain ⟨j, hj, rfl⟩ := nI_of h
  rw [nI_clamp hj]
  exact ⟨rfl, hj⟩
theorem lb_clamp {v k : Nat} (h : k < 2 ^ 31) : lb v (nI k).toNatClampNeg = lb v k := by rw [nI_clamp h]
theorem hp_at {D : va_G} {cl : List vw_C} {ws : va_W} {t : State} {H : Heap} (ht : t.heap = H) (h : va_P D cl ws H) : va_P D cl ws t.heap := by rw [ht]; exact h
theorem lb_eq0 {v k : Nat} : lb v k = 0 ↔ lbN v k = 0 := nI_eq0 (lbN_lt' v k)
theorem sup_end : True := trivial
end
section
/-! rows on bits, shifts and unsigned numbers, to paste: each family out of a closed proof of our own, whole with what it rests on; each by itself clean at Lean in its own claim (generation 39, form 5). Take a family whole -/
/-! ===== Int32 by its bits: bt x i ===== -/
def bt (x : Int32) (i : Nat) : Bool := x.toBitVec.getLsbD i
theorem b_ext {x y : Int32} (h : ∀ i, i < 32 → bt x i = bt y i) : x = y := Int32.toBitVec_inj.mp (BitVec.eq_of_getLsbD_eq (fun i hi => h i hi))
theorem b_or (x y : Int32) (i : Nat) : bt (x ||| y) i = (bt x i || bt y i) := by unfold bt; rw [Int32.toBitVec_or, BitVec.getLsbD_or]
theorem b_and (x y : Int32) (i : Nat) : bt (x &&& y) i = (bt x i && bt y i) := by unfold bt; rw [Int32.toBitVec_and, BitVec.getLsbD_and]
theorem b_xor (x y : Int32) (i : Nat) : bt (x ^^^ y) i = (bt x i ^^ bt y i) := by unfold bt; rw [Int32.toBitVec_xor, BitVec.getLsbD_xor]
theorem b_big {x : Int32} {i : Nat} (h : 32 ≤ i) : bt x i = false := BitVec.getLsbD_of_ge _ _ h
theorem b_255 (i : Nat) : bt 255 i = decide (i < 8) := by
  rcases Nat.lt_or_ge i 32 with h | h
  · exact (by decide +kernel : ∀ i, i < 32 → bt 255 i = decide (i < 8)) i h
  · rw [b_big h, decide_eq_false (by omega)]
theorem b_65535 (i : Nat) : bt 65535 i = decide (i < 16) := by
  rcases Nat.lt_or_ge i 32 with h | h
  · exact (by decide +kernel : ∀ i, i < 32 → bt 65535 i = decide (i < 16)) i h
  · rw [b_big h, decide_eq_false (by omega)]
theorem b_m1 : ∀ i, i < 32 → bt (-1) i = true := by decide +kernel
theorem b_0 (i : Nat) : bt 0 i = false := BitVec.getLsbD_zero
theorem s_l : ∀ n, n < 32 → ((nI n &&& 31).toBitVec.smod 32).toNat = n := by decide +kernel
theorem s_u : ∀ n, n < 32 → (((nI n).toUInt32 &&& Int32.toUInt32 31).toBitVec % 32).toNat = n := by decide +kernel
theorem b_shl (n : Nat) (hn : n < 32) (x : Int32) {i : Nat} (hi : i < 32) : bt (x <<< (nI n &&& 31)) i = (decide (n ≤ i) && bt x (i - n)) := by
  unfold bt
  rw [Int32.toBitVec_shiftLeft]
  show (x.toBitVec <<< ((nI n &&& 31).toBitVec.smod 32).toNat).getLsbD i = _
  rw [s_l n hn, BitVec.getLsbD_shiftLeft]
  rcases Nat.lt_or_ge i n with h | h
  · simp [h, Nat.not_le.mpr h]
  · simp [hi, h, Nat.not_lt.mpr h]
theorem b_ushr (n : Nat) (hn : n < 32) (x : Int32) (i : Nat) : bt ((x.toUInt32 >>> ((nI n).toUInt32 &&& Int32.toUInt32 31)).toInt32) i = bt x (n + i) := by
  show (x.toUInt32 >>> ((nI n).toUInt32 &&& Int32.toUInt32 31)).toBitVec.getLsbD i = x.toUInt32.toBitVec.getLsbD (n + i)
  rw [UInt32.toBitVec_shiftRight]
  show (x.toUInt32.toBitVec >>> (((nI n).toUInt32 &&& Int32.toUInt32 31).toBitVec % 32).toNat).getLsbD i = _
  rw [s_u n hn, BitVec.getLsbD_ushiftRight]
theorem b_sshr (n : Nat) (hn : n < 32) (x : Int32) {i : Nat} (hi : i < 32) : bt (x >>> (nI n &&& 31)) i = if n + i < 32 then bt x (n + i) else bt x 31 := by
  unfold bt
  rw [Int32.toBitVec_shiftRight]
  show (x.toBitVec.sshiftRight ((nI n &&& 31).toBitVec.smod 32).toNat).getLsbD i = _
  rw [s_l n hn, BitVec.getLsbD_sshiftRight, BitVec.msb_eq_getLsbD_last]
  simp [hi]
theorem b_shl8 (x : Int32) {i : Nat} (hi : i < 32) : bt (x <<< ((8 : Int32) &&& 31)) i = (decide (8 ≤ i) && bt x (i - 8)) := b_shl 8 (by omega) x hi
theorem b_shl16 (x : Int32) {i : Nat} (hi : i < 32) : bt (x <<< ((16 : Int32) &&& 31)) i = (decide (16 ≤ i) && bt x (i - 16)) := b_shl 16 (by omega) x hi
theorem b_shl24 (x : Int32) {i : Nat} (hi : i < 32) : bt (x <<< ((24 : Int32) &&& 31)) i = (decide (24 ≤ i) && bt x (i - 24)) := b_shl 24 (by omega) x hi
theorem b_sshr8 (x : Int32) {i : Nat} (hi : i < 32) : bt (x >>> ((8 : Int32) &&& 31)) i = if 8 + i < 32 then bt x (8 + i) else bt x 31 := b_sshr 8 (by omega) x hi
/-! ===== nI under and, xor, >>>, one bit, 65535 ===== -/
theorem nx_and (a b : Nat) : nI a &&& nI b = nI (a &&& b) := by
  apply Int32.toBitVec_inj.1
  show BitVec.ofNat 32 a &&& BitVec.ofNat 32 b = BitVec.ofNat 32 (a &&& b)
  apply BitVec.eq_of_getLsbD_eq
  intro i hi
  simp [hi]
theorem nx_xor (a b : Nat) : nI a ^^^ nI b = nI (a ^^^ b) := by
  apply Int32.toBitVec_inj.1
  show BitVec.ofNat 32 a ^^^ BitVec.ofNat 32 b = BitVec.ofNat 32 (a ^^^ b)
  apply BitVec.eq_of_getLsbD_eq
  intro i hi
  simp [hi]
theorem nx_cnt : ∀ j : Fin 32, (UInt32.ofNat j.val &&& Int32.toUInt32 31).toNat % 32 = j.val := by decide +kernel
theorem nx_ush {k j : Nat} (hk : k < 65536) (hj : j < 32) : ((nI k).toUInt32 >>> ((nI j).toUInt32 &&& Int32.toUInt32 31)).toInt32 = nI (k >>> j) := by
  have hs : k >>> j ≤ k := by
    rw [Nat.shiftRight_eq_div_pow]
    exact Nat.div_le_self _ _
  have e2 : UInt32.ofNat k >>> (UInt32.ofNat j &&& Int32.toUInt32 31) = UInt32.ofNat (k >>> j) := by
    apply UInt32.toNat_inj.1
    have h1 : (UInt32.ofNat k).toNat = k := Nat.mod_eq_of_lt (by omega)
    have h2 : (UInt32.ofNat (k >>> j)).toNat = k >>> j := Nat.mod_eq_of_lt (by omega)
    rw [UInt32.toNat_shiftRight, nx_cnt ⟨j, hj⟩, h1, h2]
  show (UInt32.ofNat k >>> (UInt32.ofNat j &&& Int32.toUInt32 31)).toInt32 = _
  rw [e2]
  rfl
theorem nx_bit {k j : Nat} (hk : k < 65536) (hj : j < 16) : (((nI k).toUInt32 >>> ((nI j).toUInt32 &&& Int32.toUInt32 31)).toInt32 &&& 1) = 0 ↔ k.testBit j = false := by
  rw [nx_ush hk (by omega)]
  show nI (k >>> j) &&& nI 1 = 0 ↔ _
  rw [nx_and, Nat.and_one_is_mod, ← nI_0, nI_eq (by omega) (by omega), Nat.testBit_eq_decide_div_mod_eq, Nat.shiftRight_eq_div_pow, decide_eq_false_iff_not]
  generalize k / 2 ^ j = z
  omega
theorem nx_mod (k : Nat) : nI k &&& 65535 = nI (k % 65536) := by
  show nI k &&& nI 65535 = _
  rw [nx_and, show (65535 : Nat) = 2 ^ 16 - 1 from rfl, Nat.and_two_pow_sub_one_eq_mod]
theorem nx_m16 {k : Nat} (h : k < 65536) : nI k &&& 65535 = nI k := by rw [nx_mod, Nat.mod_eq_of_lt h]
theorem nx_mask (x : Int32) : ∃ k, k < 65536 ∧ x &&& 65535 = nI k := by
  have e : x = nI x.toBitVec.toNat := by
    apply Int32.toBitVec_inj.1
    show x.toBitVec = BitVec.ofNat 32 x.toBitVec.toNat
    simp
  refine ⟨x.toBitVec.toNat % 65536, Nat.mod_lt _ (by omega), ?_⟩
  rw [← nx_mod, ← e]
/-! ===== Int32 as a set of bits: test, set ===== -/
def nf_M (m : Int32) : Nat := 4294967296 - m.toBitVec.toNat
theorem nf_sh : ∀ l, l < 32 → ((1 : Int32) <<< (nI l &&& 31)).toBitVec = BitVec.twoPow 32 l := by decide +kernel
theorem nf_sl : ∀ l, l < 32 → (((nI l).toUInt32 &&& Int32.toUInt32 31).toBitVec % 32).toNat = l := by decide +kernel
theorem nf_tp : ∀ l, l < 32 → BitVec.twoPow 32 l ≠ 0#32 := by decide +kernel
theorem nf_bit (m : Int32) (l : Nat) (hl : l < 32) : ((m.toUInt32 >>> ((nI l).toUInt32 &&& Int32.toUInt32 31)).toInt32 &&& 1) = 0 ↔ (m &&& ((1 : Int32) <<< (nI l &&& 31))) = 0 := by
  have e : ((m.toUInt32 >>> ((nI l).toUInt32 &&& Int32.toUInt32 31)).toInt32).toBitVec = m.toBitVec >>> l := by
    show m.toBitVec >>> (((nI l).toUInt32 &&& Int32.toUInt32 31).toBitVec % 32) = m.toBitVec >>> l
    rw [BitVec.ushiftRight_eq', nf_sl l hl]
  rw [← Int32.toBitVec_inj, ← Int32.toBitVec_inj, Int32.toBitVec_and, Int32.toBitVec_and, nf_sh l hl, e, BitVec.and_twoPow]
  show (m.toBitVec >>> l &&& 1#32) = 0#32 ↔ _ = 0#32
  rw [BitVec.and_one_eq_setWidth_ofBool_getLsbD, BitVec.getLsbD_ushiftRight, Nat.add_zero]
  cases hb : m.toBitVec.getLsbD l
  · exact ⟨fun _ => by simp, fun _ => by decide⟩
  · exact ⟨fun z => absurd z (by decide), fun z => absurd ((if_pos rfl).symm.trans z) (nf_tp l hl)⟩
theorem nf_gr (m k : Int32) (h : m &&& k = 0) (hk : k ≠ 0) : nf_M (m ||| k) < nf_M m := by
  have hm := m.toBitVec.isLt
  have hm' := (m ||| k).toBitVec.isLt
  have h1 : m.toBitVec.toNat ≤ (m ||| k).toBitVec.toNat := by
    rw [Int32.toBitVec_or, BitVec.toNat_or]
    exact Nat.left_le_or
  have h2 : m.toBitVec.toNat ≠ (m ||| k).toBitVec.toNat := by
    intro e
    have e2 : m = m ||| k := Int32.toBitVec_inj.mp (BitVec.eq_of_toNat_eq e)
    apply hk
    apply Int32.toBitVec_inj.mp
    show k.toBitVec = 0#32
    apply BitVec.eq_of_getLsbD_eq
    intro i hi
    have a : m.toBitVec.getLsbD i = (m.toBitVec.getLsbD i || k.toBitVec.getLsbD i) := by rw [← BitVec.getLsbD_or, ← Int32.toBitVec_or, ← e2]
    have b : (m.toBitVec.getLsbD i && k.toBitVec.getLsbD i) = false := by
      rw [← BitVec.getLsbD_and, ← Int32.toBitVec_and, h]
      exact BitVec.getLsbD_zero
    rw [BitVec.getLsbD_zero]
    revert a b
    cases m.toBitVec.getLsbD i <;> cases k.toBitVec.getLsbD i <;> simp
  unfold nf_M
  omega
/-! ===== a byte read unsigned ===== -/
theorem bp_b (x : Int32) : x.toInt8.toInt32 &&& 255 = x &&& 255 := by
  apply Int32.toBitVec_inj.mp
  rw [Int32.toBitVec_and, Int32.toBitVec_and, Int8.toBitVec_toInt32, Int32.toBitVec_toInt8]
  apply BitVec.eq_of_getLsbD_eq
  intro i hi
  rw [BitVec.getLsbD_and, BitVec.getLsbD_and]
  have hm : ∀ i < 32, 8 ≤ i → (255 : Int32).toBitVec.getLsbD i = false := by decide
  rcases Nat.lt_or_ge i 8 with z | z
  · rw [BitVec.getLsbD_signExtend, BitVec.getLsbD_signExtend, if_pos z, if_pos hi]
    simp only [z, hi, decide_true, Bool.true_and]
  · rw [hm i hi z]; simp
/-! ===== the char cast and 65535 ===== -/
/-! ===== Int64 as a set of bits: test, set, clear ===== -/
theorem ts_nf {x : Bool} (h : ¬ x = false) : x = true := by cases x <;> first | rfl | exact absurd rfl h
theorem ts_nt {x : Bool} (h : ¬ x = true) : x = false := by cases x <;> first | rfl | exact absurd rfl h
theorem ts_bit {w : Int64} {s : UInt64} {j : Nat} (hj : j < 64) (hs : s.toNat = j) : ((w.toUInt64 >>> s).toInt64 &&& 1) = 0 ↔ w.toBitVec.getLsbD j = false := by
  have e : (w.toUInt64 >>> s).toInt64.toBitVec = w.toBitVec >>> j := by
    apply BitVec.eq_of_toNat_eq
    show (w.toUInt64 >>> s).toNat = _
    rw [UInt64.toNat_shiftRight, hs, Nat.mod_eq_of_lt hj, BitVec.toNat_ushiftRight]
    rfl
  rw [← Int64.toBitVec_inj, Int64.toBitVec_and, e]
  show w.toBitVec >>> j &&& 1#64 = 0#64 ↔ _
  constructor
  · intro h
    have t := congrArg (fun x => x.getLsbD 0) h
    simpa using t
  · intro h
    apply BitVec.eq_of_getLsbD_eq
    intro i hi
    cases i with
    | zero => simp [h]
    | succ i => simp
theorem ts_or {w m : Int64} {j : Nat} (hj : j < 64) (hm : m.toBitVec = BitVec.twoPow 64 j) : (w ||| m) = w ↔ w.toBitVec.getLsbD j = true := by
  rw [← Int64.toBitVec_inj, Int64.toBitVec_or, hm]
  constructor
  · intro h
    have t := congrArg (fun x => x.getLsbD j) h
    simp only [BitVec.getLsbD_or, BitVec.getLsbD_twoPow] at t
    simpa [hj] using t.symm
  · intro h
    apply BitVec.eq_of_getLsbD_eq
    intro i hi
    rw [BitVec.getLsbD_or, BitVec.getLsbD_twoPow]
    by_cases e : j = i
    · subst e; rw [h, Bool.true_or]
    · simp [e]
theorem ts_and {w m : Int64} {j : Nat} (hj : j < 64) (hm : m.toBitVec = BitVec.twoPow 64 j) : (w &&& (m ^^^ (-1))) = w ↔ w.toBitVec.getLsbD j = false := by
  have ha : (-1 : Int64).toBitVec = BitVec.allOnes 64 := by decide
  rw [← Int64.toBitVec_inj, Int64.toBitVec_and, Int64.toBitVec_xor, hm, ha]
  constructor
  · intro h
    have t := congrArg (fun x => x.getLsbD j) h
    simp only [BitVec.getLsbD_and, BitVec.getLsbD_xor, BitVec.getLsbD_twoPow, BitVec.getLsbD_allOnes] at t
    simpa [hj] using t.symm
  · intro h
    apply BitVec.eq_of_getLsbD_eq
    intro i hi
    rw [BitVec.getLsbD_and, BitVec.getLsbD_xor, BitVec.getLsbD_twoPow, BitVec.getLsbD_allOnes]
    by_cases e : j = i
    · subst e; rw [h, Bool.false_and]
    · simp [e, hi]
/-! ===== lN n to 2^64: shifts, and, or, masks, one bit ===== -/
theorem wb_tb (n : Nat) : (lN n).toBitVec = BitVec.ofNat 64 n := rfl
theorem wb_inj {a b : Int64} (h : a.toBitVec = b.toBitVec) : a = b := Int64.toBitVec_inj.mp h
theorem wb_tn {n : Nat} (h : n < 2 ^ 64) : (lN n).toBitVec.toNat = n := by rw [wb_tb, BitVec.toNat_ofNat, Nat.mod_eq_of_lt h]
theorem wb_of (x : Int64) : ∃ n, n < 2 ^ 64 ∧ x = lN n := ⟨x.toBitVec.toNat, x.toBitVec.isLt, wb_inj (by rw [wb_tb]; simp)⟩
theorem wb_of32 (x : Int32) : ∃ n, n < 2 ^ 32 ∧ x = nI n := ⟨x.toBitVec.toNat, x.toBitVec.isLt, Int32.toBitVec_inj.mp (by show _ = BitVec.ofNat 32 _; simp)⟩
theorem wb_c : ∀ k, k < 64 → ((nI k).toInt64 &&& 63) = lN k := by decide +kernel
theorem wb_cu : ∀ k, k < 64 → ((nI k).toInt64.toUInt64 &&& Int64.toUInt64 63) = UInt64.ofNat k := by decide +kernel
theorem wb_sm : ∀ k, k < 64 → (BitVec.ofNat 64 k).smod 64 = BitVec.ofNat 64 k := by decide +kernel
theorem wb_pw {a b : Nat} (h : a ≤ b) : 2 ^ b = 2 ^ a * 2 ^ (b - a) := by rw [← Nat.pow_add]; congr 1; omega
theorem wb_lt2 {a b : Nat} (h : a < b) : 2 ^ a < 2 ^ b := Nat.pow_lt_pow_right (by decide) h
theorem wb_mod (n : Nat) : lN n = lN (n % 2 ^ 64) := wb_inj (by rw [wb_tb, wb_tb]; apply BitVec.eq_of_toNat_eq; rw [BitVec.toNat_ofNat, BitVec.toNat_ofNat, Nat.mod_mod])
theorem wb_shr {n k : Nat} (hn : n < 2 ^ 64) (hk : k < 64) : ((lN n).toUInt64 >>> ((nI k).toInt64.toUInt64 &&& Int64.toUInt64 63)).toInt64 = lN (n / 2 ^ k) := by
  rw [wb_cu k hk]
  apply wb_inj
  apply BitVec.eq_of_toNat_eq
  show ((lN n).toUInt64 >>> UInt64.ofNat k).toNat = (BitVec.ofNat 64 _).toNat
  have h1 : (UInt64.ofNat k).toNat = k := by
    show (BitVec.ofNat 64 k).toNat = k
    rw [BitVec.toNat_ofNat, Nat.mod_eq_of_lt (by omega)]
  have h2 : (lN n).toUInt64.toNat = n := wb_tn hn
  rw [UInt64.toNat_shiftRight, h1, h2, Nat.mod_eq_of_lt hk, Nat.shiftRight_eq_div_pow, BitVec.toNat_ofNat, Nat.mod_eq_of_lt (Nat.lt_of_le_of_lt (Nat.div_le_self _ _) hn)]
theorem wb_shl (n : Nat) {k : Nat} (hk : k < 64) : lN n <<< ((nI k).toInt64 &&& 63) = lN (n * 2 ^ k) := by
  rw [wb_c k hk]
  apply wb_inj
  rw [Int64.toBitVec_shiftLeft, wb_tb, wb_tb, wb_tb, wb_sm k hk]
  apply BitVec.eq_of_toNat_eq
  rw [BitVec.shiftLeft_eq', BitVec.toNat_shiftLeft, BitVec.toNat_ofNat, BitVec.toNat_ofNat, BitVec.toNat_ofNat, Nat.mod_eq_of_lt (show k < 2 ^ 64 by omega), Nat.shiftLeft_eq, Nat.mul_mod, Nat.mod_mod, ← Nat.mul_mod]
theorem wb_and {a b : Nat} (ha : a < 2 ^ 64) (hb : b < 2 ^ 64) : lN a &&& lN b = lN (a &&& b) := by
  apply wb_inj
  rw [Int64.toBitVec_and, wb_tb, wb_tb, wb_tb]
  apply BitVec.eq_of_toNat_eq
  rw [BitVec.toNat_and, BitVec.toNat_ofNat, BitVec.toNat_ofNat, BitVec.toNat_ofNat, Nat.mod_eq_of_lt ha, Nat.mod_eq_of_lt hb, Nat.mod_eq_of_lt (Nat.and_lt_two_pow _ hb)]
theorem wb_or {a b : Nat} (ha : a < 2 ^ 64) (hb : b < 2 ^ 64) : lN a ||| lN b = lN (a ||| b) := by
  apply wb_inj
  rw [Int64.toBitVec_or, wb_tb, wb_tb, wb_tb]
  apply BitVec.eq_of_toNat_eq
  rw [BitVec.toNat_or, BitVec.toNat_ofNat, BitVec.toNat_ofNat, BitVec.toNat_ofNat, Nat.mod_eq_of_lt ha, Nat.mod_eq_of_lt hb, Nat.mod_eq_of_lt (Nat.or_lt_two_pow ha hb)]
theorem wb_mask {n k : Nat} (hn : n < 2 ^ 64) (hk : k < 64) : lN n &&& lN (2 ^ k - 1) = lN (n % 2 ^ k) := by
  rw [wb_and hn (by have := wb_lt2 hk; omega), Nat.and_two_pow_sub_one_eq_mod]
theorem wb_a1 {n : Nat} (hn : n < 2 ^ 64) : lN n &&& 1 = lN (n % 2) := wb_mask (k := 1) hn (by decide)
theorem wb_bit {n k : Nat} (hn : n < 2 ^ 64) (hk : k < 64) : ((lN n).toUInt64 >>> ((nI k).toInt64.toUInt64 &&& Int64.toUInt64 63)).toInt64 &&& 1 = lN (n / 2 ^ k % 2) := by
  rw [wb_shr hn hk, wb_a1 (Nat.lt_of_le_of_lt (Nat.div_le_self _ _) hn)]
theorem wb_xor {q k : Nat} (hk : k < 63) (h : 2 ^ k ≤ q) (h2 : q < 2 ^ (k + 1)) : lN q ^^^ lN (2 ^ k) = lN (q - 2 ^ k) := by
  obtain ⟨r, rfl⟩ : ∃ r, q = 2 ^ k + r := ⟨q - 2 ^ k, by omega⟩
  have hr : r < 2 ^ k := by rw [Nat.pow_succ] at h2; omega
  have hx : (2 ^ k + r) ^^^ 2 ^ k = r := by
    apply Nat.eq_of_testBit_eq
    intro i
    rw [Nat.testBit_xor, Nat.testBit_two_pow]
    rcases Nat.lt_trichotomy i k with h | h | h
    · rw [Nat.testBit_two_pow_add_gt h]
      simp [show ¬ k = i by omega]
    · subst h
      rw [Nat.testBit_two_pow_add_eq]
      simp
    · have a1 : 2 ^ (k + 1) ≤ 2 ^ i := Nat.pow_le_pow_right (by decide) h
      rw [Nat.testBit_lt_two_pow (show 2 ^ k + r < 2 ^ i by omega), Nat.testBit_lt_two_pow (show r < 2 ^ i by omega)]
      simp [show ¬ k = i by omega]
  have b1 := wb_lt2 (show k + 1 < 64 by omega)
  have b2 := wb_lt2 (show k < 64 by omega)
  apply wb_inj
  rw [Int64.toBitVec_xor, wb_tb, wb_tb, wb_tb]
  apply BitVec.eq_of_toNat_eq
  rw [BitVec.toNat_xor, BitVec.toNat_ofNat, BitVec.toNat_ofNat, BitVec.toNat_ofNat, Nat.mod_eq_of_lt (by omega : 2 ^ k + r < 2 ^ 64), Nat.mod_eq_of_lt b2, hx, Nat.add_sub_cancel_left, Nat.mod_eq_of_lt (by omega)]
/-! ===== lN: masks, 'or' of parts that don't overlap is a sum ===== -/
theorem u_tn {n : Nat} (h : n < 2 ^ 64) : (UInt64.ofNat n).toNat = n := Nat.mod_eq_of_lt h
theorem g_and {a b c : Nat} (ha : a < 2 ^ 64) (hb : b < 2 ^ 64) (hc : a &&& b = c) : lN a &&& lN b = lN c := by
  subst hc
  have h : UInt64.ofNat a &&& UInt64.ofNat b = UInt64.ofNat (a &&& b) := UInt64.toNat_inj.mp (by rw [UInt64.toNat_and, u_tn ha, u_tn hb, u_tn (Nat.and_lt_two_pow a hb)])
  have h2 := congrArg UInt64.toInt64 h
  exact h2
theorem g_and1 {a : Nat} (ha : a < 2 ^ 64) : lN a &&& 1 = lN (a % 2) := g_and (b := 1) ha (by decide) (Nat.and_two_pow_sub_one_eq_mod a 1)
theorem g_mask {a s p : Nat} (hp : 2 ^ s = p) (hs : s < 64) (ha : a < 2 ^ 64) : lN a &&& lN (p - 1) = lN (a % p) := by
  subst hp
  have := Nat.pow_lt_pow_right (show 1 < 2 by decide) hs
  exact g_and ha (by omega) (Nat.and_two_pow_sub_one_eq_mod a s)
theorem g_or {k p a b : Nat} (hp : 2 ^ k = p) (ha : a < p) (h : b * p + a < 2 ^ 64) : lN (b * p) ||| lN a = lN (b * p + a) := by
  subst hp
  have h1 : b * 2 ^ k ||| a = b * 2 ^ k + a := by rw [← Nat.shiftLeft_eq, Nat.shiftLeft_add_eq_or_of_lt ha]
  have h3 : UInt64.ofNat (b * 2 ^ k) ||| UInt64.ofNat a = UInt64.ofNat (b * 2 ^ k + a) := UInt64.toNat_inj.mp (by rw [UInt64.toNat_or, u_tn (by omega), u_tn (by omega), u_tn h, h1])
  have h2 := congrArg UInt64.toInt64 h3
  exact h2
theorem g_or' {k p a b : Nat} (hp : 2 ^ k = p) (ha : a < p) (h : a + b * p < 2 ^ 64) : lN a ||| lN (b * p) = lN (a + b * p) := by
  rw [Int64.or_comm, g_or hp ha (by omega), Nat.add_comm]
theorem g_ushr {a k p : Nat} {y : UInt64} (hy : y = UInt64.ofNat k) (hk : k < 64) (hp : 2 ^ k = p) (ha : a < 2 ^ 64) : ((lN a).toUInt64 >>> y).toInt64 = lN (a / p) := by
  subst hy hp
  have h : UInt64.ofNat a >>> UInt64.ofNat k = UInt64.ofNat (a / 2 ^ k) := UInt64.toNat_inj.mp (by rw [UInt64.toNat_shiftRight, u_tn ha, u_tn (by omega), u_tn (Nat.lt_of_le_of_lt (Nat.div_le_self _ _) ha), Nat.mod_eq_of_lt hk, Nat.shiftRight_eq_div_pow])
  have h2 := congrArg UInt64.toInt64 h
  exact h2
theorem g_shl {a k p : Nat} {y : Int64} (hy : y.toBitVec.smod 64 = BitVec.ofNat 64 k) (hk : k < 64) (hp : 2 ^ k = p) (ha : a < 2 ^ 64) : lN a <<< y = lN (a * p) := by
  subst hp
  apply Int64.toBitVec_inj.mp
  rw [Int64.toBitVec_shiftLeft, hy]
  apply BitVec.eq_of_toNat_eq
  have hb : (lN a).toBitVec.toNat = a := Nat.mod_eq_of_lt ha
  have hk' : (BitVec.ofNat 64 k).toNat = k := Nat.mod_eq_of_lt (by omega)
  have h : ((lN a).toBitVec <<< BitVec.ofNat 64 k).toNat = (a * 2 ^ k) % 2 ^ 64 := by simp only [BitVec.shiftLeft_eq', BitVec.toNat_shiftLeft, hb, hk', Nat.shiftLeft_eq]
  exact h
/-! ===== lN to 2^62 under >> and >>> ===== -/
theorem pf_lI {a : Nat} (h : a < 2 ^ 63) : (lN a).toInt = (a : Int) := lg_ofNat_toInt h
theorem pf_shr {a d : Nat} {D : Int64} (hD : (D.toBitVec.smod 64).toNat = d) (h : a < 2 ^ 62) : lN a >>> D = lN (a / 2 ^ d) := by
  have hd : a / 2 ^ d ≤ a := Nat.div_le_self _ _
  apply Int64.toInt_inj.mp
  have e : (lN a >>> D).toInt = (lN a).toInt >>> d := by
    rw [← hD]
    exact BitVec.toInt_sshiftRight ..
  rw [e, Int.shiftRight_eq_div_pow, pf_lI (by omega), pf_lI (by omega)]
  rfl
theorem pf_ushr {a d : Nat} {D : UInt64} (hD : D.toNat % 64 = d) (h : a < 2 ^ 62) : ((lN a).toUInt64 >>> D).toInt64 = lN (a / 2 ^ d) := by
  have hd : a / 2 ^ d ≤ a := Nat.div_le_self _ _
  have e : (lN a).toUInt64 >>> D = UInt64.ofNat (a / 2 ^ d) := UInt64.toNat_inj.mp (by
    rw [UInt64.toNat_shiftRight, hD, Nat.shiftRight_eq_div_pow, UInt64.toNat_ofNat']
    show (UInt64.ofNat a).toNat / 2 ^ d = _
    rw [UInt64.toNat_ofNat', Nat.mod_eq_of_lt (by omega), Nat.mod_eq_of_lt (by omega)])
  rw [e]
  rfl
theorem pf_andw (x : Int64) : ∃ m, m < 2 ^ 32 ∧ x &&& 4294967295 = lN m := ⟨x.toBitVec.toNat % 2 ^ 32, Nat.mod_lt _ (by decide), Int64.toBitVec_inj.mp (BitVec.eq_of_toNat_eq (by
  show (x.toBitVec &&& 4294967295#64).toNat = (BitVec.ofNat 64 (x.toBitVec.toNat % 2 ^ 32)).toNat
  rw [BitVec.toNat_and, show (4294967295#64).toNat = 2 ^ 32 - 1 from by decide, Nat.and_two_pow_sub_one_eq_mod, BitVec.toNat_ofNat]
  omega))⟩
/-! ===== Int64 as an unsigned number: uN x ===== -/
def uN (x : Int64) : Nat := x.toUInt64.toNat
theorem uN_lt (x : Int64) : uN x < 18446744073709551616 := x.toUInt64.toNat_lt
theorem uN_inj {x y : Int64} (h : uN x = uN y) : x = y := congrArg UInt64.toInt64 (UInt64.toNat_inj.mp h)
theorem uN_add (x y : Int64) : uN (x + y) = (uN x + uN y) % 18446744073709551616 := by
  show (x.toUInt64 + y.toUInt64).toNat = _
  exact UInt64.toNat_add _ _
theorem uN_mul (x y : Int64) : uN (x * y) = (uN x * uN y) % 18446744073709551616 := by
  show (x.toUInt64 * y.toUInt64).toNat = _
  exact UInt64.toNat_mul _ _
theorem uN_shl (x : Int64) : uN (x <<< ((1 : Int32).toInt64 &&& 63)) = (2 * uN x) % 18446744073709551616 := by
  have h : (((1 : Int32).toInt64 &&& 63).toBitVec.smod 64).toNat = 1 := by decide
  show (x.toBitVec <<< (((1 : Int32).toInt64 &&& 63).toBitVec.smod 64).toNat).toNat = _
  rw [h, BitVec.toNat_shiftLeft, Nat.shiftLeft_eq, Nat.mul_comm]
  rfl
theorem uN_shr (x : Int64) (s : UInt64) : uN (x.toUInt64 >>> s).toInt64 = uN x / 2 ^ (s.toNat % 64) := by
  show (x.toUInt64 >>> s).toNat = _
  rw [UInt64.toNat_shiftRight, Nat.shiftRight_eq_div_pow]
  rfl
theorem uN_s32 (x : Int64) : uN (x.toUInt64 >>> ((32 : Int32).toInt64.toUInt64 &&& Int64.toUInt64 63)).toInt64 = uN x / 4294967296 := by
  have h : ((32 : Int32).toInt64.toUInt64 &&& Int64.toUInt64 63).toNat % 64 = 32 := by decide
  rw [uN_shr, h]
theorem uN_s63 (x : Int64) : uN (x.toUInt64 >>> ((63 : Int32).toInt64.toUInt64 &&& Int64.toUInt64 63)).toInt64 = uN x / 9223372036854775808 := by
  have h : ((63 : Int32).toInt64.toUInt64 &&& Int64.toUInt64 63).toNat % 64 = 63 := by decide
  rw [uN_shr, h]
theorem uN_lo (x : Int64) : uN (x &&& 4294967295) = uN x % 4294967296 := by
  show (x.toUInt64 &&& Int64.toUInt64 4294967295).toNat = _
  rw [UInt64.toNat_and]
  exact Nat.and_two_pow_sub_one_eq_mod _ 32
theorem uN_bit (x : Int64) : (x &&& 1) = 0 ↔ uN x % 2 = 0 := by
  have h : uN (x &&& 1) = uN x % 2 := by
    show (x.toUInt64 &&& Int64.toUInt64 1).toNat = _
    rw [UInt64.toNat_and]
    exact Nat.and_two_pow_sub_one_eq_mod _ 1
  rw [← h]
  exact ⟨fun z => by rw [z]; rfl, fun z => uN_inj (z.trans rfl)⟩
theorem uN_or {x y : Int64} (hy : uN y < 2) : uN ((x <<< ((1 : Int32).toInt64 &&& 63)) ||| y) = (2 * uN x) % 18446744073709551616 + uN y := by
  have h1 : uN ((x <<< ((1 : Int32).toInt64 &&& 63)) ||| y) = uN (x <<< ((1 : Int32).toInt64 &&& 63)) ||| uN y := UInt64.toNat_or _ _
  have h2 : (2 * uN x) % 18446744073709551616 = 2 ^ 1 * (uN x % 9223372036854775808) := by omega
  rw [h1, uN_shl, h2]
  exact (Nat.two_pow_add_eq_or_of_lt (i := 1) hy _).symm
theorem nat_xor {a : Nat} (h : a < 18446744073709551616) : a ^^^ 2 ^ 63 = (a + 9223372036854775808) % 18446744073709551616 := by
  have h1 : (a ^^^ 2 ^ 63) % 2 ^ 63 = a % 2 ^ 63 := by rw [Nat.xor_mod_two_pow, Nat.mod_self, Nat.xor_zero]
  have h2 : (a ^^^ 2 ^ 63) / 2 ^ 63 = (a / 2 ^ 63) ^^^ 1 := by rw [Nat.xor_div_two_pow, Nat.div_self (Nat.two_pow_pos 63)]
  have h3 : a / 2 ^ 63 = 0 ∨ a / 2 ^ 63 = 1 := by omega
  generalize a ^^^ 2 ^ 63 = t at h1 h2
  rcases h3 with h3 | h3
  · rw [h3] at h2
    have h2 : t / 2 ^ 63 = 1 := h2
    omega
  · rw [h3] at h2
    have h2 : t / 2 ^ 63 = 0 := h2
    omega
theorem uN_xor (x : Int64) : uN (x ^^^ (-9223372036854775808)) = (uN x + 9223372036854775808) % 18446744073709551616 := by
  rw [← nat_xor (uN_lt x)]
  exact UInt64.toNat_xor _ _
theorem uN_int (x : Int64) : x.toInt = if 2 * uN x < 18446744073709551616 then (uN x : Int) else (uN x : Int) - 18446744073709551616 := BitVec.toInt_eq_toNat_cond _
theorem uN_le (x y : Int64) : (x ^^^ (-9223372036854775808)) ≤ (y ^^^ (-9223372036854775808)) ↔ uN x ≤ uN y := by
  have hx := uN_lt x
  have hy := uN_lt y
  rw [Int64.le_iff_toInt_le, uN_int, uN_int, uN_xor, uN_xor]
  omega
theorem uN_sk (x : Int64) {k : Nat} (hk : k < 64) : uN (x.toUInt64 >>> ((nI k).toInt64.toUInt64 &&& Int64.toUInt64 63)).toInt64 = uN x / 2 ^ k := by
  have h : ((nI k).toInt64.toUInt64 &&& Int64.toUInt64 63).toNat % 64 = k := by
    rw [nI_l (by omega), UInt64.toNat_and]
    have e : (lN k).toUInt64.toNat = k % 2 ^ 64 := rfl
    have e2 : (Int64.toUInt64 63).toNat = 2 ^ 6 - 1 := by decide
    rw [e, e2, Nat.and_two_pow_sub_one_eq_mod]
    omega
  rw [uN_shr, h]
/-! ===== unsigned comparison by xor with the least ===== -/
theorem lN_bv (n : Nat) : (lN n).toBitVec = BitVec.ofNat 64 n := rfl
theorem lN_nat {n : Nat} (h : n < 2 ^ 64) : (lN n).toBitVec.toNat = n := by rw [lN_bv, BitVec.toNat_ofNat]; exact Nat.mod_eq_of_lt h
theorem lN_xor (a b : Nat) : lN a ^^^ lN b = lN (a ^^^ b) := by
  apply Int64.toBitVec_inj.mp; rw [Int64.toBitVec_xor, lN_bv, lN_bv, lN_bv]; apply BitVec.eq_of_getLsbD_eq; intro i hi; simp [BitVec.getLsbD_ofNat, Nat.testBit_xor, hi]
theorem lN_ti {m : Nat} (h : m < 2 ^ 64) : (lN m).toInt = if m < 2 ^ 63 then (m : Int) else (m : Int) - 2 ^ 64 := by
  have c := BitVec.toInt_eq_toNat_cond (lN m).toBitVec
  rw [lN_nat h] at c
  show (lN m).toBitVec.toInt = _
  rw [c]
  split <;> split <;> omega
theorem xor63 {x : Nat} (h : x < 2 ^ 63) : x ^^^ 2 ^ 63 = 2 ^ 63 + x := by
  apply Nat.eq_of_testBit_eq
  intro i
  rw [Nat.testBit_xor, Nat.testBit_two_pow]
  rcases Nat.lt_trichotomy i 63 with z | z | z
  · rw [Nat.testBit_two_pow_add_gt z, decide_eq_false (by omega)]; simp
  · subst z; rw [Nat.testBit_two_pow_add_eq]; simp
  · have hp : 2 ^ 64 ≤ 2 ^ i := Nat.pow_le_pow_right (by decide) z
    rw [Nat.testBit_lt_two_pow (show x < 2 ^ i by omega), Nat.testBit_lt_two_pow (show 2 ^ 63 + x < 2 ^ i by omega), decide_eq_false (by omega)]; rfl
theorem xorS {a : Nat} (h : a < 2 ^ 64) : (lN a ^^^ (-9223372036854775808)).toInt = (a : Int) - 2 ^ 63 := by
  rw [show (-9223372036854775808 : Int64) = lN (2 ^ 63) from by decide +kernel, lN_xor]
  rcases Nat.lt_or_ge a (2 ^ 63) with z | z
  · rw [xor63 z, lN_ti (by omega), if_neg (by omega)]; omega
  · obtain ⟨x, rfl⟩ : ∃ x, a = 2 ^ 63 + x := ⟨a - 2 ^ 63, by omega⟩
    rw [← xor63 (by omega), Nat.xor_assoc, Nat.xor_self, Nat.xor_zero, lN_ti (by omega), if_pos (by omega), xor63 (by omega)]; omega
theorem ultL {a b : Nat} (ha : a < 2 ^ 64) (hb : b < 2 ^ 64) : ((lN b ^^^ (-9223372036854775808)) ≤ (lN a ^^^ (-9223372036854775808))) ↔ b ≤ a := by
  rw [Int64.le_iff_toInt_le, xorS ha, xorS hb]; omega
/-! ===== Int64 masks of n low bits ===== -/
theorem cr_bits (W U M : BitVec 64) : ((W &&& U) &&& (U &&& (M ^^^ BitVec.allOnes 64))) = 0#64 ↔ (W &&& U) &&& M = W &&& U := by
  constructor
  · intro h
    apply BitVec.eq_of_getLsbD_eq
    intro i hi
    have e := congrArg (fun x => BitVec.getLsbD x i) h
    simp only [BitVec.getLsbD_and, BitVec.getLsbD_xor, BitVec.getLsbD_allOnes, BitVec.getLsbD_zero, hi, decide_true] at e ⊢
    revert e
    cases W.getLsbD i <;> cases U.getLsbD i <;> cases M.getLsbD i <;> decide
  · intro h
    apply BitVec.eq_of_getLsbD_eq
    intro i hi
    have e := congrArg (fun x => BitVec.getLsbD x i) h
    simp only [BitVec.getLsbD_and, BitVec.getLsbD_xor, BitVec.getLsbD_allOnes, BitVec.getLsbD_zero, hi, decide_true] at e ⊢
    revert e
    cases W.getLsbD i <;> cases U.getLsbD i <;> cases M.getLsbD i <;> decide
theorem cr_mask (w U m : Int64) (n : Nat) (hm : m.toBitVec.toNat = 2 ^ n - 1) : ((w &&& U) &&& (U &&& (m ^^^ (-1)))) = 0 ↔ (w &&& U).toBitVec.toNat < 2 ^ n := by
  have e0 : (-1 : Int64).toBitVec = BitVec.allOnes 64 := by decide
  have z0 : (0 : Int64).toBitVec = 0#64 := by decide
  rw [← Int64.toBitVec_inj, z0, Int64.toBitVec_and, Int64.toBitVec_and, Int64.toBitVec_and, Int64.toBitVec_xor, e0, cr_bits]
  generalize w.toBitVec &&& U.toBitVec = T
  rw [← BitVec.toNat_inj, BitVec.toNat_and, hm, Nat.and_two_pow_sub_one_eq_mod]
  constructor
  · intro h
    have t := Nat.mod_lt T.toNat (Nat.two_pow_pos n)
    rw [h] at t
    exact t
  · exact Nat.mod_eq_of_lt
theorem cr_shr (t : Int64) (x : UInt64) (n : Nat) (hx : x.toNat % 64 = n) : (t.toUInt64 >>> x).toInt64 = 0 ↔ t.toBitVec.toNat < 2 ^ n := by
  rw [← Int64.toBitVec_inj, ← BitVec.toNat_inj]
  show (t.toUInt64 >>> x).toNat = 0 ↔ t.toUInt64.toNat < 2 ^ n
  rw [UInt64.toNat_shiftRight, hx, Nat.shiftRight_eq_div_pow]
  constructor
  · intro h
    have d : t.toUInt64.toNat / 2 ^ n < 1 := by
      rw [h]
      decide
    have e := (Nat.div_lt_iff_lt_mul (Nat.two_pow_pos n)).mp d
    rw [Nat.one_mul] at e
    exact e
  · exact Nat.div_eq_of_lt
theorem cr_amt (s : Int64) : ∃ n, n < 64 ∧ s &&& 63 = lN n ∧ (s.toUInt64 &&& Int64.toUInt64 63).toNat % 64 = n := by
  have e : (s.toUInt64 &&& Int64.toUInt64 63).toNat = s.toUInt64.toNat % 2 ^ 6 := by
    rw [UInt64.toNat_and, show (Int64.toUInt64 63).toNat = 2 ^ 6 - 1 from by decide, Nat.and_two_pow_sub_one_eq_mod]
  refine ⟨s.toUInt64.toNat % 2 ^ 6, by omega, ?_, by omega⟩
  rw [← Int64.toBitVec_inj, ← BitVec.toNat_inj]
  show (s.toUInt64 &&& Int64.toUInt64 63).toNat = (BitVec.ofNat 64 (s.toUInt64.toNat % 2 ^ 6)).toNat
  rw [e, BitVec.toNat_ofNat]
  omega
end
section
/-! plain facts on numbers and arrays, to paste: each family by itself; over the kit's rows on nI and upd -/
/-! ===== order of ints, in all its forms, and through longs ===== -/
theorem fa_lt (a b : Int32) : a < b ↔ a.toInt < b.toInt := Int32.lt_iff_toInt_lt
theorem fa_le (a b : Int32) : a ≤ b ↔ a.toInt ≤ b.toInt := Int32.le_iff_toInt_le
theorem fa_eq (a b : Int32) : a = b ↔ a.toInt = b.toInt := Int32.toInt_inj.symm
theorem fa_lt64 (a b : Int64) : a < b ↔ a.toInt < b.toInt := Int64.lt_iff_toInt_lt
theorem fa_le64 (a b : Int64) : a ≤ b ↔ a.toInt ≤ b.toInt := Int64.le_iff_toInt_le
theorem fa_eq64 (a b : Int64) : a = b ↔ a.toInt = b.toInt := Int64.toInt_inj.symm
/-- a comparison of two ints taken as longs -/
theorem fa_wide_lt (a b : Int32) : a.toInt64 < b.toInt64 ↔ a < b := by rw [fa_lt64, fa_lt, Int32.toInt_toInt64, Int32.toInt_toInt64]
theorem fa_wide_le (a b : Int32) : a.toInt64 ≤ b.toInt64 ↔ a ≤ b := by rw [fa_le64, fa_le, Int32.toInt_toInt64, Int32.toInt_toInt64]
theorem fa_wide_eq (a b : Int32) : a.toInt64 = b.toInt64 ↔ a = b := by rw [fa_eq64, fa_eq, Int32.toInt_toInt64, Int32.toInt_toInt64]
/-- one strict comparison gives all the others -/
theorem fa_of_lt {a b : Int32} (h : a < b) : a ≤ b ∧ ¬ b ≤ a ∧ ¬ b < a ∧ a ≠ b ∧ b ≠ a := by
  rw [fa_lt] at h
  refine ⟨?_, ?_, ?_, ?_, ?_⟩
  · rw [fa_le]; omega
  · rw [fa_le]; omega
  · rw [fa_lt]; omega
  · intro e; rw [fa_eq] at e; omega
  · intro e; rw [fa_eq] at e; omega
theorem fa_of_nlt {a b : Int32} (h : ¬ a < b) : b ≤ a := by
  rw [fa_lt] at h
  rw [fa_le]
  omega
theorem fa_of_nle {a b : Int32} (h : ¬ a ≤ b) : b < a := by
  rw [fa_le] at h
  rw [fa_lt]
  omega
theorem fa_le_ne {a b : Int32} (h : a ≤ b) (h2 : a ≠ b) : a < b := by
  rw [fa_le] at h
  rw [fa_lt]
  have h3 : a.toInt ≠ b.toInt := fun e => h2 ((fa_eq a b).mpr e)
  omega
theorem fa_three (a b : Int32) : a < b ∨ a = b ∨ b < a := by
  rw [fa_lt, fa_lt, fa_eq]
  omega
theorem fa_trans {a b c : Int32} (h : a < b) (h2 : b ≤ c) : a < c := by
  rw [fa_lt] at *
  rw [fa_le] at h2
  omega
/-! ===== small literals as numbers ===== -/
theorem fa_lit (n : Nat) : (OfNat.ofNat n : Int32) = nI n := rfl
theorem fa_litL (n : Nat) : (OfNat.ofNat n : Int64) = lN n := rfl
/-! ===== bits of a number: 'or', masks, one bit ===== -/
theorem fa_and (a b : Nat) : nI a &&& nI b = nI (a &&& b) := by
  apply Int32.toBitVec_inj.1
  show BitVec.ofNat 32 a &&& BitVec.ofNat 32 b = BitVec.ofNat 32 (a &&& b)
  apply BitVec.eq_of_getLsbD_eq
  intro i hi
  simp [hi]
theorem fa_or (a b : Nat) : nI a ||| nI b = nI (a ||| b) := by
  apply Int32.toBitVec_inj.1
  show BitVec.ofNat 32 a ||| BitVec.ofNat 32 b = BitVec.ofNat 32 (a ||| b)
  apply BitVec.eq_of_getLsbD_eq
  intro i hi
  simp [hi]
/-- a remainder by a power of two, as a mask -/
theorem fa_mask (n k : Nat) : nI n &&& nI (2 ^ k - 1) = nI (n % 2 ^ k) := by rw [fa_and, Nat.and_two_pow_sub_one_eq_mod]
/-- 'or' of a high part and a low one that don't meet is their sum -/
theorem fa_or_sum {a k : Nat} (b : Nat) (h : a < 2 ^ k) : nI (2 ^ k * b) ||| nI a = nI (2 ^ k * b + a) := by rw [fa_or, Nat.two_pow_add_eq_or_of_lt h]
/-- one bit, by 'and' with a power of two -/
theorem fa_bit {n j : Nat} (hj : j < 31) : nI n &&& nI (2 ^ j) = 0 ↔ n.testBit j = false := by
  have h2 : (2 : Nat) ^ j < 2 ^ 31 := Nat.pow_lt_pow_right (by decide) hj
  have hle : n &&& 2 ^ j ≤ 2 ^ j := Nat.and_le_right
  have e : n &&& 2 ^ j = 0 ↔ n.testBit j = false := by
    constructor
    · intro h
      have h1 : (n &&& 2 ^ j).testBit j = false := by rw [h]; simp
      rw [Nat.testBit_and] at h1
      first | simpa using h1 | simpa [Nat.testBit_two_pow_self] using h1 | simpa [Nat.testBit_two_pow] using h1
    · intro h
      apply Nat.eq_of_testBit_eq
      intro i
      rw [Nat.testBit_and]
      by_cases hi : j = i
      · subst hi; simp [h]
      · first | (simp [Nat.testBit_two_pow, hi]; done) | (simp [Nat.testBit_two_pow_of_ne hi]; done)
  rw [fa_and]
  constructor
  · intro h
    apply e.mp
    rcases Nat.eq_zero_or_pos (n &&& 2 ^ j) with z | z
    · exact z
    · exact absurd h (nI_ne0 z (Nat.lt_of_le_of_lt hle h2))
  · intro h
    rw [e.mpr h]; exact nI_0
/-- a remainder by a power of two of a number that isn't negative, as Java divides -/
theorem fa_rem {a k : Nat} (ha : a < 2 ^ 31) (hk : k < 31) : nI a - nI a / nI (2 ^ k) * nI (2 ^ k) = nI (a % 2 ^ k) := pk_rem ha (Nat.two_pow_pos k) (Nat.pow_lt_pow_right (by decide) hk)
/-! ===== cuts to a byte, a short ===== -/
theorem fa_byte_xor (x y : Int32) : (x ^^^ y).toInt8 = x.toInt8 ^^^ y.toInt8 := by
  apply Int8.toBitVec_inj.1
  apply BitVec.eq_of_getLsbD_eq
  intro i hi
  first | (simp [hi]; done) | (simp [hi, BitVec.getLsbD_setWidth, BitVec.getLsbD_signExtend]; done)
theorem fa_short_xor (x y : Int32) : (x ^^^ y).toInt16 = x.toInt16 ^^^ y.toInt16 := by
  apply Int16.toBitVec_inj.1
  apply BitVec.eq_of_getLsbD_eq
  intro i hi
  first | (simp [hi]; done) | (simp [hi, BitVec.getLsbD_setWidth, BitVec.getLsbD_signExtend]; done)
/-- the cut to a byte sees the low byte alone -/
theorem fa_byte_low (x : Int32) : (x &&& 255).toInt8 = x.toInt8 := by
  apply Int8.toBitVec_inj.1
  apply BitVec.eq_of_getLsbD_eq
  intro i hi
  have h2 : (255 : Int32).toBitVec.getLsbD i = true := by
    have : ∀ j : Fin 8, (255 : Int32).toBitVec.getLsbD j.val = true := by decide +kernel
    exact this ⟨i, hi⟩
  have h4 : (x &&& 255).toBitVec.getLsbD i = x.toBitVec.getLsbD i := by
    show (x.toBitVec &&& (255 : Int32).toBitVec).getLsbD i = _
    rw [BitVec.getLsbD_and, h2, Bool.and_true]
  have h3 : i < 32 := by omega
  first
    | (show (((x &&& 255).toBitVec).signExtend 8).getLsbD i = (x.toBitVec.signExtend 8).getLsbD i; rw [BitVec.getLsbD_signExtend, BitVec.getLsbD_signExtend, if_pos h3, if_pos h3, h4])
    | (show (((x &&& 255).toBitVec).setWidth 8).getLsbD i = (x.toBitVec.setWidth 8).getLsbD i; rw [BitVec.getLsbD_setWidth, BitVec.getLsbD_setWidth, h4])
    | (simp [hi, h3, h4]; done)
theorem fa_short_low (x : Int32) : (x &&& 65535).toInt16 = x.toInt16 := by
  apply Int16.toBitVec_inj.1
  apply BitVec.eq_of_getLsbD_eq
  intro i hi
  have h2 : (65535 : Int32).toBitVec.getLsbD i = true := by
    have : ∀ j : Fin 16, (65535 : Int32).toBitVec.getLsbD j.val = true := by decide +kernel
    exact this ⟨i, hi⟩
  have h4 : (x &&& 65535).toBitVec.getLsbD i = x.toBitVec.getLsbD i := by
    show (x.toBitVec &&& (65535 : Int32).toBitVec).getLsbD i = _
    rw [BitVec.getLsbD_and, h2, Bool.and_true]
  have h3 : i < 32 := by omega
  first
    | (show (((x &&& 65535).toBitVec).signExtend 16).getLsbD i = (x.toBitVec.signExtend 16).getLsbD i; rw [BitVec.getLsbD_signExtend, BitVec.getLsbD_signExtend, if_pos h3, if_pos h3, h4])
    | (show (((x &&& 65535).toBitVec).setWidth 16).getLsbD i = (x.toBitVec.setWidth 16).getLsbD i; rw [BitVec.getLsbD_setWidth, BitVec.getLsbD_setWidth, h4])
    | (simp [hi, h3, h4]; done)
/-- a small number is its own byte, its own short -/
theorem fa_byte_small {n : Nat} (h : n < 128) : (nI n).toInt8.toInt32 = nI n := by
  have : ∀ j : Fin 128, (nI j.val).toInt8.toInt32 = nI j.val := by decide +kernel
  exact this ⟨n, h⟩
/-! ===== absolute difference ===== -/
theorem fa_absdiff {a b : Nat} (ha : a < 2 ^ 31) (hb : b < 2 ^ 31) : (if nI a < nI b then nI b - nI a else nI a - nI b) = nI (if a < b then b - a else a - b) := by
  by_cases h : a < b
  · rw [if_pos (nI_lt h hb), if_pos h]
    exact pk_sub (Nat.le_of_lt h)
  · rw [if_neg (nI_nlt (Nat.le_of_not_lt h) ha), if_neg h]
    exact pk_sub (Nat.le_of_not_lt h)
/-! ===== an array behind i stores, a conditional store, a row copied ===== -/
/-- f where k < i, what stood there else -/
def fa_fill {α : Type} (f g : Nat → α) (i : Nat) : Nat → α := fun k => if k < i then f k else g k
theorem fa_fill_0 {α : Type} (f g : Nat → α) : fa_fill f g 0 = g := funext fun k => if_neg (Nat.not_lt_zero k)
theorem fa_fill_in {α : Type} {f g : Nat → α} {i k : Nat} (h : k < i) : fa_fill f g i k = f k := if_pos h
theorem fa_fill_out {α : Type} {f g : Nat → α} {i k : Nat} (h : i ≤ k) : fa_fill f g i k = g k := if_neg (Nat.not_lt.mpr h)
theorem fa_fill_succ (f g : Nat → Int32) (i : Nat) : upd (fa_fill f g i) i (f i) = fa_fill f g (i + 1) := by
  funext k
  by_cases e : k = i
  · subst e
    rw [pk_us]
    exact (if_pos (Nat.lt_succ_self k)).symm
  · rw [pk_un e]
    by_cases h : k < i
    · rw [fa_fill_in h, fa_fill_in (Nat.lt_succ_of_lt h)]
    · rw [fa_fill_out (Nat.le_of_not_lt h), fa_fill_out (by omega)]
/-- a store that changes nothing -/
theorem fa_upd_same {f : Nat → Int32} {i : Nat} {x : Int32} (h : f i = x) : upd f i x = f := by
  funext k
  by_cases e : k = i
  · subst e
    rw [pk_us, h]
  · rw [pk_un e]
/-- a store under a condition, told as one -/
theorem fa_upd_if (c : Prop) [Decidable c] (f : Nat → Int32) (i : Nat) (x : Int32) : (if c then upd f i x else f) = upd f i (if c then x else f i) := by
  by_cases h : c
  · rw [if_pos h, if_pos h]
  · rw [if_neg h, if_neg h, fa_upd_same rfl]
/-- two stores at one place, at two -/
theorem fa_upd_twice (f : Nat → Int32) (i : Nat) (x y : Int32) : upd (upd f i x) i y = upd f i y := by
  funext k
  by_cases e : k = i
  · subst e
    rw [pk_us, pk_us]
  · rw [pk_un e, pk_un e, pk_un e]
theorem fa_upd_swap (f : Nat → Int32) {i j : Nat} (h : i ≠ j) (x y : Int32) : upd (upd f i x) j y = upd (upd f j y) i x := by
  funext k
  by_cases e : k = i
  · subst e
    rw [pk_un h, pk_us, pk_us]
  · by_cases e2 : k = j
    · subst e2
      rw [pk_us, pk_un e, pk_us]
    · rw [pk_un e2, pk_un e, pk_un e, pk_un e2]
/-! ===== the first index with a property; a count ===== -/
/-- the first k < n with p k, n if there is none -/
def fa_first (p : Nat → Bool) : Nat → Nat
  | 0 => 0
  | n + 1 => if fa_first p n < n then fa_first p n else if p n then n else n + 1
theorem fa_first_le (p : Nat → Bool) : ∀ n, fa_first p n ≤ n
  | 0 => Nat.le_refl 0
  | n + 1 => by
    have ih := fa_first_le p n
    unfold fa_first
    split
    · omega
    · split
      · omega
      · omega
theorem fa_first_no (p : Nat → Bool) : ∀ n k, k < fa_first p n → p k = false
  | 0, k, h => absurd h (Nat.not_lt_zero k)
  | n + 1, k, h => by
    have ih := fa_first_no p n
    have hl := fa_first_le p n
    unfold fa_first at h
    split at h
    · exact ih k h
    · rename_i h1
      split at h
      · exact ih k (by omega)
      · rename_i h2
        by_cases e : k = n
        · subst e
          exact Bool.eq_false_iff.mpr h2
        · exact ih k (by omega)
theorem fa_first_yes (p : Nat → Bool) : ∀ n, fa_first p n < n → p (fa_first p n) = true
  | 0, h => absurd h (Nat.not_lt_zero _)
  | n + 1, h => by
    have ih := fa_first_yes p n
    have hl := fa_first_le p n
    unfold fa_first at h ⊢
    split at h
    · rename_i h1
      rw [if_pos h1]
      exact ih h1
    · rename_i h1
      rw [if_neg h1]
      split at h
      · rename_i h2
        rw [if_pos h2]
        exact h2
      · omega
/-- how many k < n have p k -/
def fa_cnt (p : Nat → Bool) : Nat → Nat
  | 0 => 0
  | n + 1 => fa_cnt p n + if p n then 1 else 0
theorem fa_cnt_le (p : Nat → Bool) : ∀ n, fa_cnt p n ≤ n
  | 0 => Nat.le_refl 0
  | n + 1 => by
    have ih := fa_cnt_le p n
    unfold fa_cnt
    split
    · omega
    · omega
theorem fa_cnt_yes {p : Nat → Bool} {n : Nat} (h : p n = true) : fa_cnt p (n + 1) = fa_cnt p n + 1 := by rw [fa_cnt, if_pos h]
theorem fa_cnt_no {p : Nat → Bool} {n : Nat} (h : p n = false) : fa_cnt p (n + 1) = fa_cnt p n := by rw [fa_cnt, if_neg (by rw [h]; decide)]; rfl
theorem fa_cnt_cong {p q : Nat → Bool} : ∀ {n : Nat}, (∀ k, k < n → p k = q k) → fa_cnt p n = fa_cnt q n
  | 0, _ => rfl
  | n + 1, h => by rw [fa_cnt, fa_cnt, fa_cnt_cong (fun k hk => h k (Nat.lt_succ_of_lt hk)), h n (Nat.lt_succ_self n)]
/-! ===== an answer carried into a post; a branch on a boolean answer ===== -/
theorem fa_post {α : Type} {P : α → Prop} {x y : α} (h : x = y) (hp : P y) : P x := h ▸ hp
theorem fa_post2 {α β : Type} {P : α → β → Prop} {x y : α} {u v : β} (h : x = y) (h2 : u = v) (hp : P y v) : P x u := h ▸ h2 ▸ hp
theorem fa_bool {r : Int32} {b : Bool} (h : r = if b then 1 else 0) : (r = 0 ↔ b = false) ∧ (¬ r = 0 ↔ b = true) := by
  subst h
  cases b
  · exact ⟨⟨fun _ => rfl, fun _ => rfl⟩, ⟨fun h => absurd rfl h, fun h => absurd h (by decide)⟩⟩
  · exact ⟨⟨fun h => absurd h (by decide), fun h => absurd h (by decide)⟩, ⟨fun _ => rfl, fun _ => by decide⟩⟩
/-- a boolean's narrowing changes nothing -/
theorem fa_bool_and {r : Int32} (h : r = 0 ∨ r = 1) : r &&& 1 = r := by
  rcases h with rfl | rfl
  · decide
  · decide
theorem fa_bool_prop {c : Prop} [Decidable c] {r : Int32} (h : r = if c then 1 else 0) : (r = 0 ↔ ¬ c) ∧ (¬ r = 0 ↔ c) := by
  subst h
  by_cases hc : c
  · rw [if_pos hc]
    exact ⟨⟨fun h => absurd h (by decide), fun h => absurd hc h⟩, ⟨fun _ => hc, fun _ => by decide⟩⟩
  · rw [if_neg hc]
    exact ⟨⟨fun _ => hc, fun _ => rfl⟩, ⟨fun h => absurd rfl h, fun h => absurd h hc⟩⟩
end
section
/-! plain facts to paste, each family by itself; over the kit's nI, lN and upd -/
/-! ===== drawers: more things than places ===== -/
theorem fb_holes : ∀ (m n : Nat) (f : Nat → Nat), (∀ i, i < n → f i < m) → (∀ i j, i < j → j < n → f i ≠ f j) → n ≤ m := by
  intro m
  induction m with
  | zero =>
    intro n f h1 _
    rcases Nat.eq_zero_or_pos n with h | h
    · omega
    · exact absurd (h1 0 h) (Nat.not_lt_zero _)
  | succ m ih =>
    intro n f h1 h2
    by_cases hx : ∃ i, i < n ∧ f i = m
    · obtain ⟨a, ha, hfa⟩ := hx
      have hg := ih (n - 1) (fun i => if i < a then f i else f (i + 1)) (by
        intro i hi
        by_cases q : i < a
        · simp only [if_pos q]
          have b1 := h1 i (by omega)
          have b2 := h2 i a q ha
          omega
        · simp only [if_neg q]
          have b1 := h1 (i + 1) (by omega)
          have b2 := h2 a (i + 1) (by omega) (by omega)
          omega) (by
        intro i j hij hj
        by_cases q : i < a
        · by_cases r : j < a
          · simp only [if_pos q, if_pos r]
            exact h2 i j hij (by omega)
          · simp only [if_pos q, if_neg r]
            exact h2 i (j + 1) (by omega) (by omega)
        · have r : ¬ j < a := by omega
          simp only [if_neg q, if_neg r]
          exact h2 (i + 1) (j + 1) (by omega) (by omega))
      omega
    · have hg := ih n f (fun i hi => by
        have b1 := h1 i hi
        have b2 : f i ≠ m := fun e => hx ⟨i, hi, e⟩
        omega) h2
      omega
/-- two of them in one place -/
theorem fb_twice {m n : Nat} {f : Nat → Nat} (h : ∀ i, i < n → f i < m) (hm : m < n) : ∃ i j, i < j ∧ j < n ∧ f i = f j := by
  refine Classical.byContradiction fun hx => ?_
  have := fb_holes m n f h (fun i j hij hj e => hx ⟨i, j, hij, hj, e⟩)
  omega
/-- as many as places, none twice: each place is taken -/
theorem fb_onto {n : Nat} {f : Nat → Nat} (h : ∀ i, i < n → f i < n) (h2 : ∀ i j, i < j → j < n → f i ≠ f j) {y : Nat} (hy : y < n) : ∃ i, i < n ∧ f i = y := by
  refine Classical.byContradiction fun hx => ?_
  have hne : ∀ i, i < n → f i ≠ y := fun i hi e => hx ⟨i, hi, e⟩
  have := fb_holes (n - 1) n (fun i => if f i < y then f i else f i - 1) (by
    intro i hi
    have b1 := h i hi
    have b2 := hne i hi
    by_cases q : f i < y
    · simp only [if_pos q]; omega
    · simp only [if_neg q]; omega) (by
    intro i j hij hj
    have b1 := hne i (by omega)
    have b2 := hne j hj
    have b3 := h2 i j hij hj
    by_cases q : f i < y
    · by_cases r : f j < y
      · simp only [if_pos q, if_pos r]; exact b3
      · simp only [if_pos q, if_neg r]; omega
    · by_cases r : f j < y
      · simp only [if_neg q, if_pos r]; omega
      · simp only [if_neg q, if_neg r]; omega)
  omega
/-! ===== how many places have a property ===== -/
def fb_ct (p : Nat → Bool) : Nat → Nat
  | 0 => 0
  | n + 1 => fb_ct p n + (if p n then 1 else 0)
theorem fb_ct_succ (p : Nat → Bool) (n : Nat) : fb_ct p (n + 1) = fb_ct p n + (if p n then 1 else 0) := rfl
theorem fb_ct_le (p : Nat → Bool) : ∀ n, fb_ct p n ≤ n
  | 0 => Nat.le_refl _
  | n + 1 => by
    have h := fb_ct_le p n
    rw [fb_ct_succ]
    split <;> omega
theorem fb_ct_step (p : Nat → Bool) (m : Nat) : ∀ n, fb_ct p m ≤ fb_ct p (m + n)
  | 0 => Nat.le_refl _
  | n + 1 => by
    have h := fb_ct_step p m n
    show fb_ct p m ≤ fb_ct p (m + n + 1)
    rw [fb_ct_succ]
    omega
theorem fb_ct_mono (p : Nat → Bool) {m n : Nat} (h : m ≤ n) : fb_ct p m ≤ fb_ct p n := by
  have := fb_ct_step p m (n - m)
  rwa [Nat.add_sub_cancel' h] at this
theorem fb_ct_cong {p q : Nat → Bool} : ∀ {n : Nat}, (∀ k, k < n → p k = q k) → fb_ct p n = fb_ct q n
  | 0, _ => rfl
  | n + 1, h => by
    rw [fb_ct_succ, fb_ct_succ, fb_ct_cong (fun k hk => h k (by omega)), h n (by omega)]
/-- one place changed -/
theorem fb_ct_out (p : Nat → Bool) (b : Bool) {i n : Nat} (h : n ≤ i) : fb_ct (fun k => if k = i then b else p k) n = fb_ct p n :=
  fb_ct_cong fun k hk => if_neg (by omega)
theorem fb_ct_upd (p : Nat → Bool) (b : Bool) {i : Nat} : ∀ {n : Nat}, i < n → fb_ct (fun k => if k = i then b else p k) n + (if p i then 1 else 0) = fb_ct p n + (if b then 1 else 0)
  | 0, h => absurd h (Nat.not_lt_zero i)
  | n + 1, h => by
    rw [fb_ct_succ, fb_ct_succ]
    rcases Nat.lt_or_ge i n with q | q
    · have := fb_ct_upd p b q
      have e : (if n = i then b else p n) = p n := if_neg (by omega)
      rw [e]
      omega
    · have e : i = n := by omega
      subst e
      rw [fb_ct_out p b (Nat.le_refl _)]
      simp only [if_true]
      omega
theorem fb_ct_sub {p q : Nat → Bool} : ∀ {n : Nat}, (∀ k, k < n → p k = true → q k = true) → fb_ct p n ≤ fb_ct q n
  | 0, _ => Nat.le_refl _
  | n + 1, h => by
    have h1 := fb_ct_sub (n := n) (p := p) (q := q) (fun k hk => h k (by omega))
    have h2 := h n (by omega)
    rw [fb_ct_succ, fb_ct_succ]
    cases hp : p n <;> cases hq : q n <;> simp_all <;> omega
theorem fb_ct_or {p q : Nat → Bool} : ∀ {n : Nat}, (∀ k, k < n → ¬ (p k = true ∧ q k = true)) → fb_ct (fun k => p k || q k) n = fb_ct p n + fb_ct q n
  | 0, _ => rfl
  | n + 1, h => by
    have h1 := fb_ct_or (n := n) (p := p) (q := q) (fun k hk => h k (by omega))
    have h2 := h n (by omega)
    rw [fb_ct_succ, fb_ct_succ, fb_ct_succ, h1]
    cases hp : p n <;> cases hq : q n <;> simp_all <;> omega
theorem fb_ct_not (p : Nat → Bool) : ∀ n, fb_ct p n + fb_ct (fun k => !p k) n = n
  | 0 => rfl
  | n + 1 => by
    have h := fb_ct_not p n
    rw [fb_ct_succ, fb_ct_succ]
    cases p n <;> simp <;> omega
theorem fb_ct_split (p : Nat → Bool) (m : Nat) : ∀ n, fb_ct p (m + n) = fb_ct p m + fb_ct (fun k => p (m + k)) n
  | 0 => rfl
  | n + 1 => by
    have h := fb_ct_split p m n
    show fb_ct p (m + n + 1) = _
    rw [fb_ct_succ, fb_ct_succ, h, Nat.add_assoc]
theorem fb_ct_zero {p : Nat → Bool} : ∀ {n : Nat}, fb_ct p n = 0 ↔ ∀ k, k < n → p k = false
  | 0 => ⟨fun _ k hk => absurd hk (Nat.not_lt_zero k), fun _ => rfl⟩
  | n + 1 => by
    have h := fb_ct_zero (p := p) (n := n)
    rw [fb_ct_succ]
    constructor
    · intro e k hk
      have e1 : fb_ct p n = 0 := by omega
      rcases Nat.lt_or_ge k n with q | q
      · exact h.mp e1 k q
      · have ek : k = n := by omega
        subst ek
        cases hp : p k
        · rfl
        · simp [hp] at e
    · intro a
      rw [h.mpr (fun k hk => a k (by omega)), a n (by omega)]
      rfl
theorem fb_ct_pos {p : Nat → Bool} {n : Nat} : 0 < fb_ct p n ↔ ∃ k, k < n ∧ p k = true := by
  constructor
  · intro h
    refine Classical.byContradiction fun hx => ?_
    have := fb_ct_zero.mpr (fun k hk => by
      cases hp : p k
      · rfl
      · exact absurd ⟨k, hk, hp⟩ hx : ∀ k, k < n → p k = false)
    omega
  · rintro ⟨k, hk, hp⟩
    rcases Nat.eq_zero_or_pos (fb_ct p n) with e | e
    · have := fb_ct_zero.mp e k hk
      rw [this] at hp
      cases hp
    · exact e
theorem fb_ct_all {p : Nat → Bool} {n : Nat} : fb_ct p n = n ↔ ∀ k, k < n → p k = true := by
  have h := fb_ct_not p n
  constructor
  · intro e k hk
    have z : fb_ct (fun k => !p k) n = 0 := by omega
    have := fb_ct_zero.mp z k hk
    cases hp : p k
    · simp [hp] at this
    · rfl
  · intro a
    have z : fb_ct (fun k => !p k) n = 0 := fb_ct_zero.mpr (fun k hk => by simp [a k hk])
    omega
/-- the k-th place with the property -/
theorem fb_ct_kth {p : Nat → Bool} {k : Nat} : ∀ {n : Nat}, k < fb_ct p n → ∃ i, i < n ∧ p i = true ∧ fb_ct p i = k
  | 0, h => absurd h (Nat.not_lt_zero k)
  | n + 1, h => by
    rcases Nat.lt_or_ge k (fb_ct p n) with q | q
    · obtain ⟨i, h1, h2⟩ := fb_ct_kth q
      exact ⟨i, by omega, h2⟩
    · rw [fb_ct_succ] at h
      cases hp : p n
      · simp [hp] at h; omega
      · simp [hp] at h
        exact ⟨n, by omega, hp, by omega⟩
theorem fb_ct_kth_one {p : Nat → Bool} {i j : Nat} (hi : p i = true) (hj : p j = true) (e : fb_ct p i = fb_ct p j) : i = j := by
  have key : ∀ a b : Nat, a < b → p a = true → fb_ct p a < fb_ct p b := by
    intro a b hab ha
    have h := fb_ct_mono p (show a + 1 ≤ b from hab)
    rw [fb_ct_succ, ha] at h
    simp at h
    omega
  rcases Nat.lt_trichotomy i j with q | q | q
  · have := key i j q hi; omega
  · exact q
  · have := key j i q hj; omega
/-! ===== sums over a range: one place changed, parts, bounds ===== -/
def fb_sm (f : Nat → Nat) : Nat → Nat
  | 0 => 0
  | n + 1 => fb_sm f n + f n
theorem fb_sm_succ (f : Nat → Nat) (n : Nat) : fb_sm f (n + 1) = fb_sm f n + f n := rfl
theorem fb_sm_cong {f g : Nat → Nat} : ∀ {n : Nat}, (∀ k, k < n → f k = g k) → fb_sm f n = fb_sm g n
  | 0, _ => rfl
  | n + 1, h => by rw [fb_sm_succ, fb_sm_succ, fb_sm_cong (fun k hk => h k (by omega)), h n (by omega)]
theorem fb_sm_out (f : Nat → Nat) (v : Nat) {i n : Nat} (h : n ≤ i) : fb_sm (fun k => if k = i then v else f k) n = fb_sm f n :=
  fb_sm_cong fun k hk => if_neg (by omega)
theorem fb_sm_upd (f : Nat → Nat) (v : Nat) {i : Nat} : ∀ {n : Nat}, i < n → fb_sm (fun k => if k = i then v else f k) n + f i = fb_sm f n + v
  | 0, h => absurd h (Nat.not_lt_zero i)
  | n + 1, h => by
    rw [fb_sm_succ, fb_sm_succ]
    rcases Nat.lt_or_ge i n with q | q
    · have := fb_sm_upd f v q
      have e : (if n = i then v else f n) = f n := if_neg (by omega)
      rw [e]
      omega
    · have e : i = n := by omega
      subst e
      rw [fb_sm_out f v (Nat.le_refl _)]
      simp only [if_true]
      omega
theorem fb_sm_add (f g : Nat → Nat) : ∀ n, fb_sm (fun k => f k + g k) n = fb_sm f n + fb_sm g n
  | 0 => rfl
  | n + 1 => by
    have h := fb_sm_add f g n
    rw [fb_sm_succ, fb_sm_succ, fb_sm_succ, h]
    omega
theorem fb_sm_le {f g : Nat → Nat} : ∀ {n : Nat}, (∀ k, k < n → f k ≤ g k) → fb_sm f n ≤ fb_sm g n
  | 0, _ => Nat.le_refl _
  | n + 1, h => by
    have h1 := fb_sm_le (n := n) (f := f) (g := g) (fun k hk => h k (by omega))
    have h2 := h n (by omega)
    rw [fb_sm_succ, fb_sm_succ]
    omega
theorem fb_sm_const (c : Nat) : ∀ n, fb_sm (fun _ => c) n = n * c
  | 0 => by rw [Nat.zero_mul]; rfl
  | n + 1 => by rw [fb_sm_succ, fb_sm_const c n, Nat.succ_mul]
theorem fb_sm_bound {f : Nat → Nat} {c n : Nat} (h : ∀ k, k < n → f k ≤ c) : fb_sm f n ≤ n * c := by
  rw [← fb_sm_const c n]
  exact fb_sm_le h
theorem fb_sm_mono (f : Nat → Nat) (m : Nat) : ∀ n, fb_sm f m ≤ fb_sm f (m + n)
  | 0 => Nat.le_refl _
  | n + 1 => by
    have h := fb_sm_mono f m n
    show fb_sm f m ≤ fb_sm f (m + n + 1)
    rw [fb_sm_succ]
    omega
theorem fb_sm_part (f : Nat → Nat) {i n : Nat} (h : i < n) : fb_sm f i + f i ≤ fb_sm f n := by
  have := fb_sm_mono f (i + 1) (n - (i + 1))
  rw [fb_sm_succ, show i + 1 + (n - (i + 1)) = n by omega] at this
  exact this
theorem fb_sm_split (f : Nat → Nat) (m : Nat) : ∀ n, fb_sm f (m + n) = fb_sm f m + fb_sm (fun k => f (m + k)) n
  | 0 => rfl
  | n + 1 => by
    have h := fb_sm_split f m n
    show fb_sm f (m + n + 1) = _
    rw [fb_sm_succ, fb_sm_succ, h, Nat.add_assoc]
theorem fb_sm_zero {f : Nat → Nat} {n : Nat} (h : fb_sm f n = 0) : ∀ k, k < n → f k = 0 := fun k hk => by
  have := fb_sm_part f hk
  omega
/-- the same over whole numbers -/
def fb_si (f : Nat → Int) : Nat → Int
  | 0 => 0
  | n + 1 => fb_si f n + f n
theorem fb_si_succ (f : Nat → Int) (n : Nat) : fb_si f (n + 1) = fb_si f n + f n := rfl
theorem fb_si_cong {f g : Nat → Int} : ∀ {n : Nat}, (∀ k, k < n → f k = g k) → fb_si f n = fb_si g n
  | 0, _ => rfl
  | n + 1, h => by rw [fb_si_succ, fb_si_succ, fb_si_cong (fun k hk => h k (by omega)), h n (by omega)]
theorem fb_si_out (f : Nat → Int) (v : Int) {i n : Nat} (h : n ≤ i) : fb_si (fun k => if k = i then v else f k) n = fb_si f n :=
  fb_si_cong fun k hk => if_neg (by omega)
theorem fb_si_upd (f : Nat → Int) (v : Int) {i : Nat} : ∀ {n : Nat}, i < n → fb_si (fun k => if k = i then v else f k) n = fb_si f n - f i + v
  | 0, h => absurd h (Nat.not_lt_zero i)
  | n + 1, h => by
    rw [fb_si_succ, fb_si_succ]
    rcases Nat.lt_or_ge i n with q | q
    · have := fb_si_upd f v q
      have e : (if n = i then v else f n) = f n := if_neg (by omega)
      rw [e]
      omega
    · have e : i = n := by omega
      subst e
      rw [fb_si_out f v (Nat.le_refl _)]
      simp only [if_true]
      omega
theorem fb_si_add (f g : Nat → Int) : ∀ n, fb_si (fun k => f k + g k) n = fb_si f n + fb_si g n
  | 0 => rfl
  | n + 1 => by
    have h := fb_si_add f g n
    rw [fb_si_succ, fb_si_succ, fb_si_succ, h]
    omega
theorem fb_si_sub (f g : Nat → Int) : ∀ n, fb_si (fun k => f k - g k) n = fb_si f n - fb_si g n
  | 0 => rfl
  | n + 1 => by
    have h := fb_si_sub f g n
    rw [fb_si_succ, fb_si_succ, fb_si_succ, h]
    omega
theorem fb_si_mul (c : Int) (f : Nat → Int) : ∀ n, fb_si (fun k => c * f k) n = c * fb_si f n
  | 0 => (Int.mul_zero c).symm
  | n + 1 => by
    have h := fb_si_mul c f n
    rw [fb_si_succ, fb_si_succ, h, Int.mul_add]
theorem fb_si_split (f : Nat → Int) (m : Nat) : ∀ n, fb_si f (m + n) = fb_si f m + fb_si (fun k => f (m + k)) n
  | 0 => (Int.add_zero _).symm
  | n + 1 => by
    have h := fb_si_split f m n
    show fb_si f (m + n + 1) = _
    rw [fb_si_succ, fb_si_succ, h, Int.add_assoc]
theorem fb_si_nat (f : Nat → Nat) : ∀ n, fb_si (fun k => (f k : Int)) n = (fb_sm f n : Int)
  | 0 => rfl
  | n + 1 => by
    have h := fb_si_nat f n
    rw [fb_si_succ, fb_sm_succ, h]
    omega
theorem fb_si_bound {f : Nat → Int} {c : Int} (hc : 0 ≤ c) : ∀ {n : Nat}, (∀ k, k < n → -c ≤ f k ∧ f k ≤ c) → -(n * c) ≤ fb_si f n ∧ fb_si f n ≤ n * c
  | 0, _ => by simp [fb_si]
  | n + 1, h => by
    have h1 := fb_si_bound (n := n) (f := f) hc (fun k hk => h k (by omega))
    have h2 := h n (by omega)
    have e : ((n + 1 : Nat) : Int) * c = n * c + c := by rw [Int.natCast_add, Int.add_mul]; simp
    rw [fb_si_succ, e]
    omega
/-! ===== bits of a long that isn't negative ===== -/
theorem fb_andL (a b : Nat) : lN a &&& lN b = lN (a &&& b) := by
  apply Int64.toBitVec_inj.1
  show BitVec.ofNat 64 a &&& BitVec.ofNat 64 b = BitVec.ofNat 64 (a &&& b)
  apply BitVec.eq_of_getLsbD_eq
  intro i hi
  simp [hi]
theorem fb_orL (a b : Nat) : lN a ||| lN b = lN (a ||| b) := by
  apply Int64.toBitVec_inj.1
  show BitVec.ofNat 64 a ||| BitVec.ofNat 64 b = BitVec.ofNat 64 (a ||| b)
  apply BitVec.eq_of_getLsbD_eq
  intro i hi
  simp [hi]
theorem fb_xorL (a b : Nat) : lN a ^^^ lN b = lN (a ^^^ b) := by
  apply Int64.toBitVec_inj.1
  show BitVec.ofNat 64 a ^^^ BitVec.ofNat 64 b = BitVec.ofNat 64 (a ^^^ b)
  apply BitVec.eq_of_getLsbD_eq
  intro i hi
  simp [hi]
theorem fb_xorI (a b : Nat) : nI a ^^^ nI b = nI (a ^^^ b) := by
  apply Int32.toBitVec_inj.1
  show BitVec.ofNat 32 a ^^^ BitVec.ofNat 32 b = BitVec.ofNat 32 (a ^^^ b)
  apply BitVec.eq_of_getLsbD_eq
  intro i hi
  simp [hi]
theorem fb_maskL (n k : Nat) : lN n &&& lN (2 ^ k - 1) = lN (n % 2 ^ k) := by rw [fb_andL, Nat.and_two_pow_sub_one_eq_mod]
theorem fb_or_sumL {a k : Nat} (b : Nat) (h : a < 2 ^ k) : lN (2 ^ k * b) ||| lN a = lN (2 ^ k * b + a) := by rw [fb_orL, Nat.two_pow_add_eq_or_of_lt h]
theorem fb_lN_inj {a b : Nat} (ha : a < 2 ^ 63) (hb : b < 2 ^ 63) : lN a = lN b ↔ a = b := by
  constructor
  · intro h
    have h1 : (BitVec.ofNat 64 a).toNat = (BitVec.ofNat 64 b).toNat := congrArg (fun x : Int64 => x.toBitVec.toNat) h
    rw [BitVec.toNat_ofNat, BitVec.toNat_ofNat, Nat.mod_eq_of_lt (by omega), Nat.mod_eq_of_lt (by omega)] at h1
    exact h1
  · rintro rfl; rfl
theorem fb_bit_nat (n j : Nat) : n &&& 2 ^ j = 0 ↔ n.testBit j = false := by
  constructor
  · intro h
    have h1 : (n &&& 2 ^ j).testBit j = false := by rw [h]; simp
    rw [Nat.testBit_and] at h1
    simpa using h1
  · intro h
    apply Nat.eq_of_testBit_eq
    intro i
    rw [Nat.testBit_and]
    by_cases hi : j = i
    · subst hi; simp [h]
    · first | (simp [Nat.testBit_two_pow, hi]; done) | (simp [Nat.testBit_two_pow_of_ne hi]; done)
/-- one bit of a long -/
theorem fb_bitL {n j : Nat} (hj : j < 63) : lN n &&& lN (2 ^ j) = 0 ↔ n.testBit j = false := by
  have h2 : (2 : Nat) ^ j < 2 ^ 63 := Nat.pow_lt_pow_right (by decide) hj
  have hle : n &&& 2 ^ j ≤ 2 ^ j := Nat.and_le_right
  rw [fb_andL, ← fb_bit_nat, show (0 : Int64) = lN 0 from rfl]
  exact fb_lN_inj (by omega) (by decide)
/-- a bit set, a bit taken off -/
theorem fb_bit_set (n j i : Nat) : (n ||| 2 ^ j).testBit i = (n.testBit i || decide (i = j)) := by
  rw [Nat.testBit_or]
  by_cases h : j = i
  · subst h; simp
  · have h2 : ¬ i = j := fun e => h e.symm
    first | (simp [Nat.testBit_two_pow, h, h2]; done) | (simp [Nat.testBit_two_pow_of_ne h, h2]; done)
theorem fb_bit_flip (n j i : Nat) : (n ^^^ 2 ^ j).testBit i = (n.testBit i ^^ decide (i = j)) := by
  rw [Nat.testBit_xor]
  by_cases h : j = i
  · subst h; simp
  · have h2 : ¬ i = j := fun e => h e.symm
    first | (simp [Nat.testBit_two_pow, h, h2]; done) | (simp [Nat.testBit_two_pow_of_ne h, h2]; done)
/-! ===== a stretch of an array written over by a function ===== -/
def fb_put {α : Type} (f g : Nat → α) (a n : Nat) : Nat → α := fun k => if a ≤ k ∧ k < a + n then g (k - a) else f k
theorem fb_put_0 {α : Type} (f g : Nat → α) (a : Nat) : fb_put f g a 0 = f := funext fun k => if_neg (by omega)
theorem fb_put_in {α : Type} {f g : Nat → α} {a n k : Nat} (h1 : a ≤ k) (h2 : k < a + n) : fb_put f g a n k = g (k - a) := if_pos ⟨h1, h2⟩
theorem fb_put_out {α : Type} {f g : Nat → α} {a n k : Nat} (h : k < a ∨ a + n ≤ k) : fb_put f g a n k = f k := if_neg (by omega)
theorem fb_put_succ (f g : Nat → Int32) (a n : Nat) : upd (fb_put f g a n) (a + n) (g n) = fb_put f g a (n + 1) := by
  funext k
  by_cases h : k = a + n
  · subst h
    simp [upd, fb_put]
  · by_cases h1 : a ≤ k ∧ k < a + n
    · have h2 : a ≤ k ∧ k < a + (n + 1) := by omega
      simp only [upd, fb_put, if_neg h, if_pos h1, if_pos h2]
    · have h2 : ¬ (a ≤ k ∧ k < a + (n + 1)) := by omega
      simp only [upd, fb_put, if_neg h, if_neg h1, if_neg h2]
/-- .. from the far end down -/
theorem fb_put_down (f g : Nat → Int32) {a n m : Nat} (h : m < n) : upd (fb_put f (fun k => g (k + (m + 1))) (a + (m + 1)) (n - (m + 1))) (a + m) (g m) = fb_put f (fun k => g (k + m)) (a + m) (n - m) := by
  funext k
  by_cases h0 : k = a + m
  · subst h0
    simp only [upd, if_true]
    rw [fb_put_in (by omega) (by omega)]
    exact congrArg g (by omega)
  · simp only [upd, if_neg h0]
    by_cases h1 : a + (m + 1) ≤ k ∧ k < a + (m + 1) + (n - (m + 1))
    · rw [fb_put_in h1.1 h1.2, fb_put_in (by omega) (by omega)]
      exact congrArg g (by omega)
    · rw [fb_put_out (by omega), fb_put_out (by omega)]
theorem fb_put_cong {α : Type} {f f2 g g2 : Nat → α} {a n : Nat} (hf : ∀ k, (k < a ∨ a + n ≤ k) → f k = f2 k) (hg : ∀ k, k < n → g k = g2 k) : fb_put f g a n = fb_put f2 g2 a n := by
  funext k
  by_cases h : a ≤ k ∧ k < a + n
  · rw [fb_put_in h.1 h.2, fb_put_in h.1 h.2, hg _ (by omega)]
  · rw [fb_put_out (by omega), fb_put_out (by omega), hf _ (by omega)]
/-! ===== the least, the first, the best so far; that there is one alone ===== -/
theorem fb_first {p : Nat → Prop} [DecidablePred p] : ∀ {n : Nat}, (∃ i, i < n ∧ p i) → ∃ i, i < n ∧ p i ∧ ∀ j, j < i → ¬ p j
  | 0, h => by obtain ⟨i, hi, -⟩ := h; exact absurd hi (Nat.not_lt_zero i)
  | n + 1, h => by
    by_cases q : ∃ i, i < n ∧ p i
    · obtain ⟨i, h1, h2⟩ := fb_first q
      exact ⟨i, by omega, h2⟩
    · obtain ⟨i, h1, h2⟩ := h
      have e : i = n := by
        rcases Nat.lt_or_ge i n with r | r
        · exact absurd ⟨i, r, h2⟩ q
        · omega
      subst e
      exact ⟨i, by omega, h2, fun j hj hp => q ⟨j, hj, hp⟩⟩
theorem fb_first_one {p : Nat → Prop} {i j : Nat} (hi : p i) (hi2 : ∀ k, k < i → ¬ p k) (hj : p j) (hj2 : ∀ k, k < j → ¬ p k) : i = j := by
  rcases Nat.lt_trichotomy i j with q | q | q
  · exact absurd hi (hj2 i q)
  · exact q
  · exact absurd hj (hi2 j q)
theorem fb_last {p : Nat → Prop} [DecidablePred p] : ∀ {n : Nat}, (∃ i, i < n ∧ p i) → ∃ i, i < n ∧ p i ∧ ∀ j, i < j → j < n → ¬ p j
  | 0, h => by obtain ⟨i, hi, -⟩ := h; exact absurd hi (Nat.not_lt_zero i)
  | n + 1, h => by
    by_cases q : p n
    · exact ⟨n, by omega, q, fun j h1 h2 => by omega⟩
    · obtain ⟨i, h1, h2⟩ := h
      have hi : i < n := by
        rcases Nat.lt_or_ge i n with r | r
        · exact r
        · have e : i = n := by omega
          subst e
          exact absurd h2 q
      obtain ⟨i2, a1, a2, a3⟩ := fb_last (n := n) ⟨i, hi, h2⟩
      refine ⟨i2, by omega, a2, fun j b1 b2 => ?_⟩
      rcases Nat.lt_or_ge j n with r | r
      · exact a3 j b1 r
      · have e : j = n := by omega
        subst e
        exact q
/-- the first greatest -/
theorem fb_best (f : Nat → Int) : ∀ {n : Nat}, 0 < n → ∃ i, i < n ∧ (∀ j, j < n → f j ≤ f i) ∧ ∀ j, j < i → f j < f i
  | 0, h => absurd h (Nat.lt_irrefl 0)
  | 1, _ => ⟨0, by omega, fun j hj => by have e : j = 0 := by omega
                                         subst e; exact Int.le_refl _, fun j hj => absurd hj (Nat.not_lt_zero j)⟩
  | n + 2, _ => by
    obtain ⟨i, h1, h2, h3⟩ := fb_best f (n := n + 1) (by omega)
    by_cases q : f i < f (n + 1)
    · refine ⟨n + 1, by omega, fun j hj => ?_, fun j hj => ?_⟩
      · rcases Nat.lt_or_ge j (n + 1) with r | r
        · have := h2 j r; omega
        · have e : j = n + 1 := by omega
          subst e; exact Int.le_refl _
      · have := h2 j hj; omega
    · refine ⟨i, by omega, fun j hj => ?_, h3⟩
      rcases Nat.lt_or_ge j (n + 1) with r | r
      · exact h2 j r
      · have e : j = n + 1 := by omega
        subst e; omega
theorem fb_best_one {f : Nat → Int} {n i j : Nat} (hi : i < n) (hi2 : ∀ k, k < n → f k ≤ f i) (hi3 : ∀ k, k < i → f k < f i) (hj : j < n) (hj2 : ∀ k, k < n → f k ≤ f j) (hj3 : ∀ k, k < j → f k < f j) : i = j := by
  rcases Nat.lt_trichotomy i j with q | q | q
  · have a := hj3 i q
    have b := hi2 j hj
    omega
  · exact q
  · have a := hi3 j q
    have b := hj2 i hi
    omega
/-- the first least -/
theorem fb_low (f : Nat → Int) {n : Nat} (h : 0 < n) : ∃ i, i < n ∧ (∀ j, j < n → f i ≤ f j) ∧ ∀ j, j < i → f i < f j := by
  obtain ⟨i, h1, h2, h3⟩ := fb_best (fun k => -f k) h
  exact ⟨i, h1, fun j hj => by have := h2 j hj; omega, fun j hj => by have := h3 j hj; omega⟩
/-! ===== signed ints as whole numbers, within bounds ===== -/
theorem fb_rng (x : Int32) : -2147483648 ≤ x.toInt ∧ x.toInt < 2147483648 := by
  have h1 := Int32.le_toInt x
  have h2 := Int32.toInt_lt x
  omega
theorem fb_bmod {z : Int} (h1 : -2147483648 ≤ z) (h2 : z < 2147483648) : z.bmod (2 ^ 32) = z := by
  rw [Int.bmod_eq_of_le (by omega) (by omega)]
theorem fb_addI {x y : Int32} (h1 : -2147483648 ≤ x.toInt + y.toInt) (h2 : x.toInt + y.toInt < 2147483648) : (x + y).toInt = x.toInt + y.toInt := by
  rw [Int32.toInt_add, fb_bmod h1 h2]
theorem fb_subI {x y : Int32} (h1 : -2147483648 ≤ x.toInt - y.toInt) (h2 : x.toInt - y.toInt < 2147483648) : (x - y).toInt = x.toInt - y.toInt := by
  rw [Int32.toInt_sub, fb_bmod h1 h2]
theorem fb_mulI {x y : Int32} (h1 : -2147483648 ≤ x.toInt * y.toInt) (h2 : x.toInt * y.toInt < 2147483648) : (x * y).toInt = x.toInt * y.toInt := by
  rw [Int32.toInt_mul, fb_bmod h1 h2]
theorem fb_negI {x : Int32} (h : x.toInt ≠ -2147483648) : (-x).toInt = -x.toInt := by
  have := fb_rng x
  rw [Int32.toInt_neg, fb_bmod (by omega) (by omega)]
theorem fb_ofI {z : Int} (h1 : -2147483648 ≤ z) (h2 : z < 2147483648) : (Int32.ofInt z).toInt = z := by
  rw [Int32.toInt_ofInt, fb_bmod h1 h2]
theorem fb_asI (x : Int32) : Int32.ofInt x.toInt = x := Int32.ofInt_toInt x
theorem fb_rngL (x : Int64) : -9223372036854775808 ≤ x.toInt ∧ x.toInt < 9223372036854775808 := by
  have h1 := Int64.le_toInt x
  have h2 := Int64.toInt_lt x
  omega
theorem fb_bmodL {z : Int} (h1 : -9223372036854775808 ≤ z) (h2 : z < 9223372036854775808) : z.bmod (2 ^ 64) = z := by
  rw [Int.bmod_eq_of_le (by omega) (by omega)]
theorem fb_addL {x y : Int64} (h1 : -9223372036854775808 ≤ x.toInt + y.toInt) (h2 : x.toInt + y.toInt < 9223372036854775808) : (x + y).toInt = x.toInt + y.toInt := by
  rw [Int64.toInt_add, fb_bmodL h1 h2]
theorem fb_subL {x y : Int64} (h1 : -9223372036854775808 ≤ x.toInt - y.toInt) (h2 : x.toInt - y.toInt < 9223372036854775808) : (x - y).toInt = x.toInt - y.toInt := by
  rw [Int64.toInt_sub, fb_bmodL h1 h2]
theorem fb_mulL {x y : Int64} (h1 : -9223372036854775808 ≤ x.toInt * y.toInt) (h2 : x.toInt * y.toInt < 9223372036854775808) : (x * y).toInt = x.toInt * y.toInt := by
  rw [Int64.toInt_mul, fb_bmodL h1 h2]
/-! ===== cuts of what is narrow already ===== -/
theorem fb_byte {x : Int32} (h1 : -128 ≤ x.toInt) (h2 : x.toInt < 128) : x.toInt8.toInt32 = x := by
  apply Int32.toInt_inj.1
  rw [Int8.toInt_toInt32, Int32.toInt_toInt8, Int.bmod_eq_of_le (by omega) (by omega)]
theorem fb_short {x : Int32} (h1 : -32768 ≤ x.toInt) (h2 : x.toInt < 32768) : x.toInt16.toInt32 = x := by
  apply Int32.toInt_inj.1
  rw [Int16.toInt_toInt32, Int32.toInt_toInt16, Int.bmod_eq_of_le (by omega) (by omega)]
theorem fb_byte_rng (x : Int32) : -128 ≤ x.toInt8.toInt32.toInt ∧ x.toInt8.toInt32.toInt < 128 := by
  rw [Int8.toInt_toInt32]
  have h1 := Int8.le_toInt x.toInt8
  have h2 := Int8.toInt_lt x.toInt8
  omega
theorem fb_short_rng (x : Int32) : -32768 ≤ x.toInt16.toInt32.toInt ∧ x.toInt16.toInt32.toInt < 32768 := by
  rw [Int16.toInt_toInt32]
  have h1 := Int16.le_toInt x.toInt16
  have h2 := Int16.toInt_lt x.toInt16
  omega
theorem fb_byte_twice (x : Int32) : x.toInt8.toInt32.toInt8.toInt32 = x.toInt8.toInt32 := fb_byte (fb_byte_rng x).1 (fb_byte_rng x).2
theorem fb_short_twice (x : Int32) : x.toInt16.toInt32.toInt16.toInt32 = x.toInt16.toInt32 := fb_short (fb_short_rng x).1 (fb_short_rng x).2
theorem fb_char {n : Nat} (h : n < 65536) : (nI n).toUInt32.toUInt16.toUInt32.toInt32 = nI n := by
  apply Int32.toBitVec_inj.1
  apply BitVec.eq_of_toNat_eq
  have e1 : (nI n).toBitVec.toNat = n := by
    show (BitVec.ofNat 32 n).toNat = n
    rw [BitVec.toNat_ofNat, Nat.mod_eq_of_lt (by omega)]
  have e2 : ((nI n).toUInt32.toUInt16.toUInt32).toNat = n := by
    rw [UInt16.toNat_toUInt32, UInt32.toNat_toUInt16]
    show (nI n).toBitVec.toNat % 2 ^ 16 = n
    rw [e1, Nat.mod_eq_of_lt (by omega)]
  rw [e1]
  exact e2
end
section
theorem l_mask (n : Nat) : lN n &&& 2147483647 = lN (n % 2147483648) := fb_maskL n 31
theorem l_ushr31 {n : Nat} (h : n < 2 ^ 62) : ((lN n).toUInt64 >>> ((31 : Int32).toInt64.toUInt64 &&& Int64.toUInt64 63)).toInt64 = lN (n / 2147483648) := pf_ushr (d := 31) (by decide) h
theorem l_shl31 {n : Nat} (h : n < 2 ^ 64) : lN n <<< ((31 : Int32).toInt64 &&& 63) = lN (n * 2147483648) := g_shl (k := 31) (by decide) (by decide) (by decide) h
theorem lb_l (v i : Nat) : (lb v i).toInt64 = lN (lbN v i) := nI_l (lbN_lt' v i)
/-- two's complement: the low 31 bits of a difference -/
theorem l_mask_neg {x : Int64} {z : Int} (hx : x.toInt = z) (hz : -2147483649 ≤ z) (hz2 : z < 2147483648) : (x &&& 2147483647).toInt32 = nI (z % 2147483648).toNat := by
  by_cases h0 : 0 ≤ z
  · obtain ⟨n, rfl⟩ : ∃ n : Nat, z = n := ⟨z.toNat, by omega⟩
    have e : x = lN n := by
      rw [fa_eq64, hx, pk_lT (by omega)]
    rw [e, l_mask, lN_i]
    congr 1
  · have e : x = lN (2 ^ 64 - z.natAbs) := by
      rw [fa_eq64, hx, lN_ti (by omega)]
      rw [if_neg (by omega)]
      omega
    rw [e, l_mask, lN_i]
    congr 1
    omega
theorem ro2 {A : Nat → Prop} {x y : Nat} {e f : va_E} (h1 : ¬ A x) (h2 : ¬ A y) : ∀ q ∈ ([(x, e), (y, f)] : va_W), ¬ A q.1 := by
  intro q hq
  rcases List.mem_cons.mp hq with rfl | hq
  · exact h1
  · rw [List.mem_singleton.mp hq]; exact h2
theorem pB_at {D : va_G} {cl : List vw_C} {ws : va_W} {t : State} {H : Heap} (ht : t.heap = H) (h : va_P D cl ws t.heap) : va_P D cl ws H := by rw [← ht]; exact h
theorem if_nI {v i : Nat} (h : i < 2 ^ 31) : (if nI i < 0 then (0 : Int32) else lb v (nI i).toNatClampNeg) = lb v i := by rw [if_neg (nI_pos h), nI_clamp h]
theorem lN_neg1 : (lN 0 : Int64) = 0 := rfl
theorem lbN_add_ext {r : Nat} {g : Nat → Int32} {w : Nat} (h : ∀ k, k < w → g k = lb r k) : ∀ k, k < w → g k = lb r k := h
theorem l_dif {x y b : Nat} (hx : x < 2147483648) (hy : y < 2147483648) (hb : b < 2) : (lN x - lN y - lN b).toInt = (x : Int) - y - b := by
  have e1 : (lN x).toInt = x := pk_lT (by omega)
  have e2 : (lN y).toInt = y := pk_lT (by omega)
  have e3 : (lN b).toInt = b := pk_lT (by omega)
  have e4 : (lN x - lN y).toInt = (x : Int) - y := by rw [fb_subL (by omega) (by omega), e1, e2]
  rw [fb_subL (by omega) (by omega), e4, e3]
theorem l_cmp_ge {x : Int64} {z : Int} (hx : x.toInt = z) (h : 0 ≤ lg_cmp x 0) : ¬ z < 0 := by
  intro hz
  have h1 : x < 0 := by rw [fa_lt64, hx]; exact hz
  have h2 : ¬ x > 0 := by
    show ¬ (0 < x)
    rw [fa_lt64, hx]
    show ¬ (0 < z)
    omega
  have h3 : ¬ x = 0 := by
    rw [fa_eq64, hx]
    show ¬ z = 0
    omega
  unfold lg_cmp at h
  rw [if_neg h2, if_neg h3] at h
  exact absurd h (by decide)
theorem l_cmp_lt {x : Int64} {z : Int} (hx : x.toInt = z) (h : ¬ 0 ≤ lg_cmp x 0) : z < 0 := by
  rcases Int.lt_or_le z 0 with q | q
  · exact q
  · exfalso
    apply h
    unfold lg_cmp
    by_cases h1 : x > 0
    · rw [if_pos h1]; decide
    · rw [if_neg h1]
      have h2 : x = 0 := by
        rw [fa_eq64, hx]
        show z = 0
        have h3 : ¬ (0 < z) := by
          intro h4
          apply h1
          show 0 < x
          rw [fa_lt64, hx]
          exact h4
        omega
      rw [if_pos h2]; decide
theorem cyS_z {v u i : Nat} (h : ¬ cyS v u i = 1) : cyS v u i = 0 := by
  have := cyS_lt v u i
  omega
theorem i_m1 (x : Int32) : x + Int32.ofInt (-1) = x - 1 := by
  rw [Int32.sub_eq_add_neg]
  exact congrArg (x + ·) (by decide)
end
section
set_option maxHeartbeats 4000000 in
set_option maxRecDepth 100000 in
/-- limb p0, 0 beyond -/
theorem c_limbAt (l : Launch) (D : va_G) (cI : ClassId) (w o a v : Nat) (p0 : Int32) (hw : w ≤ 64) (hv0 : v < 2147483648 ^ w) : Met l yX1_limbAt wsX1_limbAt ({ frames := 0, cells := 0, slots := 0, locals := 0 }) (nPc [.ref o, .int p0] D (nW cI w o a v) [(cI, .int)]) (vp_Si (fun r => r = if p0 < 0 then 0 else lb v p0.toNatClampNeg)) 0 0 (fun _ => False) := by
  refine Met.ofW (cc := cX1_limbAt) (maxL := 2) (ret := (some .int)) (by decide) rfl ?_
  intro p e s m args below meth c s₁ B hml hv
  obtain ⟨rfl, hP, hK⟩ := hv
  have hx := B.exec
  have hb := B.bytes
  have hr := B.returns
  have hts := atoms_spec (ws := wsX1_limbAt) B.pre
  have hown : s.vm.findClass RX1 = some m.cls := findClass_of_methodNamed B.named
  have hlocks := B.notSynchronized
  have hi1 : ∀ w ∈ wsX10, w ∈ wsX1_limbAt := by decide +kernel
  generalize hH : s.heap = H at hP ⊢
  have hl := lv_entry ([.ref (o), .int (p0)]) (n := 2) (Nat.le_of_ble_eq_true rfl)
  rw [lg_entry_eq]
  generalize (lg_sl ([.ref (o), .int (p0)]) ++ List.replicate (2 - (lg_sl ([.ref (o), .int (p0)])).length) Slot.unset).toArray = ls at hl ⊢
  have hl : lv_has ls 2 [(0, .ref (o)), (1, .int (p0))] := hl
  refine lv_iload_n hx hb dX1_limbAt_0 rfl (lv_at hl 1 rfl) ?_
  refine lv_if_lt (tgt := 21) hx hb dX1_limbAt_1 (by decide) (fun c1 => ?_) (fun c1 => ?_)
  · refine lv_iconst (v := 0) hx hb dX1_limbAt_21 (by decide) ?_
    exact W.iret (v := 0) hx hb hr (fun t ht hW => ⟨0, rfl, by rw [if_pos c1], ht.trans hH.symm⟩) (fun _ h => by cases h) dX1_limbAt_22
  · obtain ⟨j, hj, rfl⟩ := nI_of c1
    refine lv_iload_n hx hb dX1_limbAt_4 rfl (lv_at hl 1 rfl) ?_
    refine lv_aload_n hx hb dX1_limbAt_5 rfl (lv_at hl 0 rfl) ?_
    refine va_get (D := D) (ci := 1) (v := .int (nI (szF v w))) (C := RX1) (T := TX1) (N := 2) hx hb hts hi1 hown hK hP 0 rfl rfl 1 (by decide) (hts (.fieldLink RX1 15 "BigLedger$Natural" "size" "I") (by decide +kernel)) (fun _ h9 => h9) rfl dX1_limbAt_6 ?_
    refine lv_icmp_ge (tgt := 21) hx hb dX1_limbAt_9 (by decide) (fun c2 => ?_) (fun c2 => ?_)
    · refine lv_iconst (v := 0) hx hb dX1_limbAt_21 (by decide) ?_
      have hsz := szF_le v w
      have c3 : szF v w ≤ j := (nI_leI (by omega) hj).mp c2
      exact W.iret (v := 0) hx hb hr (fun t ht hW => ⟨0, rfl, by
        rw [if_neg c1, lb_clamp hj]
        show 0 = nI (lbN v j)
        rcases Nat.lt_or_ge j w with q | q
        · rw [szF_beyond v w j c3 q, nI_0]
        · rw [lbN_zero hv0 q, nI_0], ht.trans hH.symm⟩) (fun _ h => by cases h) dX1_limbAt_22
    · have hsz := szF_le v w
      have c3 : j < szF v w := Nat.lt_of_not_le (fun q => c2 (nI_le q hj))
      refine lv_aload_n hx hb dX1_limbAt_12 rfl (lv_at hl 0 rfl) ?_
      refine va_get (D := D) (ci := 1) (v := .ref (a)) (C := RX1) (T := TX1) (N := 2) hx hb hts hi1 hown hK hP 0 rfl rfl 0 (by decide) (hts (.fieldLink RX1 9 "BigLedger$Natural" "limbs" "[I") (by decide +kernel)) (fun _ h9 => h9) rfl dX1_limbAt_13 ?_
      refine lv_iload_n hx hb dX1_limbAt_16 rfl (lv_at hl 1 rfl) ?_
      refine va_iald hx hb hK hP 1 0 rfl rfl (vp_in_nI (by omega) (by omega)) dX1_limbAt_17 ?_
      refine lv_topi (fun y1 ey1 => ?_)
      replace ey1 : y1 = lb v j := ey1.trans (lb_clamp hj)
      subst ey1
      refine lv_goto (tgt := 22) hx hb dX1_limbAt_18 (by decide) ?_
      exact W.iret (v := lb v j) hx hb hr (fun t ht hW => ⟨_, rfl, by rw [if_neg c1, lb_clamp hj], ht.trans hH.symm⟩) (fun _ h => by cases h) dX1_limbAt_22
set_option maxHeartbeats 4000000 in
set_option maxRecDepth 100000 in
/-- the size of what the limbs say -/
theorem c_measure (l : Launch) (D : va_G) (cI : ClassId) (w o a v : Nat) (z : Int32) (f : Nat → Int32) (hw : w ≤ 64) (hoa : o ≠ a) (hf : ∀ k, k < w → f k = lb v k) : Met l yX1_measure wsX1_measure ({ frames := 0, cells := 0, slots := 0, locals := 0 }) (nPc [.ref o] D [(o, .inr (1, [.ref a, .int z])), (a, .inl (cI, w, .inl f))] [(cI, .int)]) (va_Qv (fun _ : Unit => True) (fun _ t => va_P D vwCl (nW cI w o a v) t.heap) (nAd o a)) 0 0 (nAd o a) := by
  refine Met.ofW (cc := cX1_measure) (maxL := 1) (ret := none) (by decide) rfl ?_
  intro p e s m args below meth c s₁ B hml hv
  obtain ⟨rfl, hP, hK⟩ := hv
  have hx := B.exec
  have hb := B.bytes
  have hr := B.returns
  have hts := atoms_spec (ws := wsX1_measure) B.pre
  have hown : s.vm.findClass RX1 = some m.cls := findClass_of_methodNamed B.named
  have hlocks := B.notSynchronized
  have hi1 : ∀ w ∈ wsX10, w ∈ wsX1_measure := by decide +kernel
  have hD : va_D (nAd o a) [(o, .inr (1, [.ref (a), .int (z)])), (a, .inl (cI, w, .inl (f)))] := vd_two (Or.inl rfl) (Or.inr rfl) hoa
  have hS : va_S (nAd o a) s.heap s.heap [] := va_S.rf
  have hl := lv_entry ([.ref (o)]) (n := 1) (Nat.le_of_ble_eq_true rfl)
  rw [lg_entry_eq]
  generalize (lg_sl ([.ref (o)]) ++ List.replicate (1 - (lg_sl ([.ref (o)])).length) Slot.unset).toArray = ls at hl ⊢
  have hl : lv_has ls 1 [(0, .ref (o))] := hl
  have loop : ∀ (k : Nat) (H : Heap) (locs : List Loc) (ls : Array Slot), k ≤ w → szF v w = szF v k → va_P D vwCl [(o, .inr (1, [.ref (a), .int (nI k)])), (a, .inl (cI, w, .inl (f)))] H → va_D (nAd o a) [(o, .inr (1, [.ref (a), .int (nI k)])), (a, .inl (cI, w, .inl (f)))] → va_S (nAd o a) s.heap H locs → lv_has ls 1 [(0, .ref o)] → W p l e (headSpec wsX1_measure ({ frames := 0, cells := 0, slots := 0, locals := 0 })).room s m ([.ref (o)]).toArray below meth c H locs 0 0 (MQ below (va_Qv (fun _ : Unit => True) (fun _ t => va_P D vwCl (nW cI w o a v) t.heap) (nAd o a)) ([.ref (o)]).toArray s 0 0 (nAd o a)) (F0 m 9 ls []) := by
    intro k
    induction k with
    | zero =>
      intro H locs ls hkw hsz hP hD hS hl
      refine lv_aload_n hx hb dX1_measure_9 rfl (lv_at hl 0 rfl) ?_
      refine va_get (D := D) (ci := 1) (v := .int (nI 0)) (C := RX1) (T := TX1) (N := 2) hx hb hts hi1 hown hK hP 0 rfl rfl 1 (by decide) (hts (.fieldLink RX1 15 "BigLedger$Natural" "size" "I") (by decide +kernel)) (fun _ h9 => h9) rfl dX1_measure_10 ?_
      refine lv_if_le (tgt := 43) hx hb dX1_measure_13 (by decide) (fun _ => ?_) (fun c9 => absurd ((nI_le0 (by omega)).mpr rfl) c9)
      have hk9 : szF v 0 = 0 := rfl
      have hP9 : va_P D vwCl (nW cI w o a v) H := vp_cons (by rw [hsz, hk9]; exact hP 0 _ rfl) (vp_cons (at_congr (hP 1 _ rfl) hf) vp_nil)
      exact W.vret hx hb hr (fun t ht hW => ⟨⟨(), rfl, trivial, hp_at ht hP9⟩, hS.F ht⟩) hS.2.2 dX1_measure_43
    | succ k ih =>
      intro H locs ls hkw hsz hP hD hS hl
      refine lv_aload_n hx hb dX1_measure_9 rfl (lv_at hl 0 rfl) ?_
      refine va_get (D := D) (ci := 1) (v := .int (nI (k + 1))) (C := RX1) (T := TX1) (N := 2) hx hb hts hi1 hown hK hP 0 rfl rfl 1 (by decide) (hts (.fieldLink RX1 15 "BigLedger$Natural" "size" "I") (by decide +kernel)) (fun _ h9 => h9) rfl dX1_measure_10 ?_
      refine lv_if_le (tgt := 43) hx hb dX1_measure_13 (by decide) (fun c9 => absurd c9 (nI_nle (by omega) (by omega))) (fun _ => ?_)
      refine lv_aload_n hx hb dX1_measure_16 rfl (lv_at hl 0 rfl) ?_
      refine va_get (D := D) (ci := 1) (v := .ref (a)) (C := RX1) (T := TX1) (N := 2) hx hb hts hi1 hown hK hP 0 rfl rfl 0 (by decide) (hts (.fieldLink RX1 9 "BigLedger$Natural" "limbs" "[I") (by decide +kernel)) (fun _ h9 => h9) rfl dX1_measure_17 ?_
      refine lv_aload_n hx hb dX1_measure_20 rfl (lv_at hl 0 rfl) ?_
      refine va_get (D := D) (ci := 1) (v := .int (nI (k + 1))) (C := RX1) (T := TX1) (N := 2) hx hb hts hi1 hown hK hP 0 rfl rfl 1 (by decide) (hts (.fieldLink RX1 15 "BigLedger$Natural" "size" "I") (by decide +kernel)) (fun _ h9 => h9) rfl dX1_measure_21 ?_
      refine lv_iconst (v := 1) hx hb dX1_measure_24 (by decide) ?_
      refine lv_isub hx hb dX1_measure_25 ?_
      refine lv_topi (fun y2 ey2 => ?_)
      replace ey2 : y2 = nI k := ey2.trans (nI_pred k)
      subst ey2
      refine va_iald hx hb hK hP 1 0 rfl rfl (vp_in_nI (by omega) (by omega)) dX1_measure_26 ?_
      refine lv_topi (fun y3 ey3 => ?_)
      replace ey3 : y3 = lb v k := ey3.trans (by rw [nI_clamp (by omega)]; exact hf k (by omega))
      subst ey3
      refine lv_if_ne (tgt := 43) hx hb dX1_measure_27 (by decide) (fun c1 => ?_) (fun c1 => ?_)
      · have hk9 : szF v (k + 1) = k + 1 := szF_stop (fun q => c1 (lb_eq0.mpr q))
        have hP9 : va_P D vwCl (nW cI w o a v) H := vp_cons (by rw [hsz, hk9]; exact hP 0 _ rfl) (vp_cons (at_congr (hP 1 _ rfl) hf) vp_nil)
        exact W.vret hx hb hr (fun t ht hW => ⟨⟨(), rfl, trivial, hp_at ht hP9⟩, hS.F ht⟩) hS.2.2 dX1_measure_43
      · have hk9 : lbN v k = 0 := lb_eq0.mp c1
        refine lv_aload_n hx hb dX1_measure_30 rfl (lv_at hl 0 rfl) ?_
        refine lv_dup hx hb dX1_measure_31 rfl ?_
        refine va_get (D := D) (ci := 1) (v := .int (nI (k + 1))) (C := RX1) (T := TX1) (N := 2) hx hb hts hi1 hown hK hP 0 rfl rfl 1 (by decide) (hts (.fieldLink RX1 15 "BigLedger$Natural" "size" "I") (by decide +kernel)) (fun _ h9 => h9) rfl dX1_measure_32 ?_
        refine lv_iconst (v := 1) hx hb dX1_measure_35 (by decide) ?_
        refine lv_isub hx hb dX1_measure_36 ?_
        refine lv_topi (fun y4 ey4 => ?_)
        replace ey4 : y4 = nI k := ey4.trans (nI_pred k)
        subst ey4
        refine va_put (D := D) (ci := 1) (v := .int (nI k)) (ty := .int) (C := RX1) (T := TX1) (N := 2) hx hb hts hi1 tyX1 tyX1_ok nmX1 hown hK hP hD hS 0 rfl rfl 1 (by decide) (hts (.fieldLink RX1 15 "BigLedger$Natural" "size" "I") (by decide +kernel)) (fun _ h9 => h9) rfl (by decide +kernel) (rfl) (rfl) (Nat.le_of_ble_eq_true rfl) dX1_measure_37 (fun H locs hP hD hS => ?_)
        have hP : va_P D vwCl [(o, .inr (1, [.ref (a), .int (nI k)])), (a, .inl (cI, w, .inl (f)))] H := hP
        have hD : va_D (nAd o a) [(o, .inr (1, [.ref (a), .int (nI k)])), (a, .inl (cI, w, .inl (f)))] := hD
        refine lv_goto (tgt := 9) hx hb dX1_measure_40 (by decide) ?_
        exact ih H locs ls (by omega) (hsz.trans (szF_down hk9)) hP hD hS hl
  refine lv_aload_n hx hb dX1_measure_0 rfl (lv_at hl 0 rfl) ?_
  refine lv_aload_n hx hb dX1_measure_1 rfl (lv_at hl 0 rfl) ?_
  refine va_get (D := D) (ci := 1) (v := .ref (a)) (C := RX1) (T := TX1) (N := 2) hx hb hts hi1 hown hK hP 0 rfl rfl 0 (by decide) (hts (.fieldLink RX1 9 "BigLedger$Natural" "limbs" "[I") (by decide +kernel)) (fun _ h9 => h9) rfl dX1_measure_2 ?_
  refine va_alen (v := nI (w)) hx hb hK hP 1 0 rfl rfl (rfl) dX1_measure_5 ?_
  refine va_put (D := D) (ci := 1) (v := .int (nI (w))) (ty := .int) (C := RX1) (T := TX1) (N := 2) hx hb hts hi1 tyX1 tyX1_ok nmX1 hown hK hP hD hS 0 rfl rfl 1 (by decide) (hts (.fieldLink RX1 15 "BigLedger$Natural" "size" "I") (by decide +kernel)) (fun _ h9 => h9) rfl (by decide +kernel) (rfl) (rfl) (Nat.le_of_ble_eq_true rfl) dX1_measure_6 (fun H locs hP hD hS => ?_)
  have hP : va_P D vwCl [(o, .inr (1, [.ref (a), .int (nI (w))])), (a, .inl (cI, w, .inl (f)))] H := hP
  have hD : va_D (nAd o a) [(o, .inr (1, [.ref (a), .int (nI (w))])), (a, .inl (cI, w, .inl (f)))] := hD
  exact loop w H locs ls (Nat.le_refl w) rfl hP hD hS hl
end
section
set_option maxHeartbeats 4000000 in
set_option maxRecDepth 100000 in
theorem c_cmp (l : Launch) (x y : Int32) : Met l yJ6_compare_7cf53 wsJ6_compare_7cf53 ({ frames := 0, cells := 0, slots := 0, locals := 0 }) (fun v _ => v = ([.int x, .int y] : List Value).toArray) (vp_Si (fun r => r = if x < y then -1 else if x = y then 0 else 1)) 0 0 (fun _ => False) := by
  refine Met.ofW (cc := cJ6_compare_7cf53) (maxL := 2) (ret := (some .int)) (by decide) rfl ?_
  intro p e s m args below meth c s₁ B hml hv
  subst hv
  have hx := B.exec
  have hb := B.bytes
  have hr := B.returns
  have hts := atoms_spec (ws := wsJ6_compare_7cf53) B.pre
  have hown : s.vm.findClass RJ6 = some m.cls := findClass_of_methodNamed B.named
  have hlocks := B.notSynchronized
  generalize hH : s.heap = H
  have hl := lv_entry ([.int (x), .int (y)]) (n := 2) (Nat.le_of_ble_eq_true rfl)
  rw [lg_entry_eq]
  generalize (lg_sl ([.int (x), .int (y)]) ++ List.replicate (2 - (lg_sl ([.int (x), .int (y)])).length) Slot.unset).toArray = ls at hl ⊢
  have hl : lv_has ls 2 [(0, .int (x)), (1, .int (y))] := hl
  refine lv_iload_n hx hb dJ6_compare_7cf53_0 rfl (lv_at hl 0 rfl) ?_
  refine lv_iload_n hx hb dJ6_compare_7cf53_1 rfl (lv_at hl 1 rfl) ?_
  refine lv_icmp_ge (tgt := 9) hx hb dJ6_compare_7cf53_2 (by decide) (fun c1 => ?_) (fun c1 => ?_)
  · refine lv_iload_n hx hb dJ6_compare_7cf53_9 rfl (lv_at hl 0 rfl) ?_
    refine lv_iload_n hx hb dJ6_compare_7cf53_10 rfl (lv_at hl 1 rfl) ?_
    refine lv_icmp_ne (tgt := 18) hx hb dJ6_compare_7cf53_11 (by decide) (fun c2 => ?_) (fun c2 => ?_)
    · refine lv_iconst (v := 1) hx hb dJ6_compare_7cf53_18 (by decide) ?_
      exact W.iret (v := 1) hx hb hr (fun t ht hW => ⟨1, rfl, by rw [if_neg (fun q => (fa_of_lt q).2.1 c1), if_neg c2], ht.trans hH.symm⟩) (fun _ h => by cases h) dJ6_compare_7cf53_19
    · refine lv_iconst (v := 0) hx hb dJ6_compare_7cf53_14 (by decide) ?_
      refine lv_goto (tgt := 19) hx hb dJ6_compare_7cf53_15 (by decide) ?_
      exact W.iret (v := 0) hx hb hr (fun t ht hW => ⟨0, rfl, by rw [if_neg (fun q => (fa_of_lt q).2.1 c1), if_pos c2], ht.trans hH.symm⟩) (fun _ h => by cases h) dJ6_compare_7cf53_19
  · refine lv_iconst (v := (-1)) hx hb dJ6_compare_7cf53_5 (by decide) ?_
    refine lv_goto (tgt := 19) hx hb dJ6_compare_7cf53_6 (by decide) ?_
    exact W.iret (v := -1) hx hb hr (fun t ht hW => ⟨-1, rfl, by rw [if_pos (fa_of_nle c1)], ht.trans hH.symm⟩) (fun _ h => by cases h) dJ6_compare_7cf53_19
set_option maxHeartbeats 4000000 in
set_option maxRecDepth 100000 in
theorem c_setZero (l : Launch) (D : va_G) (cI : ClassId) (w o a v : Nat) (hw : w ≤ 64) (hoa : o ≠ a) : Met l yX1_setZero wsX1_setZero ({ frames := 0, cells := 0, slots := 0, locals := 0 }) (nPc [.ref o] D (nW cI w o a v) [(cI, .int)]) (va_Qv (fun _ : Unit => True) (fun _ t => va_P D vwCl (nW cI w o a (0)) t.heap) (nAd o a)) 0 0 (nAd o a) := by
  refine Met.ofW (cc := cX1_setZero) (maxL := 2) (ret := none) (by decide) rfl ?_
  intro p e s m args below meth c s₁ B hml hv
  obtain ⟨rfl, hP0, hK⟩ := hv
  have hx := B.exec
  have hb := B.bytes
  have hr := B.returns
  have hts := atoms_spec (ws := wsX1_setZero) B.pre
  have hown : s.vm.findClass RX1 = some m.cls := findClass_of_methodNamed B.named
  have hlocks := B.notSynchronized
  have hi1 : ∀ w ∈ wsX10, w ∈ wsX1_setZero := by decide +kernel
  have hP : va_P D vwCl (nW cI w o a v) s.heap := hP0.sub [0, 1] rfl
  have hD : va_D (nAd o a) (nW cI w o a v) := vd_two (Or.inl rfl) (Or.inr rfl) hoa
  have hS : va_S (nAd o a) s.heap s.heap [] := va_S.rf
  have hl := lv_entry ([.ref (o)]) (n := 2) (Nat.le_of_ble_eq_true rfl)
  rw [lg_entry_eq]
  generalize (lg_sl ([.ref (o)]) ++ List.replicate (2 - (lg_sl ([.ref (o)])).length) Slot.unset).toArray = ls at hl ⊢
  have hl : lv_has ls 2 [(0, .ref (o))] := hl
  refine lv_iconst (v := 0) hx hb dX1_setZero_0 (by decide) ?_
  refine lv_istore_n (lv' := [(1, .int ((0 : Int32))), (0, .ref (o))]) hx hb dX1_setZero_1 rfl hl (by decide) rfl (fun ls hl => ?_)
  have loop : ∀ (n i : Nat) (H : Heap) (locs : List Loc) (ls : Array Slot), i + n = w → va_P D vwCl [(o, .inr (1, [.ref (a), .int (nI (szF v w))])), (a, .inl (cI, w, .inl (fl (lb 0) (lb v) i)))] H → va_D (nAd o a) [(o, .inr (1, [.ref (a), .int (nI (szF v w))])), (a, .inl (cI, w, .inl (fl (lb 0) (lb v) i)))] → va_S (nAd o a) s.heap H locs → lv_has ls 2 [(1, .int (nI i)), (0, .ref (o))] → W p l e (headSpec wsX1_setZero ({ frames := 0, cells := 0, slots := 0, locals := 0 })).room s m ([.ref (o)]).toArray below meth c H locs 0 0 (MQ below (va_Qv (fun _ : Unit => True) (fun _ t => va_P D vwCl (nW cI w o a (0)) t.heap) (nAd o a)) ([.ref (o)]).toArray s 0 0 (nAd o a)) (F0 m 2 ls []) := by
    intro n
    induction n with
    | zero =>
      intro i H locs ls hin hP hD hS hl
      have hiw : i = w := by omega
      refine lv_iload_n hx hb dX1_setZero_2 rfl (lv_at hl 0 rfl) ?_
      refine lv_aload_n hx hb dX1_setZero_3 rfl (lv_at hl 1 rfl) ?_
      refine va_get (D := D) (ci := 1) (v := .ref (a)) (C := RX1) (T := TX1) (N := 2) hx hb hts hi1 hown hK hP 0 rfl rfl 0 (by decide) (hts (.fieldLink RX1 9 "BigLedger$Natural" "limbs" "[I") (by decide +kernel)) (fun _ h9 => h9) rfl dX1_setZero_4 ?_
      refine va_alen (v := nI (w)) hx hb hK hP 1 0 rfl rfl (rfl) dX1_setZero_7 ?_
      refine lv_icmp_ge (tgt := 24) hx hb dX1_setZero_8 (by decide) (fun _ => ?_) (fun c9 => absurd (nI_le (by omega) (by omega)) c9)
      refine lv_aload_n hx hb dX1_setZero_24 rfl (lv_at hl 1 rfl) ?_
      refine lv_iconst (v := 0) hx hb dX1_setZero_25 (by decide) ?_
      refine va_put (D := D) (ci := 1) (v := .int ((0 : Int32))) (ty := .int) (C := RX1) (T := TX1) (N := 2) hx hb hts hi1 tyX1 tyX1_ok nmX1 hown hK hP hD hS 0 rfl rfl 1 (by decide) (hts (.fieldLink RX1 15 "BigLedger$Natural" "size" "I") (by decide +kernel)) (fun _ h9 => h9) rfl (by decide +kernel) (rfl) (rfl) (Nat.le_of_ble_eq_true rfl) dX1_setZero_26 (fun H locs hP hD hS => ?_)
      have hP : va_P D vwCl [(o, .inr (1, [.ref (a), .int ((0 : Int32))])), (a, .inl (cI, w, .inl (fl (lb 0) (lb v) i)))] H := hP
      have hD : va_D (nAd o a) [(o, .inr (1, [.ref (a), .int ((0 : Int32))])), (a, .inl (cI, w, .inl (fl (lb 0) (lb v) i)))] := hD
      have hP9 : va_P D vwCl (nW cI w o a 0) H := vp_cons (by rw [szF_zero, nI_0]; exact hP 0 _ rfl) (vp_cons (at_congr (hP 1 _ rfl) (fun k hk => fl_lo (by omega))) vp_nil)
      exact W.vret hx hb hr (fun t ht hW => ⟨⟨(), rfl, trivial, hp_at ht hP9⟩, hS.F ht⟩) hS.2.2 dX1_setZero_29
    | succ n ih =>
      intro i H locs ls hin hP hD hS hl
      have hiw : i < w := by omega
      refine lv_iload_n hx hb dX1_setZero_2 rfl (lv_at hl 0 rfl) ?_
      refine lv_aload_n hx hb dX1_setZero_3 rfl (lv_at hl 1 rfl) ?_
      refine va_get (D := D) (ci := 1) (v := .ref (a)) (C := RX1) (T := TX1) (N := 2) hx hb hts hi1 hown hK hP 0 rfl rfl 0 (by decide) (hts (.fieldLink RX1 9 "BigLedger$Natural" "limbs" "[I") (by decide +kernel)) (fun _ h9 => h9) rfl dX1_setZero_4 ?_
      refine va_alen (v := nI (w)) hx hb hK hP 1 0 rfl rfl (rfl) dX1_setZero_7 ?_
      refine lv_icmp_ge (tgt := 24) hx hb dX1_setZero_8 (by decide) (fun c9 => absurd c9 (nI_ge hiw (by omega))) (fun _ => ?_)
      refine lv_aload_n hx hb dX1_setZero_11 rfl (lv_at hl 1 rfl) ?_
      refine va_get (D := D) (ci := 1) (v := .ref (a)) (C := RX1) (T := TX1) (N := 2) hx hb hts hi1 hown hK hP 0 rfl rfl 0 (by decide) (hts (.fieldLink RX1 9 "BigLedger$Natural" "limbs" "[I") (by decide +kernel)) (fun _ h9 => h9) rfl dX1_setZero_12 ?_
      refine lv_iload_n hx hb dX1_setZero_15 rfl (lv_at hl 0 rfl) ?_
      refine lv_iconst (v := 0) hx hb dX1_setZero_16 (by decide) ?_
      refine va_iast hx hb hK hP hD hS 1 0 rfl rfl (vp_in_nI (by omega) (by omega)) dX1_setZero_17 (fun H locs hP hD hS => ?_)
      have hP : va_P D vwCl [(o, .inr (1, [.ref (a), .int (nI (szF v w))])), (a, .inl (cI, w, .inl (upd (fl (lb 0) (lb v) i) (nI i).toNatClampNeg ((0 : Int32)))))] H := hP
      have hD : va_D (nAd o a) [(o, .inr (1, [.ref (a), .int (nI (szF v w))])), (a, .inl (cI, w, .inl (upd (fl (lb 0) (lb v) i) (nI i).toNatClampNeg ((0 : Int32)))))] := hD
      rw [show upd (fl (lb 0) (lb v) i) (nI i).toNatClampNeg ((0 : Int32)) = fl (lb 0) (lb v) (i + 1) from by rw [nI_clamp (by omega)]; exact fl_s (by show (0 : Int32) = nI (lbN 0 i); rw [lbN_of_zero, nI_0])] at hP hD
      refine lv_iinc (v := nI (i + 1)) (lv' := [(1, .int (nI (i + 1))), (0, .ref (o))]) hx hb dX1_setZero_18 hl (k := 0) rfl (nI_1 i) (by decide) rfl (fun ls hl => ?_)
      refine lv_goto (tgt := 2) hx hb dX1_setZero_21 (by decide) ?_
      exact ih (i + 1) H locs ls (by omega) hP hD hS hl
  exact loop w 0 s.heap [] ls (by omega) (by rw [fl_0]; exact hP) (by rw [fl_0]; exact hD) hS hl
set_option maxHeartbeats 4000000 in
set_option maxRecDepth 100000 in
theorem c_setTo (l : Launch) (D : va_G) (cI : ClassId) (w o a v : Nat)(hw : w ≤ 64) (hoa : o ≠ a) (hv0 : v < 2147483648 ^ w)(oo oa u : Nat) (hn1 : ¬ nAd o a oo) (hn2 : ¬ nAd o a oa) (hu0 : u < 2147483648 ^ w) : Met l yX1_setTo wsX1_setTo ({ frames := 1, cells := 0, slots := 0, locals := 21 }) (nPc [.ref o, .ref oo] D (nW cI w o a v ++ nW cI w oo oa u) [(cI, .int)]) (va_Qv (fun _ : Unit => True) (fun _ t => va_P D vwCl (nW cI w o a (u)) t.heap) (nAd o a)) 0 0 (nAd o a) := by
  refine Met.ofW (cc := cX1_setTo) (maxL := 3) (ret := none) (by decide) rfl ?_
  intro p e s m args below meth c s₁ B hml hv
  obtain ⟨rfl, hP0, hK⟩ := hv
  have hx := B.exec
  have hb := B.bytes
  have hr := B.returns
  have hts := atoms_spec (ws := wsX1_setTo) B.pre
  have hown : s.vm.findClass RX1 = some m.cls := findClass_of_methodNamed B.named
  have hlocks := B.notSynchronized
  have hi1 : ∀ w ∈ wsX10, w ∈ wsX1_setTo := by decide +kernel
  have hP : va_P D vwCl (nW cI w o a v) s.heap := hP0.sub [0, 1] rfl
  have hR0 : va_P D vwCl (nW cI w oo oa u) s.heap := hP0.sub [2, 3] rfl
  have hro : ∀ q ∈ nW cI w oo oa u, ¬ nAd o a q.1 := ro2 hn1 hn2
  have hD : va_D (nAd o a) (nW cI w o a v) := vd_two (Or.inl rfl) (Or.inr rfl) hoa
  have hS : va_S (nAd o a) s.heap s.heap [] := va_S.rf
  have hl := lv_entry ([.ref (o), .ref (oo)]) (n := 3) (Nat.le_of_ble_eq_true rfl)
  rw [lg_entry_eq]
  generalize (lg_sl ([.ref (o), .ref (oo)]) ++ List.replicate (3 - (lg_sl ([.ref (o), .ref (oo)])).length) Slot.unset).toArray = ls at hl ⊢
  have hl : lv_has ls 3 [(0, .ref (o)), (1, .ref (oo))] := hl
  refine lv_iconst (v := 0) hx hb dX1_setTo_0 (by decide) ?_
  refine lv_istore_n (lv' := [(2, .int ((0 : Int32))), (0, .ref (o)), (1, .ref (oo))]) hx hb dX1_setTo_1 rfl hl (by decide) rfl (fun ls hl => ?_)
  have loop : ∀ (n i : Nat) (H : Heap) (locs : List Loc) (ls : Array Slot), i + n = w → va_P D vwCl [(o, .inr (1, [.ref (a), .int (nI (szF v w))])), (a, .inl (cI, w, .inl (fl (lb u) (lb v) i)))] H → va_D (nAd o a) [(o, .inr (1, [.ref (a), .int (nI (szF v w))])), (a, .inl (cI, w, .inl (fl (lb u) (lb v) i)))] → va_S (nAd o a) s.heap H locs → lv_has ls 3 [(2, .int (nI i)), (0, .ref (o)), (1, .ref (oo))] → W p l e (headSpec wsX1_setTo ({ frames := 1, cells := 0, slots := 0, locals := 21 })).room s m ([.ref (o), .ref (oo)]).toArray below meth c H locs 0 0 (MQ below (va_Qv (fun _ : Unit => True) (fun _ t => va_P D vwCl (nW cI w o a (u)) t.heap) (nAd o a)) ([.ref (o), .ref (oo)]).toArray s 0 0 (nAd o a)) (F0 m 2 ls []) := by
    intro n
    induction n with
    | zero =>
      intro i H locs ls hin hP hD hS hl
      have hiw : i = w := by omega
      refine lv_iload_n hx hb dX1_setTo_2 rfl (lv_at hl 0 rfl) ?_
      refine lv_aload_n hx hb dX1_setTo_3 rfl (lv_at hl 1 rfl) ?_
      refine va_get (D := D) (ci := 1) (v := .ref (a)) (C := RX1) (T := TX1) (N := 2) hx hb hts hi1 hown hK hP 0 rfl rfl 0 (by decide) (hts (.fieldLink RX1 9 "BigLedger$Natural" "limbs" "[I") (by decide +kernel)) (fun _ h9 => h9) rfl dX1_setTo_4 ?_
      refine va_alen (v := nI (w)) hx hb hK hP 1 0 rfl rfl (rfl) dX1_setTo_7 ?_
      refine lv_icmp_ge (tgt := 28) hx hb dX1_setTo_8 (by decide) (fun _ => ?_) (fun c9 => absurd (nI_le (by omega) (by omega)) c9)
      refine lv_aload_n hx hb dX1_setTo_28 rfl (lv_at hl 1 rfl) ?_
      refine va_callv (va_runV (As := []) (rest := []) ⟨hx, hb, hml, hown, hts⟩ (c_measure l D cI w o a (u) (nI (szF v w)) (fl (lb u) (lb v) i) hw hoa (fun k hk => fl_lo (by omega))) (cwV 0 hts gX1_setTo_X1_measure rfl rfl rfl (by decide +kernel) ⟨Nat.le_of_ble_eq_true rfl, Nat.le_of_ble_eq_true rfl⟩) ⟨nPc_blind, va_recv hK hP (ci := 1) (q0 := 0) rfl rfl, nPc_use (hP) hK⟩ rfl rfl hl.1 rfl (lv_room (Nat.le_of_ble_eq_true rfl)) dX1_setTo_29 ⟨Nat.le_of_ble_eq_true rfl, Nat.le_of_ble_eq_true rfl⟩) hS (fun q _ h => (fun _ h => h) q h) (fun _ h => h) (fun _u t H1 locs ht hvm hw hB hz1 hk9 hS => ?_)
      have hP9 : va_P D vwCl (nW cI w o a (u)) H1 := pB_at ht hB
      exact W.vret hx hb hr (fun t ht hW => ⟨⟨(), rfl, trivial, hp_at ht hP9⟩, hS.F ht⟩) hS.2.2 dX1_setTo_32
    | succ n ih =>
      intro i H locs ls hin hP hD hS hl
      have hiw : i < w := by omega
      have hR : va_P D vwCl (nW cI w oo oa u) H := ro_keep hS hR0 hro
      refine lv_iload_n hx hb dX1_setTo_2 rfl (lv_at hl 0 rfl) ?_
      refine lv_aload_n hx hb dX1_setTo_3 rfl (lv_at hl 1 rfl) ?_
      refine va_get (D := D) (ci := 1) (v := .ref (a)) (C := RX1) (T := TX1) (N := 2) hx hb hts hi1 hown hK hP 0 rfl rfl 0 (by decide) (hts (.fieldLink RX1 9 "BigLedger$Natural" "limbs" "[I") (by decide +kernel)) (fun _ h9 => h9) rfl dX1_setTo_4 ?_
      refine va_alen (v := nI (w)) hx hb hK hP 1 0 rfl rfl (rfl) dX1_setTo_7 ?_
      refine lv_icmp_ge (tgt := 28) hx hb dX1_setTo_8 (by decide) (fun c9 => absurd c9 (nI_ge hiw (by omega))) (fun _ => ?_)
      refine lv_aload_n hx hb dX1_setTo_11 rfl (lv_at hl 1 rfl) ?_
      refine va_get (D := D) (ci := 1) (v := .ref (a)) (C := RX1) (T := TX1) (N := 2) hx hb hts hi1 hown hK hP 0 rfl rfl 0 (by decide) (hts (.fieldLink RX1 9 "BigLedger$Natural" "limbs" "[I") (by decide +kernel)) (fun _ h9 => h9) rfl dX1_setTo_12 ?_
      refine lv_iload_n hx hb dX1_setTo_15 rfl (lv_at hl 0 rfl) ?_
      refine lv_aload_n hx hb dX1_setTo_16 rfl (lv_at hl 2 rfl) ?_
      refine lv_iload_n hx hb dX1_setTo_17 rfl (lv_at hl 0 rfl) ?_
      refine vp_callSi (W.runV (As := [.int (nI i)]) (rest := [.int (nI i), .ref (a)]) ⟨hx, hb, hml, hown, hts⟩ (c_limbAt l D cI w oo oa u (nI i) hw hu0) (cwV 1 hts gX1_setTo_X1_limbAt rfl rfl rfl (by decide +kernel) ⟨Nat.le_of_ble_eq_true rfl, Nat.le_of_ble_eq_true rfl⟩) ⟨nPc_blind, va_recv hK hR (ci := 1) (q0 := 0) rfl rfl, nPc_use (hR) hK⟩ rfl rfl hl.1 rfl (lv_room (Nat.le_of_ble_eq_true rfl)) dX1_setTo_18 ⟨Nat.le_of_ble_eq_true rfl, Nat.le_of_ble_eq_true rfl⟩) (fun rr1 hrr1 => ?_)
      replace hrr1 : rr1 = lb u i := hrr1.trans (if_nI (by omega))
      subst hrr1
      refine va_iast hx hb hK hP hD hS 1 0 rfl rfl (vp_in_nI (by omega) (by omega)) dX1_setTo_21 (fun H locs hP hD hS => ?_)
      have hP : va_P D vwCl [(o, .inr (1, [.ref (a), .int (nI (szF v w))])), (a, .inl (cI, w, .inl (upd (fl (lb u) (lb v) i) (nI i).toNatClampNeg (lb u i))))] H := hP
      have hD : va_D (nAd o a) [(o, .inr (1, [.ref (a), .int (nI (szF v w))])), (a, .inl (cI, w, .inl (upd (fl (lb u) (lb v) i) (nI i).toNatClampNeg (lb u i))))] := hD
      rw [show upd (fl (lb u) (lb v) i) (nI i).toNatClampNeg (lb u i) = fl (lb u) (lb v) (i + 1) from by rw [nI_clamp (by omega)]; exact fl_s rfl] at hP hD
      refine lv_iinc (v := nI (i + 1)) (lv' := [(2, .int (nI (i + 1))), (0, .ref (o)), (1, .ref (oo))]) hx hb dX1_setTo_22 hl (k := 0) rfl (nI_1 i) (by decide) rfl (fun ls hl => ?_)
      refine lv_goto (tgt := 2) hx hb dX1_setTo_25 (by decide) ?_
      exact ih (i + 1) H locs ls (by omega) hP hD hS hl
  exact loop w 0 s.heap [] ls (by omega) (by rw [fl_0]; exact hP) (by rw [fl_0]; exact hD) hS hl
set_option maxHeartbeats 4000000 in
set_option maxRecDepth 100000 in
theorem c_append (l : Launch) (D : va_G) (cI : ClassId) (w o a v : Nat)(x : Nat) (hx0 : x < 2147483648) (hwp : 0 < w)(hw : w ≤ 64) (hoa : o ≠ a) (hv0 : v < 2147483648 ^ w) : Met l yX1_append wsX1_append ({ frames := 1, cells := 0, slots := 0, locals := 20 }) (nPc [.ref o, .int (nI x)] D (nW cI w o a v) [(cI, .int)]) (va_Qv (fun _ : Unit => True) (fun _ t => va_P D vwCl (nW cI w o a (v * 2147483648 + x)) t.heap) (nAd o a)) 0 0 (nAd o a) := by
  refine Met.ofW (cc := cX1_append) (maxL := 3) (ret := none) (by decide) rfl ?_
  intro p e s m args below meth c s₁ B hml hv
  obtain ⟨rfl, hP0, hK⟩ := hv
  have hx := B.exec
  have hb := B.bytes
  have hr := B.returns
  have hts := atoms_spec (ws := wsX1_append) B.pre
  have hown : s.vm.findClass RX1 = some m.cls := findClass_of_methodNamed B.named
  have hlocks := B.notSynchronized
  have hi1 : ∀ w ∈ wsX10, w ∈ wsX1_append := by decide +kernel
  have hP : va_P D vwCl (nW cI w o a v) s.heap := hP0.sub [0, 1] rfl
  have hD : va_D (nAd o a) (nW cI w o a v) := vd_two (Or.inl rfl) (Or.inr rfl) hoa
  have hS : va_S (nAd o a) s.heap s.heap [] := va_S.rf
  have hl := lv_entry ([.ref (o), .int (nI x)]) (n := 3) (Nat.le_of_ble_eq_true rfl)
  rw [lg_entry_eq]
  generalize (lg_sl ([.ref (o), .int (nI x)]) ++ List.replicate (3 - (lg_sl ([.ref (o), .int (nI x)])).length) Slot.unset).toArray = ls at hl ⊢
  have hl : lv_has ls 3 [(0, .ref (o)), (1, .int (nI x))] := hl
  have loop : ∀ (i : Nat) (H : Heap) (locs : List Loc) (ls : Array Slot), i < w → va_P D vwCl [(o, .inr (1, [.ref (a), .int (nI (szF v w))])), (a, .inl (cI, w, .inl (fd (lb (v * 2147483648 + x)) (lb v) (i + 1))))] H → va_D (nAd o a) [(o, .inr (1, [.ref (a), .int (nI (szF v w))])), (a, .inl (cI, w, .inl (fd (lb (v * 2147483648 + x)) (lb v) (i + 1))))] → va_S (nAd o a) s.heap H locs → lv_has ls 3 [(2, .int (nI i)), (0, .ref (o)), (1, .int (nI x))] → W p l e (headSpec wsX1_append ({ frames := 1, cells := 0, slots := 0, locals := 20 })).room s m ([.ref (o), .int (nI x)]).toArray below meth c H locs 0 0 (MQ below (va_Qv (fun _ : Unit => True) (fun _ t => va_P D vwCl (nW cI w o a (v * 2147483648 + x)) t.heap) (nAd o a)) ([.ref (o), .int (nI x)]).toArray s 0 0 (nAd o a)) (F0 m 8 ls []) := by
    intro i
    induction i with
    | zero =>
      intro H locs ls hiw hP hD hS hl
      refine lv_iload_n hx hb dX1_append_8 rfl (lv_at hl 0 rfl) ?_
      refine lv_if_le (tgt := 32) hx hb dX1_append_9 (by decide) (fun _ => ?_) (fun c9 => absurd ((nI_le0 (by omega)).mpr rfl) c9)
      refine lv_aload_n hx hb dX1_append_32 rfl (lv_at hl 1 rfl) ?_
      refine va_get (D := D) (ci := 1) (v := .ref (a)) (C := RX1) (T := TX1) (N := 2) hx hb hts hi1 hown hK hP 0 rfl rfl 0 (by decide) (hts (.fieldLink RX1 9 "BigLedger$Natural" "limbs" "[I") (by decide +kernel)) (fun _ h9 => h9) rfl dX1_append_33 ?_
      refine lv_iconst (v := 0) hx hb dX1_append_36 (by decide) ?_
      refine lv_iload_n hx hb dX1_append_37 rfl (lv_at hl 2 rfl) ?_
      refine va_iast hx hb hK hP hD hS 1 0 rfl rfl (vp_in_nI (n := 0) (by omega) (by omega)) dX1_append_38 (fun H locs hP hD hS => ?_)
      have hP : va_P D vwCl [(o, .inr (1, [.ref (a), .int (nI (szF v w))])), (a, .inl (cI, w, .inl (upd (fd (lb (v * 2147483648 + x)) (lb v) (0 + 1)) ((0 : Int32)).toNatClampNeg (nI x))))] H := hP
      have hD : va_D (nAd o a) [(o, .inr (1, [.ref (a), .int (nI (szF v w))])), (a, .inl (cI, w, .inl (upd (fd (lb (v * 2147483648 + x)) (lb v) (0 + 1)) ((0 : Int32)).toNatClampNeg (nI x))))] := hD
      rw [show upd (fd (lb (v * 2147483648 + x)) (lb v) (0 + 1)) ((0 : Int32)).toNatClampNeg (nI x) = fd (lb (v * 2147483648 + x)) (lb v) 0 from fd_s (by show nI x = nI (lbN (v * 2147483648 + x) 0); rw [app_0 v hx0])] at hP hD
      refine lv_aload_n hx hb dX1_append_39 rfl (lv_at hl 1 rfl) ?_
      refine va_callv (va_runV (As := []) (rest := []) ⟨hx, hb, hml, hown, hts⟩ (c_measure l D cI w o a ((v * 2147483648 + x)) (nI (szF v w)) (fd (lb (v * 2147483648 + x)) (lb v) 0) hw hoa (fun k hk => by rw [fd_0])) (cwV 0 hts gX1_append_X1_measure rfl rfl rfl (by decide +kernel) ⟨Nat.le_of_ble_eq_true rfl, Nat.le_of_ble_eq_true rfl⟩) ⟨nPc_blind, va_recv hK hP (ci := 1) (q0 := 0) rfl rfl, nPc_use (hP) hK⟩ rfl rfl hl.1 rfl (lv_room (Nat.le_of_ble_eq_true rfl)) dX1_append_40 ⟨Nat.le_of_ble_eq_true rfl, Nat.le_of_ble_eq_true rfl⟩) hS (fun q _ h => (fun _ h => h) q h) (fun _ h => h) (fun _u t H1 locs ht hvm hw hB hz1 hk9 hS => ?_)
      have hP9 : va_P D vwCl (nW cI w o a ((v * 2147483648 + x))) H1 := pB_at ht hB
      exact W.vret hx hb hr (fun t ht hW => ⟨⟨(), rfl, trivial, hp_at ht hP9⟩, hS.F ht⟩) hS.2.2 dX1_append_43
    | succ i ih =>
      intro H locs ls hiw hP hD hS hl
      refine lv_iload_n hx hb dX1_append_8 rfl (lv_at hl 0 rfl) ?_
      refine lv_if_le (tgt := 32) hx hb dX1_append_9 (by decide) (fun c9 => absurd c9 (nI_nle (by omega) (by omega))) (fun _ => ?_)
      refine lv_aload_n hx hb dX1_append_12 rfl (lv_at hl 1 rfl) ?_
      refine va_get (D := D) (ci := 1) (v := .ref (a)) (C := RX1) (T := TX1) (N := 2) hx hb hts hi1 hown hK hP 0 rfl rfl 0 (by decide) (hts (.fieldLink RX1 9 "BigLedger$Natural" "limbs" "[I") (by decide +kernel)) (fun _ h9 => h9) rfl dX1_append_13 ?_
      refine lv_iload_n hx hb dX1_append_16 rfl (lv_at hl 0 rfl) ?_
      refine lv_aload_n hx hb dX1_append_17 rfl (lv_at hl 1 rfl) ?_
      refine va_get (D := D) (ci := 1) (v := .ref (a)) (C := RX1) (T := TX1) (N := 2) hx hb hts hi1 hown hK hP 0 rfl rfl 0 (by decide) (hts (.fieldLink RX1 9 "BigLedger$Natural" "limbs" "[I") (by decide +kernel)) (fun _ h9 => h9) rfl dX1_append_18 ?_
      refine lv_iload_n hx hb dX1_append_21 rfl (lv_at hl 0 rfl) ?_
      refine lv_iconst (v := 1) hx hb dX1_append_22 (by decide) ?_
      refine lv_isub hx hb dX1_append_23 ?_
      refine lv_topi (fun y2 ey2 => ?_)
      replace ey2 : y2 = nI i := ey2.trans (nI_pred i)
      subst ey2
      refine va_iald hx hb hK hP 1 0 rfl rfl (vp_in_nI (by omega) (by omega)) dX1_append_24 ?_
      refine lv_topi (fun y3 ey3 => ?_)
      replace ey3 : y3 = lb v i := ey3.trans (by rw [nI_clamp (by omega), fd_lo (by omega)])
      subst ey3
      refine va_iast hx hb hK hP hD hS 1 0 rfl rfl (vp_in_nI (by omega) (by omega)) dX1_append_25 (fun H locs hP hD hS => ?_)
      have hP : va_P D vwCl [(o, .inr (1, [.ref (a), .int (nI (szF v w))])), (a, .inl (cI, w, .inl (upd (fd (lb (v * 2147483648 + x)) (lb v) (i + 1 + 1)) (nI (i + 1)).toNatClampNeg (lb v i))))] H := hP
      have hD : va_D (nAd o a) [(o, .inr (1, [.ref (a), .int (nI (szF v w))])), (a, .inl (cI, w, .inl (upd (fd (lb (v * 2147483648 + x)) (lb v) (i + 1 + 1)) (nI (i + 1)).toNatClampNeg (lb v i))))] := hD
      rw [show upd (fd (lb (v * 2147483648 + x)) (lb v) (i + 1 + 1)) (nI (i + 1)).toNatClampNeg (lb v i) = fd (lb (v * 2147483648 + x)) (lb v) (i + 1) from by rw [nI_clamp (by omega)]; exact fd_s (by show nI (lbN v i) = nI (lbN (v * 2147483648 + x) (i + 1)); rw [app_s v i hx0])] at hP hD
      refine lv_iinc (v := nI i) (lv' := [(2, .int (nI i)), (0, .ref (o)), (1, .int (nI x))]) hx hb dX1_append_26 hl (k := 0) rfl (pk_m1 i) (by decide) rfl (fun ls hl => ?_)
      refine lv_goto (tgt := 8) hx hb dX1_append_29 (by decide) ?_
      exact ih H locs ls (by omega) hP hD hS hl
  refine lv_aload_n hx hb dX1_append_0 rfl (lv_at hl 0 rfl) ?_
  refine va_get (D := D) (ci := 1) (v := .ref (a)) (C := RX1) (T := TX1) (N := 2) hx hb hts hi1 hown hK hP 0 rfl rfl 0 (by decide) (hts (.fieldLink RX1 9 "BigLedger$Natural" "limbs" "[I") (by decide +kernel)) (fun _ h9 => h9) rfl dX1_append_1 ?_
  refine va_alen (v := nI (w)) hx hb hK hP 1 0 rfl rfl (rfl) dX1_append_4 ?_
  refine lv_iconst (v := 1) hx hb dX1_append_5 (by decide) ?_
  refine lv_isub hx hb dX1_append_6 ?_
  refine lv_topi (fun y4 ey4 => ?_)
  replace ey4 : y4 = nI (w - 1) := ey4.trans (pk_sub (a := w) (b := 1) (by omega))
  subst ey4
  refine lv_istore_n (lv' := [(2, .int (nI (w - 1))), (0, .ref (o)), (1, .int (nI x))]) hx hb dX1_append_7 rfl hl (by decide) rfl (fun ls hl => ?_)
  have e1 : va_P D vwCl [(o, .inr (1, [.ref (a), .int (nI (szF v w))])), (a, .inl (cI, w, .inl (fd (lb (v * 2147483648 + x)) (lb v) (w - 1 + 1))))] s.heap := vp_cons (hP 0 _ rfl) (vp_cons (at_congr (hP 1 _ rfl) (fun k hk => (fd_lo (by omega)).symm)) vp_nil)
  exact loop (w - 1) s.heap [] ls (by omega) e1 (vd_two (Or.inl rfl) (Or.inr rfl) hoa) hS hl
end
section
set_option maxHeartbeats 4000000 in
set_option maxRecDepth 100000 in
theorem c_increase (l : Launch) (D : va_G) (cI : ClassId) (w o a v : Nat)(hw : w ≤ 64) (hoa : o ≠ a) (hv0 : v < 2147483648 ^ w)(oo oa u : Nat) (hn1 : ¬ nAd o a oo) (hn2 : ¬ nAd o a oa) (hu0 : u < 2147483648 ^ w) (hr0 : v + u < 2147483648 ^ w) : Met l yX1_increase wsX1_increase ({ frames := 1, cells := 0, slots := 0, locals := 21 }) (nPc [.ref o, .ref oo] D (nW cI w o a v ++ nW cI w oo oa u) [(cI, .int)]) (va_Qv (fun _ : Unit => True) (fun _ t => va_P D vwCl (nW cI w o a (v + u)) t.heap) (nAd o a)) 0 0 (nAd o a) := by
  refine Met.ofW (cc := cX1_increase) (maxL := 7) (ret := none) (by decide) rfl ?_
  intro p e s m args below meth c s₁ B hml hv
  obtain ⟨rfl, hP0, hK⟩ := hv
  have hx := B.exec
  have hb := B.bytes
  have hr := B.returns
  have hts := atoms_spec (ws := wsX1_increase) B.pre
  have hown : s.vm.findClass RX1 = some m.cls := findClass_of_methodNamed B.named
  have hlocks := B.notSynchronized
  have hi1 : ∀ w ∈ wsX10, w ∈ wsX1_increase := by decide +kernel
  have hP : va_P D vwCl (nW cI w o a v) s.heap := hP0.sub [0, 1] rfl
  have hR0 : va_P D vwCl (nW cI w oo oa u) s.heap := hP0.sub [2, 3] rfl
  have hro : ∀ q ∈ nW cI w oo oa u, ¬ nAd o a q.1 := ro2 hn1 hn2
  have hD : va_D (nAd o a) (nW cI w o a v) := vd_two (Or.inl rfl) (Or.inr rfl) hoa
  have hS : va_S (nAd o a) s.heap s.heap [] := va_S.rf
  have hl := lv_entry ([.ref (o), .ref (oo)]) (n := 7) (Nat.le_of_ble_eq_true rfl)
  rw [lg_entry_eq]
  generalize (lg_sl ([.ref (o), .ref (oo)]) ++ List.replicate (7 - (lg_sl ([.ref (o), .ref (oo)])).length) Slot.unset).toArray = ls at hl ⊢
  have hl : lv_has ls 7 [(0, .ref (o)), (1, .ref (oo))] := hl
  refine lv_lconst (v := 0) hx hb dX1_increase_0 (by decide) ?_
  refine lv_lstore_n (lv' := [(2, .long ((0 : Int64))), (0, .ref (o)), (1, .ref (oo))]) hx hb dX1_increase_1 rfl hl (by decide) rfl (fun ls hl => ?_)
  refine lv_iconst (v := 0) hx hb dX1_increase_2 (by decide) ?_
  refine lv_istore (lv' := [(4, .int ((0 : Int32))), (2, .long ((0 : Int64))), (0, .ref (o)), (1, .ref (oo))]) hx hb dX1_increase_3 hl (by decide) rfl (fun ls hl => ?_)
  have loop : ∀ (n i : Nat) (H : Heap) (locs : List Loc) (ls : Array Slot), i + n = w → va_P D vwCl [(o, .inr (1, [.ref (a), .int (nI (szF v w))])), (a, .inl (cI, w, .inl (fl (lb (v + u)) (lb v) i)))] H → va_D (nAd o a) [(o, .inr (1, [.ref (a), .int (nI (szF v w))])), (a, .inl (cI, w, .inl (fl (lb (v + u)) (lb v) i)))] → va_S (nAd o a) s.heap H locs → lv_has ls 7 [(4, .int (nI i)), (2, .long (lN (cyA v u i))), (0, .ref (o)), (1, .ref (oo))] → W p l e (headSpec wsX1_increase ({ frames := 1, cells := 0, slots := 0, locals := 21 })).room s m ([.ref (o), .ref (oo)]).toArray below meth c H locs 0 0 (MQ below (va_Qv (fun _ : Unit => True) (fun _ t => va_P D vwCl (nW cI w o a (v + u)) t.heap) (nAd o a)) ([.ref (o), .ref (oo)]).toArray s 0 0 (nAd o a)) (F0 m 5 ls []) := by
    intro n
    induction n with
    | zero =>
      intro i H locs ls hin hP hD hS hl
      have hiw : i = w := by omega
      refine lv_iload hx hb dX1_increase_5 (lv_at hl 0 rfl) ?_
      refine lv_aload_n hx hb dX1_increase_7 rfl (lv_at hl 2 rfl) ?_
      refine va_get (D := D) (ci := 1) (v := .ref (a)) (C := RX1) (T := TX1) (N := 2) hx hb hts hi1 hown hK hP 0 rfl rfl 0 (by decide) (hts (.fieldLink RX1 9 "BigLedger$Natural" "limbs" "[I") (by decide +kernel)) (fun _ h9 => h9) rfl dX1_increase_8 ?_
      refine va_alen (v := nI (w)) hx hb hK hP 1 0 rfl rfl (rfl) dX1_increase_11 ?_
      refine lv_icmp_ge (tgt := 61) hx hb dX1_increase_12 (by decide) (fun _ => ?_) (fun c9 => absurd (nI_le (by omega) (by omega)) c9)
      refine lv_aload_n hx hb dX1_increase_61 rfl (lv_at hl 2 rfl) ?_
      refine va_callv (va_runV (As := []) (rest := []) ⟨hx, hb, hml, hown, hts⟩ (c_measure l D cI w o a (v + u) (nI (szF v w)) (fl (lb (v + u)) (lb v) i) hw hoa (fun k hk => fl_lo (by omega))) (cwV 0 hts gX1_increase_X1_measure rfl rfl rfl (by decide +kernel) ⟨Nat.le_of_ble_eq_true rfl, Nat.le_of_ble_eq_true rfl⟩) ⟨nPc_blind, va_recv hK hP (ci := 1) (q0 := 0) rfl rfl, nPc_use (hP) hK⟩ rfl rfl hl.1 rfl (lv_room (Nat.le_of_ble_eq_true rfl)) dX1_increase_62 ⟨Nat.le_of_ble_eq_true rfl, Nat.le_of_ble_eq_true rfl⟩) hS (fun q _ h => (fun _ h => h) q h) (fun _ h => h) (fun _u t H1 locs ht hvm hw hB hz1 hk9 hS => ?_)
      have hP9 : va_P D vwCl (nW cI w o a (v + u)) H1 := pB_at ht hB
      exact W.vret hx hb hr (fun t ht hW => ⟨⟨(), rfl, trivial, hp_at ht hP9⟩, hS.F ht⟩) hS.2.2 dX1_increase_65
    | succ n ih =>
      intro i H locs ls hin hP hD hS hl
      have hiw : i < w := by omega
      have hR : va_P D vwCl (nW cI w oo oa u) H := ro_keep hS hR0 hro
      refine lv_iload hx hb dX1_increase_5 (lv_at hl 0 rfl) ?_
      refine lv_aload_n hx hb dX1_increase_7 rfl (lv_at hl 2 rfl) ?_
      refine va_get (D := D) (ci := 1) (v := .ref (a)) (C := RX1) (T := TX1) (N := 2) hx hb hts hi1 hown hK hP 0 rfl rfl 0 (by decide) (hts (.fieldLink RX1 9 "BigLedger$Natural" "limbs" "[I") (by decide +kernel)) (fun _ h9 => h9) rfl dX1_increase_8 ?_
      refine va_alen (v := nI (w)) hx hb hK hP 1 0 rfl rfl (rfl) dX1_increase_11 ?_
      refine lv_icmp_ge (tgt := 61) hx hb dX1_increase_12 (by decide) (fun c9 => absurd c9 (nI_ge hiw (by omega))) (fun _ => ?_)
      refine lv_lload_n hx hb dX1_increase_15 rfl (lv_at hl 1 rfl) ?_
      refine lv_aload_n hx hb dX1_increase_16 rfl (lv_at hl 2 rfl) ?_
      refine va_get (D := D) (ci := 1) (v := .ref (a)) (C := RX1) (T := TX1) (N := 2) hx hb hts hi1 hown hK hP 0 rfl rfl 0 (by decide) (hts (.fieldLink RX1 9 "BigLedger$Natural" "limbs" "[I") (by decide +kernel)) (fun _ h9 => h9) rfl dX1_increase_17 ?_
      refine lv_iload hx hb dX1_increase_20 (lv_at hl 0 rfl) ?_
      refine va_iald hx hb hK hP 1 0 rfl rfl (vp_in_nI (by omega) (by omega)) dX1_increase_22 ?_
      refine lv_topi (fun y5 ey5 => ?_)
      replace ey5 : y5 = lb v i := ey5.trans (by rw [nI_clamp (by omega), fl_hi (Nat.le_refl i)])
      subst ey5
      refine lv_i2l (v := lN (lbN v i)) hx hb dX1_increase_23 (lb_l v i) ?_
      refine lv_ladd hx hb dX1_increase_24 ?_
      refine lv_topl (fun y6 ey6 => ?_)
      replace ey6 : y6 = lN (cyA v u i + lbN v i) := ey6.trans (lN_add _ _)
      subst ey6
      refine lv_aload_n hx hb dX1_increase_25 rfl (lv_at hl 3 rfl) ?_
      refine lv_iload hx hb dX1_increase_26 (lv_at hl 0 rfl) ?_
      refine vp_callSi (W.runV (As := [.int (nI i)]) (rest := [.long (lN (cyA v u i + lbN v i))]) ⟨hx, hb, hml, hown, hts⟩ (c_limbAt l D cI w oo oa u (nI i) hw hu0) (cwV 1 hts gX1_increase_X1_limbAt rfl rfl rfl (by decide +kernel) ⟨Nat.le_of_ble_eq_true rfl, Nat.le_of_ble_eq_true rfl⟩) ⟨nPc_blind, va_recv hK hR (ci := 1) (q0 := 0) rfl rfl, nPc_use (hR) hK⟩ rfl rfl hl.1 rfl (lv_room (Nat.le_of_ble_eq_true rfl)) dX1_increase_28 ⟨Nat.le_of_ble_eq_true rfl, Nat.le_of_ble_eq_true rfl⟩) (fun rr7 hrr7 => ?_)
      replace hrr7 : rr7 = lb u i := hrr7.trans (if_nI (by omega))
      subst hrr7
      refine lv_i2l (v := lN (lbN u i)) hx hb dX1_increase_31 (lb_l u i) ?_
      refine lv_ladd hx hb dX1_increase_32 ?_
      refine lv_topl (fun y8 ey8 => ?_)
      replace ey8 : y8 = lN (cyA v u i + lbN v i + lbN u i) := ey8.trans (lN_add _ _)
      subst ey8
      have hs1 := cyA_lt v u i
      have hs2 := lbN_lt v i
      have hs3 := lbN_lt u i
      refine lv_lstore (lv' := [(5, .long (lN (cyA v u i + lbN v i + lbN u i))), (4, .int (nI i)), (2, .long (lN (cyA v u i))), (0, .ref (o)), (1, .ref (oo))]) hx hb dX1_increase_33 hl (by decide) rfl (fun ls hl => ?_)
      refine lv_aload_n hx hb dX1_increase_35 rfl (lv_at hl 3 rfl) ?_
      refine va_get (D := D) (ci := 1) (v := .ref (a)) (C := RX1) (T := TX1) (N := 2) hx hb hts hi1 hown hK hP 0 rfl rfl 0 (by decide) (hts (.fieldLink RX1 9 "BigLedger$Natural" "limbs" "[I") (by decide +kernel)) (fun _ h9 => h9) rfl dX1_increase_36 ?_
      refine lv_iload hx hb dX1_increase_39 (lv_at hl 1 rfl) ?_
      refine lv_lload hx hb dX1_increase_41 (lv_at hl 0 rfl) ?_
      refine lv_ldc2 (v := 2147483647) hx hb hown (hts (.constantLong RX1 26 (2147483647)) (by decide +kernel)) dX1_increase_43 ?_
      refine lv_land hx hb dX1_increase_46 ?_
      refine lv_topl (fun y9 ey9 => ?_)
      replace ey9 : y9 = lN (lbN (v + u) i) := ey9.trans ((l_mask _).trans (congrArg lN (add_limb v u i)))
      subst ey9
      refine lv_l2i (v := lb (v + u) i) hx hb dX1_increase_47 (lN_i _) ?_
      refine va_iast hx hb hK hP hD hS 1 0 rfl rfl (vp_in_nI (by omega) (by omega)) dX1_increase_48 (fun H locs hP hD hS => ?_)
      have hP : va_P D vwCl [(o, .inr (1, [.ref (a), .int (nI (szF v w))])), (a, .inl (cI, w, .inl (upd (fl (lb (v + u)) (lb v) i) (nI i).toNatClampNeg (lb (v + u) i))))] H := hP
      have hD : va_D (nAd o a) [(o, .inr (1, [.ref (a), .int (nI (szF v w))])), (a, .inl (cI, w, .inl (upd (fl (lb (v + u)) (lb v) i) (nI i).toNatClampNeg (lb (v + u) i))))] := hD
      rw [show upd (fl (lb (v + u)) (lb v) i) (nI i).toNatClampNeg (lb (v + u) i) = fl (lb (v + u)) (lb v) (i + 1) from by rw [nI_clamp (by omega)]; exact fl_s rfl] at hP hD
      refine lv_lload hx hb dX1_increase_49 (lv_at hl 0 rfl) ?_
      refine lv_bipush (v := 31) hx hb dX1_increase_51 (by decide) ?_
      refine lv_lushr (v := lN (cyA v u (i + 1))) hx hb dX1_increase_53 ((l_ushr31 (by omega)).trans (congrArg lN (add_carry v u i))) ?_
      refine lv_lstore_n (lv' := [(2, .long (lN (cyA v u (i + 1)))), (5, .long (lN (cyA v u i + lbN v i + lbN u i))), (4, .int (nI i)), (0, .ref (o)), (1, .ref (oo))]) hx hb dX1_increase_54 rfl hl (by decide) rfl (fun ls hl => ?_)
      refine lv_iinc (v := nI (i + 1)) (lv' := [(4, .int (nI (i + 1))), (2, .long (lN (cyA v u (i + 1)))), (5, .long (lN (cyA v u i + lbN v i + lbN u i))), (0, .ref (o)), (1, .ref (oo))]) hx hb dX1_increase_55 hl (k := 2) rfl (nI_1 i) (by decide) rfl (fun ls hl => ?_)
      refine lv_goto (tgt := 5) hx hb dX1_increase_58 (by decide) ?_
      exact ih (i + 1) H locs ls (by omega) hP hD hS (lv_sub hl [0, 1, 3, 4] rfl)
  exact loop w 0 s.heap [] ls (by omega) (by rw [fl_0]; exact hP) (by rw [fl_0]; exact hD) hS (by rw [cyA_0]; exact hl)
set_option maxHeartbeats 4000000 in
set_option maxRecDepth 100000 in
theorem c_decrease (l : Launch) (D : va_G) (cI : ClassId) (w o a v : Nat)(hw : w ≤ 64) (hoa : o ≠ a) (hv0 : v < 2147483648 ^ w)(oo oa u : Nat) (hn1 : ¬ nAd o a oo) (hn2 : ¬ nAd o a oa) (hu0 : u < 2147483648 ^ w) (hr0 : u ≤ v) : Met l yX1_decrease wsX1_decrease ({ frames := 1, cells := 0, slots := 0, locals := 21 }) (nPc [.ref o, .ref oo] D (nW cI w o a v ++ nW cI w oo oa u) [(cI, .int)]) (va_Qv (fun _ : Unit => True) (fun _ t => va_P D vwCl (nW cI w o a (v - u)) t.heap) (nAd o a)) 0 0 (nAd o a) := by
  refine Met.ofW (cc := cX1_decrease) (maxL := 7) (ret := none) (by decide) rfl ?_
  intro p e s m args below meth c s₁ B hml hv
  obtain ⟨rfl, hP0, hK⟩ := hv
  have hx := B.exec
  have hb := B.bytes
  have hr := B.returns
  have hts := atoms_spec (ws := wsX1_decrease) B.pre
  have hown : s.vm.findClass RX1 = some m.cls := findClass_of_methodNamed B.named
  have hlocks := B.notSynchronized
  have hi1 : ∀ w ∈ wsX10, w ∈ wsX1_decrease := by decide +kernel
  have hP : va_P D vwCl (nW cI w o a v) s.heap := hP0.sub [0, 1] rfl
  have hR0 : va_P D vwCl (nW cI w oo oa u) s.heap := hP0.sub [2, 3] rfl
  have hro : ∀ q ∈ nW cI w oo oa u, ¬ nAd o a q.1 := ro2 hn1 hn2
  have hD : va_D (nAd o a) (nW cI w o a v) := vd_two (Or.inl rfl) (Or.inr rfl) hoa
  have hS : va_S (nAd o a) s.heap s.heap [] := va_S.rf
  have hl := lv_entry ([.ref (o), .ref (oo)]) (n := 7) (Nat.le_of_ble_eq_true rfl)
  rw [lg_entry_eq]
  generalize (lg_sl ([.ref (o), .ref (oo)]) ++ List.replicate (7 - (lg_sl ([.ref (o), .ref (oo)])).length) Slot.unset).toArray = ls at hl ⊢
  have hl : lv_has ls 7 [(0, .ref (o)), (1, .ref (oo))] := hl
  refine lv_lconst (v := 0) hx hb dX1_decrease_0 (by decide) ?_
  refine lv_lstore_n (lv' := [(2, .long ((0 : Int64))), (0, .ref (o)), (1, .ref (oo))]) hx hb dX1_decrease_1 rfl hl (by decide) rfl (fun ls hl => ?_)
  refine lv_iconst (v := 0) hx hb dX1_decrease_2 (by decide) ?_
  refine lv_istore (lv' := [(4, .int ((0 : Int32))), (2, .long ((0 : Int64))), (0, .ref (o)), (1, .ref (oo))]) hx hb dX1_decrease_3 hl (by decide) rfl (fun ls hl => ?_)
  have loop : ∀ (n i : Nat) (H : Heap) (locs : List Loc) (ls : Array Slot), i + n = w → va_P D vwCl [(o, .inr (1, [.ref (a), .int (nI (szF v w))])), (a, .inl (cI, w, .inl (fl (lb (v - u)) (lb v) i)))] H → va_D (nAd o a) [(o, .inr (1, [.ref (a), .int (nI (szF v w))])), (a, .inl (cI, w, .inl (fl (lb (v - u)) (lb v) i)))] → va_S (nAd o a) s.heap H locs → lv_has ls 7 [(4, .int (nI i)), (2, .long (lN (cyS v u i))), (0, .ref (o)), (1, .ref (oo))] → W p l e (headSpec wsX1_decrease ({ frames := 1, cells := 0, slots := 0, locals := 21 })).room s m ([.ref (o), .ref (oo)]).toArray below meth c H locs 0 0 (MQ below (va_Qv (fun _ : Unit => True) (fun _ t => va_P D vwCl (nW cI w o a (v - u)) t.heap) (nAd o a)) ([.ref (o), .ref (oo)]).toArray s 0 0 (nAd o a)) (F0 m 5 ls []) := by
    intro n
    induction n with
    | zero =>
      intro i H locs ls hin hP hD hS hl
      have hiw : i = w := by omega
      refine lv_iload hx hb dX1_decrease_5 (lv_at hl 0 rfl) ?_
      refine lv_aload_n hx hb dX1_decrease_7 rfl (lv_at hl 2 rfl) ?_
      refine va_get (D := D) (ci := 1) (v := .ref (a)) (C := RX1) (T := TX1) (N := 2) hx hb hts hi1 hown hK hP 0 rfl rfl 0 (by decide) (hts (.fieldLink RX1 9 "BigLedger$Natural" "limbs" "[I") (by decide +kernel)) (fun _ h9 => h9) rfl dX1_decrease_8 ?_
      refine va_alen (v := nI (w)) hx hb hK hP 1 0 rfl rfl (rfl) dX1_decrease_11 ?_
      refine lv_icmp_ge (tgt := 68) hx hb dX1_decrease_12 (by decide) (fun _ => ?_) (fun c9 => absurd (nI_le (by omega) (by omega)) c9)
      refine lv_aload_n hx hb dX1_decrease_68 rfl (lv_at hl 2 rfl) ?_
      refine va_callv (va_runV (As := []) (rest := []) ⟨hx, hb, hml, hown, hts⟩ (c_measure l D cI w o a (v - u) (nI (szF v w)) (fl (lb (v - u)) (lb v) i) hw hoa (fun k hk => fl_lo (by omega))) (cwV 0 hts gX1_decrease_X1_measure rfl rfl rfl (by decide +kernel) ⟨Nat.le_of_ble_eq_true rfl, Nat.le_of_ble_eq_true rfl⟩) ⟨nPc_blind, va_recv hK hP (ci := 1) (q0 := 0) rfl rfl, nPc_use (hP) hK⟩ rfl rfl hl.1 rfl (lv_room (Nat.le_of_ble_eq_true rfl)) dX1_decrease_69 ⟨Nat.le_of_ble_eq_true rfl, Nat.le_of_ble_eq_true rfl⟩) hS (fun q _ h => (fun _ h => h) q h) (fun _ h => h) (fun _u t H1 locs ht hvm hw hB hz1 hk9 hS => ?_)
      have hP9 : va_P D vwCl (nW cI w o a (v - u)) H1 := pB_at ht hB
      exact W.vret hx hb hr (fun t ht hW => ⟨⟨(), rfl, trivial, hp_at ht hP9⟩, hS.F ht⟩) hS.2.2 dX1_decrease_72
    | succ n ih =>
      intro i H locs ls hin hP hD hS hl
      have hiw : i < w := by omega
      have hR : va_P D vwCl (nW cI w oo oa u) H := ro_keep hS hR0 hro
      refine lv_iload hx hb dX1_decrease_5 (lv_at hl 0 rfl) ?_
      refine lv_aload_n hx hb dX1_decrease_7 rfl (lv_at hl 2 rfl) ?_
      refine va_get (D := D) (ci := 1) (v := .ref (a)) (C := RX1) (T := TX1) (N := 2) hx hb hts hi1 hown hK hP 0 rfl rfl 0 (by decide) (hts (.fieldLink RX1 9 "BigLedger$Natural" "limbs" "[I") (by decide +kernel)) (fun _ h9 => h9) rfl dX1_decrease_8 ?_
      refine va_alen (v := nI (w)) hx hb hK hP 1 0 rfl rfl (rfl) dX1_decrease_11 ?_
      refine lv_icmp_ge (tgt := 68) hx hb dX1_decrease_12 (by decide) (fun c9 => absurd c9 (nI_ge hiw (by omega))) (fun _ => ?_)
      refine lv_aload_n hx hb dX1_decrease_15 rfl (lv_at hl 2 rfl) ?_
      refine va_get (D := D) (ci := 1) (v := .ref (a)) (C := RX1) (T := TX1) (N := 2) hx hb hts hi1 hown hK hP 0 rfl rfl 0 (by decide) (hts (.fieldLink RX1 9 "BigLedger$Natural" "limbs" "[I") (by decide +kernel)) (fun _ h9 => h9) rfl dX1_decrease_16 ?_
      refine lv_iload hx hb dX1_decrease_19 (lv_at hl 0 rfl) ?_
      refine va_iald hx hb hK hP 1 0 rfl rfl (vp_in_nI (by omega) (by omega)) dX1_decrease_21 ?_
      refine lv_topi (fun y10 ey10 => ?_)
      replace ey10 : y10 = lb v i := ey10.trans (by rw [nI_clamp (by omega), fl_hi (Nat.le_refl i)])
      subst ey10
      refine lv_i2l (v := lN (lbN v i)) hx hb dX1_decrease_22 (lb_l v i) ?_
      refine lv_aload_n hx hb dX1_decrease_23 rfl (lv_at hl 3 rfl) ?_
      refine lv_iload hx hb dX1_decrease_24 (lv_at hl 0 rfl) ?_
      refine vp_callSi (W.runV (As := [.int (nI i)]) (rest := [.long (lN (lbN v i))]) ⟨hx, hb, hml, hown, hts⟩ (c_limbAt l D cI w oo oa u (nI i) hw hu0) (cwV 1 hts gX1_decrease_X1_limbAt rfl rfl rfl (by decide +kernel) ⟨Nat.le_of_ble_eq_true rfl, Nat.le_of_ble_eq_true rfl⟩) ⟨nPc_blind, va_recv hK hR (ci := 1) (q0 := 0) rfl rfl, nPc_use (hR) hK⟩ rfl rfl hl.1 rfl (lv_room (Nat.le_of_ble_eq_true rfl)) dX1_decrease_26 ⟨Nat.le_of_ble_eq_true rfl, Nat.le_of_ble_eq_true rfl⟩) (fun rr11 hrr11 => ?_)
      replace hrr11 : rr11 = lb u i := hrr11.trans (if_nI (by omega))
      subst hrr11
      refine lv_i2l (v := lN (lbN u i)) hx hb dX1_decrease_29 (lb_l u i) ?_
      refine lv_lsub hx hb dX1_decrease_30 ?_
      refine lv_lload_n hx hb dX1_decrease_31 rfl (lv_at hl 1 rfl) ?_
      refine lv_lsub hx hb dX1_decrease_32 ?_
      have hs1 := cyS_lt v u i
      have hs2 := lbN_lt v i
      have hs3 := lbN_lt u i
      have hdi : (lN (lbN v i) - lN (lbN u i) - lN (cyS v u i)).toInt = (lbN v i : Int) - lbN u i - cyS v u i := l_dif hs2 hs3 hs1
      refine lv_lstore (lv' := [(5, .long (((lN (lbN v i)) - (lN (lbN u i))) - (lN (cyS v u i)))), (4, .int (nI i)), (2, .long (lN (cyS v u i))), (0, .ref (o)), (1, .ref (oo))]) hx hb dX1_decrease_33 hl (by decide) rfl (fun ls hl => ?_)
      refine lv_aload_n hx hb dX1_decrease_35 rfl (lv_at hl 3 rfl) ?_
      refine va_get (D := D) (ci := 1) (v := .ref (a)) (C := RX1) (T := TX1) (N := 2) hx hb hts hi1 hown hK hP 0 rfl rfl 0 (by decide) (hts (.fieldLink RX1 9 "BigLedger$Natural" "limbs" "[I") (by decide +kernel)) (fun _ h9 => h9) rfl dX1_decrease_36 ?_
      refine lv_iload hx hb dX1_decrease_39 (lv_at hl 1 rfl) ?_
      refine lv_lload hx hb dX1_decrease_41 (lv_at hl 0 rfl) ?_
      refine lv_ldc2 (v := 2147483647) hx hb hown (hts (.constantLong RX1 26 (2147483647)) (by decide +kernel)) dX1_decrease_43 ?_
      refine lv_land hx hb dX1_decrease_46 ?_
      refine lv_l2i (v := lb (v - u) i) hx hb dX1_decrease_47 ((l_mask_neg hdi (by omega) (by omega)).trans (by rw [sub_limb hr0 i]; rfl)) ?_
      refine va_iast hx hb hK hP hD hS 1 0 rfl rfl (vp_in_nI (by omega) (by omega)) dX1_decrease_48 (fun H locs hP hD hS => ?_)
      have hP : va_P D vwCl [(o, .inr (1, [.ref (a), .int (nI (szF v w))])), (a, .inl (cI, w, .inl (upd (fl (lb (v - u)) (lb v) i) (nI i).toNatClampNeg (lb (v - u) i))))] H := hP
      have hD : va_D (nAd o a) [(o, .inr (1, [.ref (a), .int (nI (szF v w))])), (a, .inl (cI, w, .inl (upd (fl (lb (v - u)) (lb v) i) (nI i).toNatClampNeg (lb (v - u) i))))] := hD
      rw [show upd (fl (lb (v - u)) (lb v) i) (nI i).toNatClampNeg (lb (v - u) i) = fl (lb (v - u)) (lb v) (i + 1) from by rw [nI_clamp (by omega)]; exact fl_s rfl] at hP hD
      refine lv_lload hx hb dX1_decrease_49 (lv_at hl 0 rfl) ?_
      refine lv_lconst (v := 0) hx hb dX1_decrease_51 (by decide) ?_
      refine W.lcmp hx hb dX1_decrease_52 ?_
      refine lv_if_ge (tgt := 60) hx hb dX1_decrease_53 (by decide) (fun c1 => ?_) (fun c1 => ?_)
      · have hc9 : cyS v u (i + 1) = 0 := (cyS_z (fun q => absurd ((sub_borrow v u i).mpr q) (l_cmp_ge hdi c1)))
        refine lv_lconst (v := 0) hx hb dX1_decrease_60 (by decide) ?_
        refine lv_topl (fun y12 ey12 => ?_)
        replace ey12 : y12 = lN (cyS v u (i + 1)) := ey12.trans (by rw [hc9]; rfl)
        subst ey12
        refine lv_lstore_n (lv' := [(2, .long (lN (cyS v u (i + 1)))), (5, .long (((lN (lbN v i)) - (lN (lbN u i))) - (lN (cyS v u i)))), (4, .int (nI i)), (0, .ref (o)), (1, .ref (oo))]) hx hb dX1_decrease_61 rfl hl (by decide) rfl (fun ls hl => ?_)
        refine lv_iinc (v := nI (i + 1)) (lv' := [(4, .int (nI (i + 1))), (2, .long (lN (cyS v u (i + 1)))), (5, .long (((lN (lbN v i)) - (lN (lbN u i))) - (lN (cyS v u i)))), (0, .ref (o)), (1, .ref (oo))]) hx hb dX1_decrease_62 hl (k := 2) rfl (nI_1 i) (by decide) rfl (fun ls hl => ?_)
        refine lv_goto (tgt := 5) hx hb dX1_decrease_65 (by decide) ?_
        exact ih (i + 1) H locs ls (by omega) hP hD hS (lv_sub hl [0, 1, 3, 4] rfl)
      · have hc9 : cyS v u (i + 1) = 1 := ((sub_borrow v u i).mp (l_cmp_lt hdi c1))
        refine lv_lconst (v := 1) hx hb dX1_decrease_56 (by decide) ?_
        refine lv_goto (tgt := 61) hx hb dX1_decrease_57 (by decide) ?_
        refine lv_topl (fun y13 ey13 => ?_)
        replace ey13 : y13 = lN (cyS v u (i + 1)) := ey13.trans (by rw [hc9]; rfl)
        subst ey13
        refine lv_lstore_n (lv' := [(2, .long (lN (cyS v u (i + 1)))), (5, .long (((lN (lbN v i)) - (lN (lbN u i))) - (lN (cyS v u i)))), (4, .int (nI i)), (0, .ref (o)), (1, .ref (oo))]) hx hb dX1_decrease_61 rfl hl (by decide) rfl (fun ls hl => ?_)
        refine lv_iinc (v := nI (i + 1)) (lv' := [(4, .int (nI (i + 1))), (2, .long (lN (cyS v u (i + 1)))), (5, .long (((lN (lbN v i)) - (lN (lbN u i))) - (lN (cyS v u i)))), (0, .ref (o)), (1, .ref (oo))]) hx hb dX1_decrease_62 hl (k := 2) rfl (nI_1 i) (by decide) rfl (fun ls hl => ?_)
        refine lv_goto (tgt := 5) hx hb dX1_decrease_65 (by decide) ?_
        exact ih (i + 1) H locs ls (by omega) hP hD hS (lv_sub hl [0, 1, 3, 4] rfl)
  exact loop w 0 s.heap [] ls (by omega) (by rw [fl_0]; exact hP) (by rw [fl_0]; exact hD) hS (by rw [cyS_0]; exact hl)
set_option maxHeartbeats 4000000 in
set_option maxRecDepth 100000 in
theorem c_multiply (l : Launch) (D : va_G) (cI : ClassId) (w o a v : Nat)(hw : w ≤ 64) (hoa : o ≠ a) (hv0 : v < 2147483648 ^ w) (k : Nat) (hk0 : k < 2147483648) (hr0 : v * k < 2147483648 ^ w) : Met l yX1_multiply wsX1_multiply ({ frames := 1, cells := 0, slots := 0, locals := 20 }) (nPc [.ref o, .int (nI k)] D (nW cI w o a v) [(cI, .int)]) (va_Qv (fun _ : Unit => True) (fun _ t => va_P D vwCl (nW cI w o a (v * k)) t.heap) (nAd o a)) 0 0 (nAd o a) := by
  refine Met.ofW (cc := cX1_multiply) (maxL := 7) (ret := none) (by decide) rfl ?_
  intro p e s m args below meth c s₁ B hml hv
  obtain ⟨rfl, hP0, hK⟩ := hv
  have hx := B.exec
  have hb := B.bytes
  have hr := B.returns
  have hts := atoms_spec (ws := wsX1_multiply) B.pre
  have hown : s.vm.findClass RX1 = some m.cls := findClass_of_methodNamed B.named
  have hlocks := B.notSynchronized
  have hi1 : ∀ w ∈ wsX10, w ∈ wsX1_multiply := by decide +kernel
  have hP : va_P D vwCl (nW cI w o a v) s.heap := hP0.sub [0, 1] rfl
  have hD : va_D (nAd o a) (nW cI w o a v) := vd_two (Or.inl rfl) (Or.inr rfl) hoa
  have hS : va_S (nAd o a) s.heap s.heap [] := va_S.rf
  have hl := lv_entry ([.ref (o), .int (nI k)]) (n := 7) (Nat.le_of_ble_eq_true rfl)
  rw [lg_entry_eq]
  generalize (lg_sl ([.ref (o), .int (nI k)]) ++ List.replicate (7 - (lg_sl ([.ref (o), .int (nI k)])).length) Slot.unset).toArray = ls at hl ⊢
  have hl : lv_has ls 7 [(0, .ref (o)), (1, .int (nI k))] := hl
  refine lv_lconst (v := 0) hx hb dX1_multiply_0 (by decide) ?_
  refine lv_lstore_n (lv' := [(2, .long ((0 : Int64))), (0, .ref (o)), (1, .int (nI k))]) hx hb dX1_multiply_1 rfl hl (by decide) rfl (fun ls hl => ?_)
  refine lv_iconst (v := 0) hx hb dX1_multiply_2 (by decide) ?_
  refine lv_istore (lv' := [(4, .int ((0 : Int32))), (2, .long ((0 : Int64))), (0, .ref (o)), (1, .int (nI k))]) hx hb dX1_multiply_3 hl (by decide) rfl (fun ls hl => ?_)
  have loop : ∀ (n i : Nat) (H : Heap) (locs : List Loc) (ls : Array Slot), i + n = w → va_P D vwCl [(o, .inr (1, [.ref (a), .int (nI (szF v w))])), (a, .inl (cI, w, .inl (fl (lb (v * k)) (lb v) i)))] H → va_D (nAd o a) [(o, .inr (1, [.ref (a), .int (nI (szF v w))])), (a, .inl (cI, w, .inl (fl (lb (v * k)) (lb v) i)))] → va_S (nAd o a) s.heap H locs → lv_has ls 7 [(4, .int (nI i)), (2, .long (lN (cyM v k i))), (0, .ref (o)), (1, .int (nI k))] → W p l e (headSpec wsX1_multiply ({ frames := 1, cells := 0, slots := 0, locals := 20 })).room s m ([.ref (o), .int (nI k)]).toArray below meth c H locs 0 0 (MQ below (va_Qv (fun _ : Unit => True) (fun _ t => va_P D vwCl (nW cI w o a (v * k)) t.heap) (nAd o a)) ([.ref (o), .int (nI k)]).toArray s 0 0 (nAd o a)) (F0 m 5 ls []) := by
    intro n
    induction n with
    | zero =>
      intro i H locs ls hin hP hD hS hl
      have hiw : i = w := by omega
      refine lv_iload hx hb dX1_multiply_5 (lv_at hl 0 rfl) ?_
      refine lv_aload_n hx hb dX1_multiply_7 rfl (lv_at hl 2 rfl) ?_
      refine va_get (D := D) (ci := 1) (v := .ref (a)) (C := RX1) (T := TX1) (N := 2) hx hb hts hi1 hown hK hP 0 rfl rfl 0 (by decide) (hts (.fieldLink RX1 9 "BigLedger$Natural" "limbs" "[I") (by decide +kernel)) (fun _ h9 => h9) rfl dX1_multiply_8 ?_
      refine va_alen (v := nI (w)) hx hb hK hP 1 0 rfl rfl (rfl) dX1_multiply_11 ?_
      refine lv_icmp_ge (tgt := 56) hx hb dX1_multiply_12 (by decide) (fun _ => ?_) (fun c9 => absurd (nI_le (by omega) (by omega)) c9)
      refine lv_aload_n hx hb dX1_multiply_56 rfl (lv_at hl 2 rfl) ?_
      refine va_callv (va_runV (As := []) (rest := []) ⟨hx, hb, hml, hown, hts⟩ (c_measure l D cI w o a (v * k) (nI (szF v w)) (fl (lb (v * k)) (lb v) i) hw hoa (fun k hk => fl_lo (by omega))) (cwV 0 hts gX1_multiply_X1_measure rfl rfl rfl (by decide +kernel) ⟨Nat.le_of_ble_eq_true rfl, Nat.le_of_ble_eq_true rfl⟩) ⟨nPc_blind, va_recv hK hP (ci := 1) (q0 := 0) rfl rfl, nPc_use (hP) hK⟩ rfl rfl hl.1 rfl (lv_room (Nat.le_of_ble_eq_true rfl)) dX1_multiply_57 ⟨Nat.le_of_ble_eq_true rfl, Nat.le_of_ble_eq_true rfl⟩) hS (fun q _ h => (fun _ h => h) q h) (fun _ h => h) (fun _u t H1 locs ht hvm hw hB hz1 hk9 hS => ?_)
      have hP9 : va_P D vwCl (nW cI w o a (v * k)) H1 := pB_at ht hB
      exact W.vret hx hb hr (fun t ht hW => ⟨⟨(), rfl, trivial, hp_at ht hP9⟩, hS.F ht⟩) hS.2.2 dX1_multiply_60
    | succ n ih =>
      intro i H locs ls hin hP hD hS hl
      have hiw : i < w := by omega
      refine lv_iload hx hb dX1_multiply_5 (lv_at hl 0 rfl) ?_
      refine lv_aload_n hx hb dX1_multiply_7 rfl (lv_at hl 2 rfl) ?_
      refine va_get (D := D) (ci := 1) (v := .ref (a)) (C := RX1) (T := TX1) (N := 2) hx hb hts hi1 hown hK hP 0 rfl rfl 0 (by decide) (hts (.fieldLink RX1 9 "BigLedger$Natural" "limbs" "[I") (by decide +kernel)) (fun _ h9 => h9) rfl dX1_multiply_8 ?_
      refine va_alen (v := nI (w)) hx hb hK hP 1 0 rfl rfl (rfl) dX1_multiply_11 ?_
      refine lv_icmp_ge (tgt := 56) hx hb dX1_multiply_12 (by decide) (fun c9 => absurd c9 (nI_ge hiw (by omega))) (fun _ => ?_)
      refine lv_aload_n hx hb dX1_multiply_15 rfl (lv_at hl 2 rfl) ?_
      refine va_get (D := D) (ci := 1) (v := .ref (a)) (C := RX1) (T := TX1) (N := 2) hx hb hts hi1 hown hK hP 0 rfl rfl 0 (by decide) (hts (.fieldLink RX1 9 "BigLedger$Natural" "limbs" "[I") (by decide +kernel)) (fun _ h9 => h9) rfl dX1_multiply_16 ?_
      refine lv_iload hx hb dX1_multiply_19 (lv_at hl 0 rfl) ?_
      refine va_iald hx hb hK hP 1 0 rfl rfl (vp_in_nI (by omega) (by omega)) dX1_multiply_21 ?_
      refine lv_topi (fun y14 ey14 => ?_)
      replace ey14 : y14 = lb v i := ey14.trans (by rw [nI_clamp (by omega), fl_hi (Nat.le_refl i)])
      subst ey14
      refine lv_i2l (v := lN (lbN v i)) hx hb dX1_multiply_22 (lb_l v i) ?_
      refine lv_iload_n hx hb dX1_multiply_23 rfl (lv_at hl 3 rfl) ?_
      refine lv_i2l (v := lN k) hx hb dX1_multiply_24 (nI_l (by omega)) ?_
      refine lv_lmul hx hb dX1_multiply_25 ?_
      refine lv_topl (fun y15 ey15 => ?_)
      replace ey15 : y15 = lN (lbN v i * k) := ey15.trans (lN_mul _ _)
      subst ey15
      refine lv_lload_n hx hb dX1_multiply_26 rfl (lv_at hl 1 rfl) ?_
      refine lv_ladd hx hb dX1_multiply_27 ?_
      refine lv_topl (fun y16 ey16 => ?_)
      replace ey16 : y16 = lN (lbN v i * k + cyM v k i) := ey16.trans (lN_add _ _)
      subst ey16
      have hs1 := cyM_le v k i
      have hs2 := lbN_lt v i
      have hs3 : lbN v i * k ≤ 2147483647 * 2147483647 := Nat.mul_le_mul (by omega) (by omega)
      refine lv_lstore (lv' := [(5, .long (lN (lbN v i * k + cyM v k i))), (4, .int (nI i)), (2, .long (lN (cyM v k i))), (0, .ref (o)), (1, .int (nI k))]) hx hb dX1_multiply_28 hl (by decide) rfl (fun ls hl => ?_)
      refine lv_aload_n hx hb dX1_multiply_30 rfl (lv_at hl 3 rfl) ?_
      refine va_get (D := D) (ci := 1) (v := .ref (a)) (C := RX1) (T := TX1) (N := 2) hx hb hts hi1 hown hK hP 0 rfl rfl 0 (by decide) (hts (.fieldLink RX1 9 "BigLedger$Natural" "limbs" "[I") (by decide +kernel)) (fun _ h9 => h9) rfl dX1_multiply_31 ?_
      refine lv_iload hx hb dX1_multiply_34 (lv_at hl 1 rfl) ?_
      refine lv_lload hx hb dX1_multiply_36 (lv_at hl 0 rfl) ?_
      refine lv_ldc2 (v := 2147483647) hx hb hown (hts (.constantLong RX1 26 (2147483647)) (by decide +kernel)) dX1_multiply_38 ?_
      refine lv_land hx hb dX1_multiply_41 ?_
      refine lv_topl (fun y17 ey17 => ?_)
      replace ey17 : y17 = lN (lbN (v * k) i) := ey17.trans ((l_mask _).trans (congrArg lN (mul_limb v k i)))
      subst ey17
      refine lv_l2i (v := lb (v * k) i) hx hb dX1_multiply_42 (lN_i _) ?_
      refine va_iast hx hb hK hP hD hS 1 0 rfl rfl (vp_in_nI (by omega) (by omega)) dX1_multiply_43 (fun H locs hP hD hS => ?_)
      have hP : va_P D vwCl [(o, .inr (1, [.ref (a), .int (nI (szF v w))])), (a, .inl (cI, w, .inl (upd (fl (lb (v * k)) (lb v) i) (nI i).toNatClampNeg (lb (v * k) i))))] H := hP
      have hD : va_D (nAd o a) [(o, .inr (1, [.ref (a), .int (nI (szF v w))])), (a, .inl (cI, w, .inl (upd (fl (lb (v * k)) (lb v) i) (nI i).toNatClampNeg (lb (v * k) i))))] := hD
      rw [show upd (fl (lb (v * k)) (lb v) i) (nI i).toNatClampNeg (lb (v * k) i) = fl (lb (v * k)) (lb v) (i + 1) from by rw [nI_clamp (by omega)]; exact fl_s rfl] at hP hD
      refine lv_lload hx hb dX1_multiply_44 (lv_at hl 0 rfl) ?_
      refine lv_bipush (v := 31) hx hb dX1_multiply_46 (by decide) ?_
      refine lv_lushr (v := lN (cyM v k (i + 1))) hx hb dX1_multiply_48 ((l_ushr31 (by omega)).trans (congrArg lN (mul_carry v k i))) ?_
      refine lv_lstore_n (lv' := [(2, .long (lN (cyM v k (i + 1)))), (5, .long (lN (lbN v i * k + cyM v k i))), (4, .int (nI i)), (0, .ref (o)), (1, .int (nI k))]) hx hb dX1_multiply_49 rfl hl (by decide) rfl (fun ls hl => ?_)
      refine lv_iinc (v := nI (i + 1)) (lv' := [(4, .int (nI (i + 1))), (2, .long (lN (cyM v k (i + 1)))), (5, .long (lN (lbN v i * k + cyM v k i))), (0, .ref (o)), (1, .int (nI k))]) hx hb dX1_multiply_50 hl (k := 2) rfl (nI_1 i) (by decide) rfl (fun ls hl => ?_)
      refine lv_goto (tgt := 5) hx hb dX1_multiply_53 (by decide) ?_
      exact ih (i + 1) H locs ls (by omega) hP hD hS (lv_sub hl [0, 1, 3, 4] rfl)
  exact loop w 0 s.heap [] ls (by omega) (by rw [fl_0]; exact hP) (by rw [fl_0]; exact hD) hS (by rw [cyM_0]; exact hl)
set_option maxHeartbeats 4000000 in
set_option maxRecDepth 100000 in
theorem c_divide (l : Launch) (D : va_G) (cI : ClassId) (w o a v : Nat)(hw : w ≤ 64) (hoa : o ≠ a) (hv0 : v < 2147483648 ^ w) (k : Nat) (hk1 : 0 < k) (hk0 : k < 2147483648) : Met l yX1_divide wsX1_divide ({ frames := 1, cells := 0, slots := 0, locals := 20 }) (nPc [.ref o, .int (nI k)] D (nW cI w o a v) [(cI, .int)]) (va_Qi (fun (r : Int32) (_ : Unit) => r = nI (v % k)) (fun _ t => va_P D vwCl (nW cI w o a (v / k)) t.heap) (nAd o a)) 0 0 (nAd o a) := by
  refine Met.ofW (cc := cX1_divide) (maxL := 7) (ret := (some .int)) (by decide) rfl ?_
  intro p e s m args below meth c s₁ B hml hv
  obtain ⟨rfl, hP0, hK⟩ := hv
  have hx := B.exec
  have hb := B.bytes
  have hr := B.returns
  have hts := atoms_spec (ws := wsX1_divide) B.pre
  have hown : s.vm.findClass RX1 = some m.cls := findClass_of_methodNamed B.named
  have hlocks := B.notSynchronized
  have hi1 : ∀ w ∈ wsX10, w ∈ wsX1_divide := by decide +kernel
  have hP : va_P D vwCl (nW cI w o a v) s.heap := hP0.sub [0, 1] rfl
  have hD : va_D (nAd o a) (nW cI w o a v) := vd_two (Or.inl rfl) (Or.inr rfl) hoa
  have hS : va_S (nAd o a) s.heap s.heap [] := va_S.rf
  have hl := lv_entry ([.ref (o), .int (nI k)]) (n := 7) (Nat.le_of_ble_eq_true rfl)
  rw [lg_entry_eq]
  generalize (lg_sl ([.ref (o), .int (nI k)]) ++ List.replicate (7 - (lg_sl ([.ref (o), .int (nI k)])).length) Slot.unset).toArray = ls at hl ⊢
  have hl : lv_has ls 7 [(0, .ref (o)), (1, .int (nI k))] := hl
  have loop : ∀ (i : Nat) (H : Heap) (locs : List Loc) (ls : Array Slot), i ≤ w → va_P D vwCl [(o, .inr (1, [.ref (a), .int (nI (szF v w))])), (a, .inl (cI, w, .inl (fd (lb (v / k)) (lb v) i)))] H → va_D (nAd o a) [(o, .inr (1, [.ref (a), .int (nI (szF v w))])), (a, .inl (cI, w, .inl (fd (lb (v / k)) (lb v) i)))] → va_S (nAd o a) s.heap H locs → lv_has ls 7 [(4, .int (nI i - 1)), (2, .long (lN (rmD v k i))), (0, .ref (o)), (1, .int (nI k))] → W p l e (headSpec wsX1_divide ({ frames := 1, cells := 0, slots := 0, locals := 20 })).room s m ([.ref (o), .int (nI k)]).toArray below meth c H locs 0 0 (MQ below (va_Qi (fun (r : Int32) (_ : Unit) => r = nI (v % k)) (fun _ t => va_P D vwCl (nW cI w o a (v / k)) t.heap) (nAd o a)) ([.ref (o), .int (nI k)]).toArray s 0 0 (nAd o a)) (F0 m 18 ls []) := by
    intro i
    induction i with
    | zero =>
      intro H locs ls hiw hP hD hS hl
      refine lv_iload hx hb dX1_divide_18 (lv_at hl 0 rfl) ?_
      refine lv_if_lt (tgt := 63) hx hb dX1_divide_20 (by decide) (fun _ => ?_) (fun c9 => absurd (by decide) c9)
      refine lv_aload_n hx hb dX1_divide_63 rfl (lv_at hl 2 rfl) ?_
      refine va_callv (va_runV (As := []) (rest := []) ⟨hx, hb, hml, hown, hts⟩ (c_measure l D cI w o a (v / k) (nI (szF v w)) (fd (lb (v / k)) (lb v) 0) hw hoa (fun k hk => by rw [fd_0])) (cwV 0 hts gX1_divide_X1_measure rfl rfl rfl (by decide +kernel) ⟨Nat.le_of_ble_eq_true rfl, Nat.le_of_ble_eq_true rfl⟩) ⟨nPc_blind, va_recv hK hP (ci := 1) (q0 := 0) rfl rfl, nPc_use (hP) hK⟩ rfl rfl hl.1 rfl (lv_room (Nat.le_of_ble_eq_true rfl)) dX1_divide_64 ⟨Nat.le_of_ble_eq_true rfl, Nat.le_of_ble_eq_true rfl⟩) hS (fun q _ h => (fun _ h => h) q h) (fun _ h => h) (fun _u t H1 locs ht hvm hw hB hz1 hk9 hS => ?_)
      have hP9 : va_P D vwCl (nW cI w o a (v / k)) H1 := pB_at ht hB
      refine lv_lload_n hx hb dX1_divide_67 rfl (lv_at hl 1 rfl) ?_
      refine lv_l2i (v := nI (v % k)) hx hb dX1_divide_68 (by rw [rmD_0]; exact lN_i _) ?_
      exact W.iret (v := nI (v % k)) hx hb hr (fun t ht hW => ⟨⟨_, (), rfl, rfl, hp_at ht hP9⟩, hS.F ht⟩) hS.2.2 dX1_divide_69
    | succ i ih =>
      intro H locs ls hiw hP hD hS hl
      rw [nI_pred] at hl
      refine lv_iload hx hb dX1_divide_18 (lv_at hl 0 rfl) ?_
      refine lv_if_lt (tgt := 63) hx hb dX1_divide_20 (by decide) (fun c9 => absurd c9 (nI_pos (by omega))) (fun _ => ?_)
      have hs1 := rmD_lt v (i + 1) hk1
      have hs2 := lbN_lt v i
      refine lv_lload_n hx hb dX1_divide_23 rfl (lv_at hl 1 rfl) ?_
      refine lv_bipush (v := 31) hx hb dX1_divide_24 (by decide) ?_
      refine lv_lshl (v := lN (rmD v k (i + 1) * 2147483648)) hx hb dX1_divide_26 (l_shl31 (by omega)) ?_
      refine lv_aload_n hx hb dX1_divide_27 rfl (lv_at hl 2 rfl) ?_
      refine va_get (D := D) (ci := 1) (v := .ref (a)) (C := RX1) (T := TX1) (N := 2) hx hb hts hi1 hown hK hP 0 rfl rfl 0 (by decide) (hts (.fieldLink RX1 9 "BigLedger$Natural" "limbs" "[I") (by decide +kernel)) (fun _ h9 => h9) rfl dX1_divide_28 ?_
      refine lv_iload hx hb dX1_divide_31 (lv_at hl 0 rfl) ?_
      refine va_iald hx hb hK hP 1 0 rfl rfl (vp_in_nI (by omega) (by omega)) dX1_divide_33 ?_
      refine lv_topi (fun y18 ey18 => ?_)
      replace ey18 : y18 = lb v i := ey18.trans (by rw [nI_clamp (by omega), fd_lo (by omega)])
      subst ey18
      refine lv_i2l (v := lN (lbN v i)) hx hb dX1_divide_34 (lb_l v i) ?_
      refine lv_ladd hx hb dX1_divide_35 ?_
      refine lv_topl (fun y19 ey19 => ?_)
      replace ey19 : y19 = lN (rmD v k (i + 1) * 2147483648 + lbN v i) := ey19.trans (lN_add _ _)
      subst ey19
      have hs3 : rmD v k (i + 1) * 2147483648 + lbN v i < 2 ^ 63 := by omega
      have hne : ¬ lN k = 0 := fun q => absurd ((pk_lEQ (b := 0) (by omega) (by decide)).mp q) (by omega)
      refine lv_lstore (lv' := [(5, .long (lN (rmD v k (i + 1) * 2147483648 + lbN v i))), (4, .int (nI i)), (2, .long (lN (rmD v k (i + 1)))), (0, .ref (o)), (1, .int (nI k))]) hx hb dX1_divide_36 hl (by decide) rfl (fun ls hl => ?_)
      refine lv_aload_n hx hb dX1_divide_38 rfl (lv_at hl 3 rfl) ?_
      refine va_get (D := D) (ci := 1) (v := .ref (a)) (C := RX1) (T := TX1) (N := 2) hx hb hts hi1 hown hK hP 0 rfl rfl 0 (by decide) (hts (.fieldLink RX1 9 "BigLedger$Natural" "limbs" "[I") (by decide +kernel)) (fun _ h9 => h9) rfl dX1_divide_39 ?_
      refine lv_iload hx hb dX1_divide_42 (lv_at hl 1 rfl) ?_
      refine lv_lload hx hb dX1_divide_44 (lv_at hl 0 rfl) ?_
      refine lv_iload_n hx hb dX1_divide_46 rfl (lv_at hl 4 rfl) ?_
      refine lv_i2l (v := lN k) hx hb dX1_divide_47 (nI_l (by omega)) ?_
      refine lv_ldiv hx hb dX1_divide_48 (hne) ?_
      refine lv_topl (fun y20 ey20 => ?_)
      replace ey20 : y20 = lN (lbN (v / k) i) := ey20.trans ((pk_lDiv hs3 hk1 (by omega)).trans (congrArg lN (div_limb v i hk1)))
      subst ey20
      refine lv_l2i (v := lb (v / k) i) hx hb dX1_divide_49 (lN_i _) ?_
      refine va_iast hx hb hK hP hD hS 1 0 rfl rfl (vp_in_nI (by omega) (by omega)) dX1_divide_50 (fun H locs hP hD hS => ?_)
      have hP : va_P D vwCl [(o, .inr (1, [.ref (a), .int (nI (szF v w))])), (a, .inl (cI, w, .inl (upd (fd (lb (v / k)) (lb v) (i + 1)) (nI i).toNatClampNeg (lb (v / k) i))))] H := hP
      have hD : va_D (nAd o a) [(o, .inr (1, [.ref (a), .int (nI (szF v w))])), (a, .inl (cI, w, .inl (upd (fd (lb (v / k)) (lb v) (i + 1)) (nI i).toNatClampNeg (lb (v / k) i))))] := hD
      rw [show upd (fd (lb (v / k)) (lb v) (i + 1)) (nI i).toNatClampNeg (lb (v / k) i) = fd (lb (v / k)) (lb v) i from by rw [nI_clamp (by omega)]; exact fd_s rfl] at hP hD
      refine lv_lload hx hb dX1_divide_51 (lv_at hl 0 rfl) ?_
      refine lv_iload_n hx hb dX1_divide_53 rfl (lv_at hl 4 rfl) ?_
      refine lv_i2l (v := lN k) hx hb dX1_divide_54 (nI_l (by omega)) ?_
      refine lv_lrem hx hb dX1_divide_55 (hne) ?_
      refine lv_topl (fun y21 ey21 => ?_)
      replace ey21 : y21 = lN (rmD v k i) := ey21.trans ((pk_lRem hs3 hk1 (by omega)).trans (congrArg lN (div_rem v k i)))
      subst ey21
      refine lv_lstore_n (lv' := [(2, .long (lN (rmD v k i))), (5, .long (lN (rmD v k (i + 1) * 2147483648 + lbN v i))), (4, .int (nI i)), (0, .ref (o)), (1, .int (nI k))]) hx hb dX1_divide_56 rfl hl (by decide) rfl (fun ls hl => ?_)
      refine lv_iinc (v := nI i - 1) (lv' := [(4, .int (nI i - 1)), (2, .long (lN (rmD v k i))), (5, .long (lN (rmD v k (i + 1) * 2147483648 + lbN v i))), (0, .ref (o)), (1, .int (nI k))]) hx hb dX1_divide_57 hl (k := 2) rfl (i_m1 _) (by decide) rfl (fun ls hl => ?_)
      refine lv_goto (tgt := 18) hx hb dX1_divide_60 (by decide) ?_
      exact ih H locs ls (by omega) hP hD hS (lv_sub hl [0, 1, 3, 4] rfl)
  refine lv_iload_n hx hb dX1_divide_0 rfl (lv_at hl 1 rfl) ?_
  refine lv_iconst (v := 1) hx hb dX1_divide_1 (by decide) ?_
  refine lv_icmp_ge (tgt := 7) hx hb dX1_divide_2 (by decide) (fun _ => ?_) (fun c9 => absurd ((nI_leI (a := 1) (by omega) (by omega)).mpr (by omega)) c9)
  refine lv_lconst (v := 0) hx hb dX1_divide_7 (by decide) ?_
  refine lv_lstore_n (lv' := [(2, .long ((0 : Int64))), (0, .ref (o)), (1, .int (nI k))]) hx hb dX1_divide_8 rfl hl (by decide) rfl (fun ls hl => ?_)
  refine lv_aload_n hx hb dX1_divide_9 rfl (lv_at hl 1 rfl) ?_
  refine va_get (D := D) (ci := 1) (v := .ref (a)) (C := RX1) (T := TX1) (N := 2) hx hb hts hi1 hown hK hP 0 rfl rfl 0 (by decide) (hts (.fieldLink RX1 9 "BigLedger$Natural" "limbs" "[I") (by decide +kernel)) (fun _ h9 => h9) rfl dX1_divide_10 ?_
  refine va_alen (v := nI (w)) hx hb hK hP 1 0 rfl rfl (rfl) dX1_divide_13 ?_
  refine lv_iconst (v := 1) hx hb dX1_divide_14 (by decide) ?_
  refine lv_isub hx hb dX1_divide_15 ?_
  refine lv_istore (lv' := [(4, .int ((nI (w)) - (1 : Int32))), (2, .long ((0 : Int64))), (0, .ref (o)), (1, .int (nI k))]) hx hb dX1_divide_16 hl (by decide) rfl (fun ls hl => ?_)
  have e1 : va_P D vwCl [(o, .inr (1, [.ref (a), .int (nI (szF v w))])), (a, .inl (cI, w, .inl (fd (lb (v / k)) (lb v) w)))] s.heap := vp_cons (hP 0 _ rfl) (vp_cons (at_congr (hP 1 _ rfl) (fun k hk => (fd_lo hk).symm)) vp_nil)
  exact loop w s.heap [] ls (Nat.le_refl w) e1 (vd_two (Or.inl rfl) (Or.inr rfl) hoa) hS (by rw [rmD_top hv0]; exact (lv_sub hl [0, 1, 2, 3] rfl))
set_option maxHeartbeats 4000000 in
set_option maxRecDepth 100000 in
theorem c_standingTo (l : Launch) (D : va_G) (cI : ClassId) (w o a v : Nat) (oo oa u : Nat) (hw : w ≤ 64) (hv0 : v < 2147483648 ^ w) (hu0 : u < 2147483648 ^ w) : Met l yX1_standingTo wsX1_standingTo ({ frames := 1, cells := 0, slots := 0, locals := 21 }) (nPc [.ref o, .ref oo] D (nW cI w o a v ++ nW cI w oo oa u) [(cI, .int)]) (vp_Si (fun r => r = if v < u then -1 else if v = u then 0 else 1)) 0 0 (fun _ => False) := by
  refine Met.ofW (cc := cX1_standingTo) (maxL := 4) (ret := (some .int)) (by decide) rfl ?_
  intro p e s m args below meth c s₁ B hml hv
  obtain ⟨rfl, hP0, hK⟩ := hv
  have hx := B.exec
  have hb := B.bytes
  have hr := B.returns
  have hts := atoms_spec (ws := wsX1_standingTo) B.pre
  have hown : s.vm.findClass RX1 = some m.cls := findClass_of_methodNamed B.named
  have hlocks := B.notSynchronized
  have hi1 : ∀ w ∈ wsX10, w ∈ wsX1_standingTo := by decide +kernel
  generalize hH : s.heap = H at hP0 ⊢
  have hP : va_P D vwCl (nW cI w o a v) H := hP0.sub [0, 1] rfl
  have hR : va_P D vwCl (nW cI w oo oa u) H := hP0.sub [2, 3] rfl
  have hl := lv_entry ([.ref (o), .ref (oo)]) (n := 4) (Nat.le_of_ble_eq_true rfl)
  rw [lg_entry_eq]
  generalize (lg_sl ([.ref (o), .ref (oo)]) ++ List.replicate (4 - (lg_sl ([.ref (o), .ref (oo)])).length) Slot.unset).toArray = ls at hl ⊢
  have hl : lv_has ls 4 [(0, .ref (o)), (1, .ref (oo))] := hl
  have loop : ∀ (i : Nat) (ls : Array Slot), i ≤ w → v / 2147483648 ^ i = u / 2147483648 ^ i → lv_has ls 4 [(2, .int (nI i - 1)), (0, .ref (o)), (1, .ref (oo))] → W p l e (headSpec wsX1_standingTo ({ frames := 1, cells := 0, slots := 0, locals := 21 })).room s m ([.ref (o), .ref (oo)]).toArray below meth c H [] 0 0 (MQ below (vp_Si (fun r => r = if v < u then -1 else if v = u then 0 else 1)) ([.ref (o), .ref (oo)]).toArray s 0 0 (fun _ => False)) (F0 m 8 ls []) := by
    intro i
    induction i with
    | zero =>
      intro ls hiw heq hl
      refine lv_iload_n hx hb dX1_standingTo_8 rfl (lv_at hl 0 rfl) ?_
      refine lv_if_lt (tgt := 39) hx hb dX1_standingTo_9 (by decide) (fun _ => ?_) (fun c9 => absurd (by decide) c9)
      refine lv_iconst (v := 0) hx hb dX1_standingTo_39 (by decide) ?_
      exact W.iret (v := 0) hx hb hr (fun t ht hW => ⟨_, rfl, by rw [cmp_0 heq, if_neg (Nat.lt_irrefl u), if_pos rfl], ht.trans hH.symm⟩) (fun _ h => by cases h) dX1_standingTo_40
    | succ i ih =>
      intro ls hiw heq hl
      rw [nI_pred] at hl
      refine lv_iload_n hx hb dX1_standingTo_8 rfl (lv_at hl 0 rfl) ?_
      refine lv_if_lt (tgt := 39) hx hb dX1_standingTo_9 (by decide) (fun c9 => absurd c9 (nI_pos (by omega))) (fun _ => ?_)
      refine lv_aload_n hx hb dX1_standingTo_12 rfl (lv_at hl 1 rfl) ?_
      refine va_get (D := D) (ci := 1) (v := .ref (a)) (C := RX1) (T := TX1) (N := 2) hx hb hts hi1 hown hK hP 0 rfl rfl 0 (by decide) (hts (.fieldLink RX1 9 "BigLedger$Natural" "limbs" "[I") (by decide +kernel)) (fun _ h9 => h9) rfl dX1_standingTo_13 ?_
      refine lv_iload_n hx hb dX1_standingTo_16 rfl (lv_at hl 0 rfl) ?_
      refine va_iald hx hb hK hP 1 0 rfl rfl (vp_in_nI (by omega) (by omega)) dX1_standingTo_17 ?_
      refine lv_topi (fun y22 ey22 => ?_)
      replace ey22 : y22 = lb v i := ey22.trans (lb_clamp (by omega))
      subst ey22
      refine lv_aload_n hx hb dX1_standingTo_18 rfl (lv_at hl 2 rfl) ?_
      refine lv_iload_n hx hb dX1_standingTo_19 rfl (lv_at hl 0 rfl) ?_
      refine vp_callSi (W.runV (As := [.int (nI i)]) (rest := [.int (lb v i)]) ⟨hx, hb, hml, hown, hts⟩ (c_limbAt l D cI w oo oa u (nI i) hw hu0) (cwV 1 hts gX1_standingTo_X1_limbAt rfl rfl rfl (by decide +kernel) ⟨Nat.le_of_ble_eq_true rfl, Nat.le_of_ble_eq_true rfl⟩) ⟨nPc_blind, va_recv hK hR (ci := 1) (q0 := 0) rfl rfl, nPc_use (hR) hK⟩ rfl rfl hl.1 rfl (lv_room (Nat.le_of_ble_eq_true rfl)) dX1_standingTo_20 ⟨Nat.le_of_ble_eq_true rfl, Nat.le_of_ble_eq_true rfl⟩) (fun rr23 hrr23 => ?_)
      replace hrr23 : rr23 = lb u i := hrr23.trans (if_nI (by omega))
      subst hrr23
      have hlv := lbN_lt' v i
      have hlu := lbN_lt' u i
      refine vp_callSi (W.runS (As := [.int (lb v i), .int (lb u i)]) (rest := []) ⟨hx, hb, hml, hown, hts⟩ (c_cmp l (lb v i) (lb u i)) (va_cwS 2 hts gX1_standingTo_J6_compare_7cf53 rfl rfl rfl (by decide +kernel) ⟨Nat.le_of_ble_eq_true rfl, Nat.le_of_ble_eq_true rfl⟩) preEq rfl rfl hl.1 rfl (lv_room (Nat.le_of_ble_eq_true rfl)) dX1_standingTo_23 ⟨Nat.le_of_ble_eq_true rfl, Nat.le_of_ble_eq_true rfl⟩) (fun rc hrc => ?_)
      have e1 : lb v i < lb u i ↔ lbN v i < lbN u i := nI_ltI hlv hlu
      have e2 : lb v i = lb u i ↔ lbN v i = lbN u i := nI_eq hlv hlu
      refine lv_istore_n (lv' := [(3, .int (rc)), (2, .int (nI i)), (0, .ref (o)), (1, .ref (oo))]) hx hb dX1_standingTo_26 rfl hl (by decide) rfl (fun ls hl => ?_)
      refine lv_iload_n hx hb dX1_standingTo_27 rfl (lv_at hl 0 rfl) ?_
      refine lv_if_eq (tgt := 33) hx hb dX1_standingTo_28 (by decide) (fun c1 => ?_) (fun c1 => ?_)
      · have hq : lbN v i = lbN u i := by
          rw [hrc] at c1
          by_cases h1 : lb v i < lb u i
          · rw [if_pos h1] at c1; exact absurd c1 (by decide)
          · rw [if_neg h1] at c1
            by_cases h2 : lb v i = lb u i
            · exact e2.mp h2
            · rw [if_neg h2] at c1; exact absurd c1 (by decide)
        refine lv_iinc (v := nI i - 1) (lv' := [(2, .int (nI i - 1)), (3, .int (rc)), (0, .ref (o)), (1, .ref (oo))]) hx hb dX1_standingTo_33 hl (k := 1) rfl (i_m1 _) (by decide) rfl (fun ls hl => ?_)
        refine lv_goto (tgt := 8) hx hb dX1_standingTo_36 (by decide) ?_
        exact ih ls (by omega) (cmp_eq heq hq) (lv_sub hl [0, 2, 3] rfl)
      · refine lv_iload_n hx hb dX1_standingTo_31 rfl (lv_at hl 0 rfl) ?_
        exact W.iret (v := rc) hx hb hr (fun t ht hW => ⟨_, rfl, by
          rw [hrc] at c1 ⊢
          by_cases h1 : lb v i < lb u i
          · rw [if_pos h1, if_pos (cmp_lt heq (e1.mp h1))]
          · rw [if_neg h1] at c1 ⊢
            by_cases h2 : lb v i = lb u i
            · rw [if_pos h2] at c1; exact absurd rfl c1
            · have h3 : u < v := cmp_lt heq.symm (by
                have h4 : ¬ lbN v i < lbN u i := fun q => h1 (e1.mpr q)
                have h5 : ¬ lbN v i = lbN u i := fun q => h2 (e2.mpr q)
                omega)
              rw [if_neg h2, if_neg (by omega), if_neg (by omega)], ht.trans hH.symm⟩) (fun _ h => by cases h) dX1_standingTo_32
  refine lv_aload_n hx hb dX1_standingTo_0 rfl (lv_at hl 0 rfl) ?_
  refine va_get (D := D) (ci := 1) (v := .ref (a)) (C := RX1) (T := TX1) (N := 2) hx hb hts hi1 hown hK hP 0 rfl rfl 0 (by decide) (hts (.fieldLink RX1 9 "BigLedger$Natural" "limbs" "[I") (by decide +kernel)) (fun _ h9 => h9) rfl dX1_standingTo_1 ?_
  refine va_alen (v := nI (w)) hx hb hK hP 1 0 rfl rfl (rfl) dX1_standingTo_4 ?_
  refine lv_iconst (v := 1) hx hb dX1_standingTo_5 (by decide) ?_
  refine lv_isub hx hb dX1_standingTo_6 ?_
  refine lv_istore_n (lv' := [(2, .int ((nI (w)) - (1 : Int32))), (0, .ref (o)), (1, .ref (oo))]) hx hb dX1_standingTo_7 rfl hl (by decide) rfl (fun ls hl => ?_)
  exact loop w ls (Nat.le_refl w) (cmp_top hv0 hu0) hl
end
section
/-! the ledger's world: cells at the addresses ad 0, ad 1 .. : 0 ledger, 1 disk, 2 pending, 3 home, 4 log (rows of numbers), 5 out, 6 7 amount, 8 9 scratch, then for block b: 6b+10 11 pending, 6b+12 13 home, 6b+14 15 log -/
def wl (ad : Nat → Nat) (cel : Nat → va_E) (M : Nat) : va_W := (List.range M).map (fun i => (ad i, cel i))
theorem wl_at {ad : Nat → Nat} {cel : Nat → va_E} {M i : Nat} (h : i < M) : (wl ad cel M)[i]? = some (ad i, cel i) := by
  unfold wl
  rw [List.getElem?_map, List.getElem?_range h]
  rfl
theorem wl_lt {ad : Nat → Nat} {cel : Nat → va_E} {M k : Nat} {q : Nat × va_E} (h : (wl ad cel M)[k]? = some q) : k < M ∧ q = (ad k, cel k) := by
  have h1 := (List.getElem?_eq_some_iff.mp h).1
  have h2 : k < M := by simpa [wl] using h1
  rw [wl_at h2] at h
  exact ⟨h2, (Option.some.inj h).symm⟩
theorem wl_set {ad : Nat → Nat} {cel : Nat → va_E} {M i : Nat} (e : va_E) (h : i < M) : (wl ad cel M).set i (ad i, e) = wl ad (va_up cel i e) M := by
  apply List.ext_getElem?
  intro j
  by_cases hj : j = i
  · subst hj
    rw [List.getElem?_set_self (by simpa [wl] using h), wl_at h, va_up_self]
  · rw [List.getElem?_set_ne (Ne.symm hj)]
    by_cases hm : j < M
    · rw [wl_at hm, wl_at hm, va_up_ne _ _ hj]
    · rw [List.getElem?_eq_none (by simp [wl]; omega), List.getElem?_eq_none (by simp [wl]; omega)]
def lCel (ad : Nat → Nat) (cI cB cO : ClassId) (acc lm rm : Nat) (N : Nat → Nat → Nat) (x : Nat → Nat) (z ob : Nat → Int32) : Nat → va_E
  | 0 => .inr (2, [.int (nI acc), .int (nI lm), .int (nI rm), .ref (ad 1), .ref (ad 2), .int (nI (x 2)), .ref (ad 6), .int (z 0), .ref (ad 8), .ref (ad 5), .int (z 4)])
  | 1 => .inr (0, [.ref (ad 3), .ref (ad 4), .int (nI (x 3)), .int (z 1), .int (z 2), .int (z 3)])
  | 2 => .inl (cO, acc + 1, .inr (.inr (.inr (.inr (fun b => some (ad (6 * b + 10)))))))
  | 3 => .inl (cO, acc + 1, .inr (.inr (.inr (.inr (fun b => some (ad (6 * b + 12)))))))
  | 4 => .inl (cO, acc + 1, .inr (.inr (.inr (.inr (fun b => some (ad (6 * b + 14)))))))
  | 5 => .inl (cB, lm * 10, .inl ob)
  | 6 => .inr (1, [.ref (ad 7), .int (nI (szF (x 0) (lm + 1)))])
  | 7 => .inl (cI, lm + 1, .inl (lb (x 0)))
  | 8 => .inr (1, [.ref (ad 9), .int (nI (szF (x 1) (lm + 1)))])
  | 9 => .inl (cI, lm + 1, .inl (lb (x 1)))
  | j + 10 => if j % 2 = 0 then .inr (1, [.ref (ad (j + 11)), .int (nI (szF (N (j % 6 / 2) (j / 6)) (lm + 1)))]) else .inl (cI, lm + 1, .inl (lb (N (j % 6 / 2) (j / 6))))
abbrev lW (ad : Nat → Nat) (cI cB cO : ClassId) (acc lm rm : Nat) (N : Nat → Nat → Nat) (x : Nat → Nat) (z ob : Nat → Int32) : va_W := wl ad (lCel ad cI cB cO acc lm rm N x z ob) (6 * acc + 16)
def lOk (ad : Nat → Nat) (acc lm : Nat) : Prop := (∀ i j, i < 6 * acc + 16 → j < 6 * acc + 16 → ad i = ad j → i = j) ∧ acc ≤ 24 ∧ 1 ≤ lm ∧ lm ≤ 20
def lA (ad : Nat → Nat) (acc : Nat) : Nat → Prop := fun q => ∃ i, i < 6 * acc + 16 ∧ q = ad i
def nst (U : State) : Prop := va_Nw (.fieldLinkNest RX2 143 RX0 "writesUntilStop" "I" RX2) U ∧ va_Nw (.fieldLinkNest RX2 146 RX0 "formatted" "Z" RX2) U ∧ va_Nw (.fieldLinkNest RX2 162 RX0 "writesDone" "I" RX2) U ∧ va_Nw (.fieldLinkNest RX2 173 RX0 "home" "[LBigLedger$Natural;" RX2) U ∧ va_Nw (.fieldLinkNest RX2 75 RX1 "size" "I" RX2) U ∧ va_Nw (.methodLinkNest RX0 58 yX2_has RX2) U
theorem nst.warm {s U : State} (hW : s.WarmedH U.vm) (h : nst s) : nst U := ⟨h.1.warmF hW, h.2.1.warmF hW, h.2.2.1.warmF hW, h.2.2.2.1.warmF hW, h.2.2.2.2.1.warmF hW, h.2.2.2.2.2.warmM hW⟩
theorem nst.same {s U : State} (hW : s.vm = U.vm) (h : nst s) : nst U := ⟨h.1.same rfl hW, h.2.1.same rfl hW, h.2.2.1.same rfl hW, h.2.2.2.1.same rfl hW, h.2.2.2.2.1.same rfl hW, h.2.2.2.2.2.same rfl hW⟩
abbrev lT (cI cB cO : ClassId) : List (ClassId × FieldType) := [(cI, .int), (cB, .byte), (cO, .object "BigLedger$Natural")]
def lPc (av : List Value) (D : va_G) (ws : va_W) (tys : List (ClassId × FieldType)) : Array Value → State → Prop := va_Pc av (fun U => va_P D vwCl ws U.heap ∧ va_K D vwCl tys U ∧ nst U)
theorem lPc_blind {av : List Value} {D : va_G} {ws : va_W} {tys : List (ClassId × FieldType)} : FrameBlind (lPc av D ws tys) := fun a U g mk q => by
  obtain ⟨q0, qP, qK, qN⟩ := q
  exact ⟨q0, qP, va_K.moved (u := U) (U := U.calling g mk a) (Vm.Alike.refl U.vm) qK, qN.same rfl⟩
theorem lPc_use {av : List Value} {D : va_G} {ws : va_W} {tys : List (ClassId × FieldType)} {H : Heap} {s : State} (hP : va_P D vwCl ws H) (hKN : va_K D vwCl tys s ∧ nst s) : ∀ U : State, U.heap = H → s.WarmedH U.vm → lPc av D ws tys av.toArray U :=
  fun U hU hW => ⟨rfl, by rw [hU]; exact hP, va_K.moved hW.alike hKN.1, hKN.2.warm hW⟩
theorem cv {D : va_G} {ws ws' : va_W} {H : Heap} (h : ws = ws') (hP : va_P D vwCl ws H) : va_P D vwCl ws' H := h ▸ hP
theorem wlD {ad : Nat → Nat} {cel : Nat → va_E} {acc lm : Nat} (hok : lOk ad acc lm) : va_D (lA ad acc) (wl ad cel (6 * acc + 16)) := by
  refine ⟨fun i j p q hi hj hpq => ?_, fun k q hk => ?_⟩
  · obtain ⟨h1, rfl⟩ := wl_lt hi
    obtain ⟨h2, rfl⟩ := wl_lt hj
    exact hok.1 i j h1 h2 hpq
  · obtain ⟨h1, rfl⟩ := wl_lt hk
    exact ⟨k, h1, rfl⟩
section LW
variable {ad : Nat → Nat} {cI cB cO : ClassId} {acc lm rm : Nat} {N : Nat → Nat → Nat} {x : Nat → Nat} {z ob : Nat → Int32}
theorem lCel_o (k b : Nat) (hk : k < 3) : lCel ad cI cB cO acc lm rm N x z ob (6 * b + 2 * k + 10) = .inr (1, [.ref (ad (6 * b + 2 * k + 11)), .int (nI (szF (N k b) (lm + 1)))]) := by
  show (if (6 * b + 2 * k) % 2 = 0 then _ else _) = _
  rw [if_pos (by omega), show (6 * b + 2 * k) % 6 / 2 = k by omega, show (6 * b + 2 * k) / 6 = b by omega]
theorem lCel_a (k b : Nat) (hk : k < 3) : lCel ad cI cB cO acc lm rm N x z ob (6 * b + 2 * k + 11) = .inl (cI, lm + 1, .inl (lb (N k b))) := by
  show (if (6 * b + 2 * k + 1) % 2 = 0 then _ else _) = _
  rw [if_neg (by omega), show (6 * b + 2 * k + 1) % 6 / 2 = k by omega, show (6 * b + 2 * k + 1) / 6 = b by omega]
theorem lCel_other (k b v : Nat) (hk : k < 3) (j : Nat) (h1 : j ≠ 6 * b + 2 * k + 10) (h2 : j ≠ 6 * b + 2 * k + 11) : lCel ad cI cB cO acc lm rm (va_up N k (va_up (N k) b v)) x z ob j = lCel ad cI cB cO acc lm rm N x z ob j := by
  match j with
  | 0 | 1 | 2 | 3 | 4 | 5 | 6 | 7 | 8 | 9 => rfl
  | j + 10 =>
    have e : va_up N k (va_up (N k) b v) (j % 6 / 2) (j / 6) = N (j % 6 / 2) (j / 6) := by
      by_cases h3 : j % 6 / 2 = k
      · rw [h3, va_up_self]
        by_cases h4 : j / 6 = b
        · omega
        · rw [va_up_ne _ _ h4]
      · rw [va_up_ne _ _ h3]
    show (if j % 2 = 0 then _ else _) = (if j % 2 = 0 then _ else _)
    rw [e]
/-- a number's two cells -/
theorem ln_p {D : va_G} {H : Heap} (hP : va_P D vwCl (lW ad cI cB cO acc lm rm N x z ob) H) (k b : Nat) (hk : k < 3) (hb : b ≤ acc) : va_P D vwCl (nW cI (lm + 1) (ad (6 * b + 2 * k + 10)) (ad (6 * b + 2 * k + 11)) (N k b)) H := by
  refine vp_cons ?_ (vp_cons ?_ vp_nil)
  · have := hP _ _ (wl_at (i := 6 * b + 2 * k + 10) (by omega))
    rwa [lCel_o k b hk] at this
  · have := hP _ _ (wl_at (i := 6 * b + 2 * k + 11) (by omega))
    rwa [lCel_a k b hk] at this
theorem ln_am {D : va_G} {H : Heap} (hP : va_P D vwCl (lW ad cI cB cO acc lm rm N x z ob) H) : va_P D vwCl (nW cI (lm + 1) (ad 6) (ad 7) (x 0)) H :=
  vp_cons (hP _ _ (wl_at (i := 6) (by omega))) (vp_cons (hP _ _ (wl_at (i := 7) (by omega))) vp_nil)
theorem ln_sc {D : va_G} {H : Heap} (hP : va_P D vwCl (lW ad cI cB cO acc lm rm N x z ob) H) : va_P D vwCl (nW cI (lm + 1) (ad 8) (ad 9) (x 1)) H :=
  vp_cons (hP _ _ (wl_at (i := 8) (by omega))) (vp_cons (hP _ _ (wl_at (i := 9) (by omega))) vp_nil)
theorem lA_n {i q : Nat} (hi : i + 1 < 6 * acc + 16) (h : nAd (ad i) (ad (i + 1)) q) : lA ad acc q := by
  rcases h with rfl | rfl
  · exact ⟨i, by omega, rfl⟩
  · exact ⟨i + 1, hi, rfl⟩
theorem ln_ne {i j : Nat} (hok : lOk ad acc lm) (hi : i + 1 < 6 * acc + 16) (hj : j < 6 * acc + 16) (h1 : j ≠ i) (h2 : j ≠ i + 1) : ¬ nAd (ad i) (ad (i + 1)) (ad j) := by
  rintro (h | h)
  · exact h1 (hok.1 _ _ hj (by omega) h)
  · exact h2 (hok.1 _ _ hj hi h)
theorem ln_oa {i : Nat} (hok : lOk ad acc lm) (hi : i + 1 < 6 * acc + 16) : ad i ≠ ad (i + 1) := fun h => absurd (hok.1 _ _ (by omega) hi h) (by omega)
theorem l_back2 {D : va_G} {H H1 : Heap} {cel cel' : Nat → va_E} {i : Nat} (hok : lOk ad acc lm) (hi : i + 1 < 6 * acc + 16) (hP : va_P D vwCl (wl ad cel (6 * acc + 16)) H) (hk : ∀ q : Nat, q < H.size → ¬ nAd (ad i) (ad (i + 1)) q → H1[q]? = H[q]?)
    (h1 : va_at D vwCl (ad i, cel' i) H1) (h2 : va_at D vwCl (ad (i + 1), cel' (i + 1)) H1) (hold : ∀ j, j ≠ i → j ≠ i + 1 → cel' j = cel j) : va_P D vwCl (wl ad cel' (6 * acc + 16)) H1 := by
  intro k q hq
  obtain ⟨hk1, rfl⟩ := wl_lt hq
  by_cases e1 : k = i
  · subst e1; exact h1
  · by_cases e2 : k = i + 1
    · subst e2; exact h2
    · rw [hold k e1 e2]
      have h3 := hP k _ (wl_at hk1)
      exact h3.kept (hk _ h3.lt (ln_ne hok hi hk1 e1 e2))
theorem lk_p {D : va_G} {H H1 : Heap} {k b v : Nat} (hok : lOk ad acc lm) (hk3 : k < 3) (hb : b ≤ acc) (hP : va_P D vwCl (lW ad cI cB cO acc lm rm N x z ob) H) (hk : ∀ q : Nat, q < H.size → ¬ nAd (ad (6 * b + 2 * k + 10)) (ad (6 * b + 2 * k + 11)) q → H1[q]? = H[q]?)
    (h : va_P D vwCl (nW cI (lm + 1) (ad (6 * b + 2 * k + 10)) (ad (6 * b + 2 * k + 11)) v) H1) : va_P D vwCl (lW ad cI cB cO acc lm rm (va_up N k (va_up (N k) b v)) x z ob) H1 := by
  refine l_back2 (i := 6 * b + 2 * k + 10) hok (by omega) hP hk ?_ ?_ (fun j h1 h2 => lCel_other k b v hk3 j h1 h2)
  · rw [lCel_o k b hk3, va_up_self, va_up_self]; exact h 0 _ rfl
  · rw [lCel_a k b hk3, va_up_self, va_up_self]; exact h 1 _ rfl
theorem lk_am {D : va_G} {H H1 : Heap} {v : Nat} (hok : lOk ad acc lm) (hP : va_P D vwCl (lW ad cI cB cO acc lm rm N x z ob) H) (hk : ∀ q : Nat, q < H.size → ¬ nAd (ad 6) (ad 7) q → H1[q]? = H[q]?)
    (h : va_P D vwCl (nW cI (lm + 1) (ad 6) (ad 7) v) H1) : va_P D vwCl (lW ad cI cB cO acc lm rm N (va_up x 0 v) z ob) H1 := by
  refine l_back2 (i := 6) hok (by omega) hP hk (h 0 _ rfl) (h 1 _ rfl) (fun j h1 h2 => ?_)
  match j with
  | 0 | 1 | 2 | 3 | 4 | 5 | 8 | 9 => rfl
  | 6 => exact absurd rfl h1
  | 7 => exact absurd rfl h2
  | j + 10 => rfl
theorem lk_sc {D : va_G} {H H1 : Heap} {v : Nat} (hok : lOk ad acc lm) (hP : va_P D vwCl (lW ad cI cB cO acc lm rm N x z ob) H) (hk : ∀ q : Nat, q < H.size → ¬ nAd (ad 8) (ad 9) q → H1[q]? = H[q]?)
    (h : va_P D vwCl (nW cI (lm + 1) (ad 8) (ad 9) v) H1) : va_P D vwCl (lW ad cI cB cO acc lm rm N (va_up x 1 v) z ob) H1 := by
  refine l_back2 (i := 8) hok (by omega) hP hk (h 0 _ rfl) (h 1 _ rfl) (fun j h1 h2 => ?_)
  match j with
  | 0 | 1 | 2 | 3 | 4 | 5 | 6 | 7 => rfl
  | 8 => exact absurd rfl h1
  | 9 => exact absurd rfl h2
  | j + 10 => rfl
/-! single fields -/
theorem lset {i : Nat} {e : va_E} {N' : Nat → Nat → Nat} {x' : Nat → Nat} {z' ob' : Nat → Int32} (hi : i < 6 * acc + 16) (h : ∀ j, va_up (lCel ad cI cB cO acc lm rm N x z ob) i e j = lCel ad cI cB cO acc lm rm N' x' z' ob' j) : (lW ad cI cB cO acc lm rm N x z ob).set i (ad i, e) = lW ad cI cB cO acc lm rm N' x' z' ob' := by
  rw [wl_set e hi]
  rw [show va_up (lCel ad cI cB cO acc lm rm N x z ob) i e = lCel ad cI cB cO acc lm rm N' x' z' ob' from funext h]
theorem ls_touched (t : Nat) : (lW ad cI cB cO acc lm rm N x z ob).set 0 (ad 0, .inr (2, [.int (nI acc), .int (nI lm), .int (nI rm), .ref (ad 1), .ref (ad 2), .int (nI t), .ref (ad 6), .int (z 0), .ref (ad 8), .ref (ad 5), .int (z 4)])) = lW ad cI cB cO acc lm rm N (va_up x 2 t) z ob := by
  refine lset (by omega) (fun j => ?_)
  match j with
  | 0 | 1 | 2 | 3 | 4 | 5 | 6 | 7 | 8 | 9 => rfl
  | j + 10 => rfl
theorem ls_up (t : Int32) : (lW ad cI cB cO acc lm rm N x z ob).set 0 (ad 0, .inr (2, [.int (nI acc), .int (nI lm), .int (nI rm), .ref (ad 1), .ref (ad 2), .int (nI (x 2)), .ref (ad 6), .int t, .ref (ad 8), .ref (ad 5), .int (z 4)])) = lW ad cI cB cO acc lm rm N x (va_up z 0 t) ob := by
  refine lset (by omega) (fun j => ?_)
  match j with
  | 0 | 1 | 2 | 3 | 4 | 5 | 6 | 7 | 8 | 9 => rfl
  | j + 10 => rfl
theorem ls_outLength (t : Int32) : (lW ad cI cB cO acc lm rm N x z ob).set 0 (ad 0, .inr (2, [.int (nI acc), .int (nI lm), .int (nI rm), .ref (ad 1), .ref (ad 2), .int (nI (x 2)), .ref (ad 6), .int (z 0), .ref (ad 8), .ref (ad 5), .int t])) = lW ad cI cB cO acc lm rm N x (va_up z 4 t) ob := by
  refine lset (by omega) (fun j => ?_)
  match j with
  | 0 | 1 | 2 | 3 | 4 | 5 | 6 | 7 | 8 | 9 => rfl
  | j + 10 => rfl
theorem ls_committed (t : Nat) : (lW ad cI cB cO acc lm rm N x z ob).set 1 (ad 1, .inr (0, [.ref (ad 3), .ref (ad 4), .int (nI t), .int (z 1), .int (z 2), .int (z 3)])) = lW ad cI cB cO acc lm rm N (va_up x 3 t) z ob := by
  refine lset (by omega) (fun j => ?_)
  match j with
  | 0 | 1 | 2 | 3 | 4 | 5 | 6 | 7 | 8 | 9 => rfl
  | j + 10 => rfl
theorem ls_formatted (t : Int32) : (lW ad cI cB cO acc lm rm N x z ob).set 1 (ad 1, .inr (0, [.ref (ad 3), .ref (ad 4), .int (nI (x 3)), .int t, .int (z 2), .int (z 3)])) = lW ad cI cB cO acc lm rm N x (va_up z 1 t) ob := by
  refine lset (by omega) (fun j => ?_)
  match j with
  | 0 | 1 | 2 | 3 | 4 | 5 | 6 | 7 | 8 | 9 => rfl
  | j + 10 => rfl
theorem ls_writesDone (t : Int32) : (lW ad cI cB cO acc lm rm N x z ob).set 1 (ad 1, .inr (0, [.ref (ad 3), .ref (ad 4), .int (nI (x 3)), .int (z 1), .int t, .int (z 3)])) = lW ad cI cB cO acc lm rm N x (va_up z 2 t) ob := by
  refine lset (by omega) (fun j => ?_)
  match j with
  | 0 | 1 | 2 | 3 | 4 | 5 | 6 | 7 | 8 | 9 => rfl
  | j + 10 => rfl
theorem ls_writesUntilStop (t : Int32) : (lW ad cI cB cO acc lm rm N x z ob).set 1 (ad 1, .inr (0, [.ref (ad 3), .ref (ad 4), .int (nI (x 3)), .int (z 1), .int (z 2), .int t])) = lW ad cI cB cO acc lm rm N x (va_up z 3 t) ob := by
  refine lset (by omega) (fun j => ?_)
  match j with
  | 0 | 1 | 2 | 3 | 4 | 5 | 6 | 7 | 8 | 9 => rfl
  | j + 10 => rfl
theorem ls_out (f : Nat → Int32) : (lW ad cI cB cO acc lm rm N x z ob).set 5 (ad 5, .inl (cB, lm * 10, .inl f)) = lW ad cI cB cO acc lm rm N x z f := by
  refine lset (by omega) (fun j => ?_)
  match j with
  | 0 | 1 | 2 | 3 | 4 | 5 | 6 | 7 | 8 | 9 => rfl
  | j + 10 => rfl
end LW
end
section
/-! what the methods of the class do, on plain states: N (0 pending, 1 home, 2 log: numbers of blocks), x (0 amount, 1 scratch, 2 touched, 3 committed), z (0 up, 1 formatted, 2 writes done, 3 writes until the stop, 4 length of out) -/
abbrev LN : Type := Nat → Nat → Nat
abbrev DS : Type := LN × (Nat → Nat) × (Nat → Int32)
def nOk (lm : Nat) (N : LN) : Prop := ∀ k b, N k b < 2147483648 ^ (lm + 1)
theorem nOk_up {lm : Nat} {N : LN} (h : nOk lm N) {k b v : Nat} (hv : v < 2147483648 ^ (lm + 1)) : nOk lm (va_up N k (va_up (N k) b v)) := by
  intro k' b'
  by_cases h1 : k' = k
  · subst h1
    rw [va_up_self]
    by_cases h2 : b' = b
    · subst h2; rw [va_up_self]; exact hv
    · rw [va_up_ne _ _ h2]; exact h _ _
  · rw [va_up_ne _ _ h1]; exact h _ _
def psZ (z : Nat → Int32) : Nat → Int32 := if z 3 = 0 then va_up z 3 (-1) else if z 3 ≤ 0 then va_up z 2 (z 2 + 1) else va_up (va_up z 3 (z 3 - 1)) 2 (z 2 + 1)
def psB (z : Nat → Int32) : Int32 := if z 3 = 0 then 0 else 1
def dWF (v : Int32) (S : DS) : Int32 × DS := if S.2.2 3 = 0 then (0, S.1, S.2.1, psZ S.2.2) else (1, S.1, S.2.1, va_up (psZ S.2.2) 1 v)
def dWL (t : Nat) (S : DS) : Int32 × DS := if S.2.2 3 = 0 then (0, S.1, S.2.1, psZ S.2.2) else (1, S.1, va_up S.2.1 3 t, psZ S.2.2)
def clH : Nat → Nat → LN → (Nat → Int32) → Int32 × LN × (Nat → Int32)
  | 0, _, N, z => (1, N, z)
  | n + 1, b, N, z => if z 3 = 0 then (0, N, psZ z) else clH n (b + 1) (va_up N 1 (va_up (N 1) b 0)) (psZ z)
def wBl (k1 k2 T : Nat) : Nat → Nat → LN → (Nat → Int32) → Int32 × LN × (Nat → Int32)
  | 0, _, N, z => (1, N, z)
  | n + 1, b, N, z => if T.testBit b = true then (if z 3 = 0 then (0, N, psZ z) else wBl k1 k2 T n (b + 1) (va_up N k1 (va_up (N k1) b (N k2 b))) (psZ z)) else wBl k1 k2 T n (b + 1) N z
def dCl (acc : Nat) (S : DS) : Int32 × DS := ((clH (acc + 1) 0 S.1 S.2.2).1, (clH (acc + 1) 0 S.1 S.2.2).2.1, S.2.1, (clH (acc + 1) 0 S.1 S.2.2).2.2)
def dWB (k1 k2 T acc : Nat) (S : DS) : Int32 × DS := ((wBl k1 k2 T (acc + 1) 0 S.1 S.2.2).1, (wBl k1 k2 T (acc + 1) 0 S.1 S.2.2).2.1, S.2.1, (wBl k1 k2 T (acc + 1) 0 S.1 S.2.2).2.2)
def andD (f g : DS → Int32 × DS) (S : DS) : Int32 × DS := if (f S).1 = 0 then (0, (f S).2) else g (f S).2
def dHome (acc : Nat) (S : DS) : Int32 × DS := if S.2.1 3 = 0 then (1, S) else andD (dWB 1 2 (S.2.1 3) acc) (dWL 0) S
def dLog (T acc : Nat) (S : DS) : Int32 × DS := if T = 0 then (1, S) else andD (dWB 2 0 T acc) (andD (dWL T) (dHome acc)) S
def dLay (acc : Nat) (S : DS) : Int32 × DS := andD (dWF 0) (andD (dWL 0) (andD (dCl acc) (dWF 1))) S
theorem bo {r : Int32} (h : r = 0 ∨ r = 1) : narrow .boolean (.int r) = .int r ∧ fits .boolean (.int r) = true := by
  rcases h with rfl | rfl <;> exact ⟨rfl, rfl⟩
theorem bo_1 {r : Int32} (h : r = 0 ∨ r = 1) (h0 : ¬ r = 0) : r = 1 := h.resolve_left h0
theorem clH_b : ∀ (n b : Nat) (N : LN) (z : Nat → Int32), (clH n b N z).1 = 0 ∨ (clH n b N z).1 = 1
  | 0, _, _, _ => Or.inr rfl
  | n + 1, b, N, z => by
    unfold clH
    split
    · exact Or.inl rfl
    · exact clH_b n _ _ _
theorem wBl_b (k1 k2 T : Nat) : ∀ (n b : Nat) (N : LN) (z : Nat → Int32), (wBl k1 k2 T n b N z).1 = 0 ∨ (wBl k1 k2 T n b N z).1 = 1
  | 0, _, _, _ => Or.inr rfl
  | n + 1, b, N, z => by
    unfold wBl
    split
    · split
      · exact Or.inl rfl
      · exact wBl_b k1 k2 T n _ _ _
    · exact wBl_b k1 k2 T n _ _ _
theorem dWF_b (v : Int32) (S : DS) : (dWF v S).1 = 0 ∨ (dWF v S).1 = 1 := by unfold dWF; split <;> simp
theorem dWL_b (t : Nat) (S : DS) : (dWL t S).1 = 0 ∨ (dWL t S).1 = 1 := by unfold dWL; split <;> simp
theorem andD_b {f g : DS → Int32 × DS} (S : DS) (hg : ∀ S, (g S).1 = 0 ∨ (g S).1 = 1) : (andD f g S).1 = 0 ∨ (andD f g S).1 = 1 := by
  unfold andD
  split
  · exact Or.inl rfl
  · exact hg _
theorem dHome_b (acc : Nat) (S : DS) : (dHome acc S).1 = 0 ∨ (dHome acc S).1 = 1 := by
  unfold dHome
  split
  · exact Or.inr rfl
  · exact andD_b S (dWL_b 0)
theorem dLog_b (T acc : Nat) (S : DS) : (dLog T acc S).1 = 0 ∨ (dLog T acc S).1 = 1 := by
  unfold dLog
  split
  · exact Or.inr rfl
  · exact andD_b S (fun S => andD_b S (dHome_b acc))
theorem dLay_b (acc : Nat) (S : DS) : (dLay acc S).1 = 0 ∨ (dLay acc S).1 = 1 := andD_b S (fun S => andD_b S (fun S => andD_b S (dWF_b 1)))
theorem clH_ok {lm : Nat} : ∀ (n b : Nat) (N : LN) (z : Nat → Int32), nOk lm N → nOk lm (clH n b N z).2.1
  | 0, _, _, _, h => h
  | n + 1, b, N, z, h => by
    unfold clH
    split
    · exact h
    · exact clH_ok n _ _ _ (nOk_up h (bp_pos _))
theorem wBl_ok {lm : Nat} (k1 k2 T : Nat) : ∀ (n b : Nat) (N : LN) (z : Nat → Int32), nOk lm N → nOk lm (wBl k1 k2 T n b N z).2.1
  | 0, _, _, _, h => h
  | n + 1, b, N, z, h => by
    unfold wBl
    split
    · split
      · exact h
      · exact wBl_ok k1 k2 T n _ _ _ (nOk_up h (h _ _))
    · exact wBl_ok k1 k2 T n _ _ _ h
theorem dWB_x (k1 k2 T acc : Nat) (S : DS) : (dWB k1 k2 T acc S).2.2.1 = S.2.1 := rfl
theorem i_sh : ∀ b, b < 31 → (1 : Int32) <<< (nI b &&& 31) = nI (2 ^ b) := by decide +kernel
theorem has_bit {T b : Nat} (hb : b < 31) : (nI T &&& ((1 : Int32) <<< (nI b &&& 31)) = 0) ↔ ¬ T.testBit b = true := by
  rw [i_sh b hb, fa_bit hb]
  simp
section LV
variable {p : Program} {l : Launch} {e : Env} {R : Room} {s : State} {m : MethodId} {args : Array Value} {below : List Frame} {meth : Method} {c : Code} {H : Heap} {locs : List Loc} {cells slots : Nat} {Q : State → Prop} {pc : Nat} {ls : Array Slot} {rest : List Value}
theorem lv_topv {x y : Value} (h : x = y) (k : W p l e R s m args below meth c H locs cells slots Q (F0 m pc ls (y :: rest))) : W p l e R s m args below meth c H locs cells slots Q (F0 m pc ls (x :: rest)) := by subst h; exact k
end LV
section LWA
variable {ad : Nat → Nat} {cI cB cO : ClassId} {acc lm rm : Nat} {N : Nat → Nat → Nat} {x : Nat → Nat} {z ob : Nat → Int32}
theorem l_arr (k : Nat) (hk : k < 3) : (lW ad cI cB cO acc lm rm N x z ob)[k + 2]? = some (ad (k + 2), .inl (cO, acc + 1, .inr (.inr (.inr (.inr (fun b => some (ad (6 * b + 2 * k + 10)))))))) := by
  rw [wl_at (by omega)]
  match k, hk with
  | 0, _ => rfl
  | 1, _ => rfl
  | 2, _ => rfl
end LWA
end
section
set_option maxHeartbeats 4000000 in
set_option maxRecDepth 100000 in
theorem c_has (l : Launch) (T b : Nat) (hb0 : b < 31) : Met l yX2_has wsX2_has ({ frames := 0, cells := 0, slots := 0, locals := 0 }) (fun v _ => v = ([.int (nI T), .int (nI b)] : List Value).toArray) (vp_Si (fun r => r = if T.testBit b = true then 1 else 0)) 0 0 (fun _ => False) := by
  refine Met.ofW (cc := cX2_has) (maxL := 2) (ret := (some .boolean)) (by decide) rfl ?_
  intro p e s m args below meth c s₁ B hml hv
  subst hv
  have hx := B.exec
  have hb := B.bytes
  have hr := B.returns
  have hts := atoms_spec (ws := wsX2_has) B.pre
  have hown : s.vm.findClass RX2 = some m.cls := findClass_of_methodNamed B.named
  have hlocks := B.notSynchronized
  generalize hH : s.heap = H
  have hl := lv_entry ([.int (nI T), .int (nI b)]) (n := 2) (Nat.le_of_ble_eq_true rfl)
  rw [lg_entry_eq]
  generalize (lg_sl ([.int (nI T), .int (nI b)]) ++ List.replicate (2 - (lg_sl ([.int (nI T), .int (nI b)])).length) Slot.unset).toArray = ls at hl ⊢
  have hl : lv_has ls 2 [(0, .int (nI T)), (1, .int (nI b))] := hl
  refine lv_iload_n hx hb dX2_has_0 rfl (lv_at hl 0 rfl) ?_
  refine lv_iconst (v := 1) hx hb dX2_has_1 (by decide) ?_
  refine lv_iload_n hx hb dX2_has_2 rfl (lv_at hl 1 rfl) ?_
  refine lv_ishl hx hb dX2_has_3 ?_
  refine lv_iand hx hb dX2_has_4 ?_
  refine lv_if_eq (tgt := 12) hx hb dX2_has_5 (by decide) (fun c1 => ?_) (fun c1 => ?_)
  · refine lv_iconst (v := 0) hx hb dX2_has_12 (by decide) ?_
    exact W.zret (v := 0) (ty := .boolean) hx hb hr (rfl) (fun t ht hW => ⟨_, rfl, by rw [if_neg ((has_bit hb0).mp c1)], ht.trans hH.symm⟩) (fun _ h => by cases h) dX2_has_13
  · refine lv_iconst (v := 1) hx hb dX2_has_8 (by decide) ?_
    refine lv_goto (tgt := 13) hx hb dX2_has_9 (by decide) ?_
    exact W.zret (v := 1) (ty := .boolean) hx hb hr (rfl) (fun t ht hW => ⟨_, rfl, by rw [if_pos (Classical.byContradiction (fun q => c1 ((has_bit hb0).mpr q)))], ht.trans hH.symm⟩) (fun _ h => by cases h) dX2_has_13
set_option maxHeartbeats 4000000 in
set_option maxRecDepth 100000 in
theorem c_passStop (l : Launch) (D : va_G) (ad : Nat → Nat) (cI cB cO : ClassId) (acc lm rm : Nat) (N : LN) (x : Nat → Nat) (z ob : Nat → Int32) (hok : lOk ad acc lm) : Met l yX0_passStop wsX0_passStop ({ frames := 0, cells := 0, slots := 0, locals := 0 }) (lPc [.ref (ad 1)] D (lW ad cI cB cO acc lm rm N x z ob) [(cI, .int), (cB, .byte), (cO, .object "BigLedger$Natural")]) (va_Qi (fun (r : Int32) (u : DS) => (r, u) = (psB z, N, x, psZ z)) (fun u t => va_P D vwCl (lW ad cI cB cO acc lm rm u.1 u.2.1 u.2.2 ob) t.heap) (lA ad acc)) 0 0 (lA ad acc) := by
  refine Met.ofW (cc := cX0_passStop) (maxL := 1) (ret := (some .boolean)) (by decide) rfl ?_
  intro p e s m args below meth c s₁ B hml hv
  obtain ⟨rfl, hP, hK, hN⟩ := hv
  have hx := B.exec
  have hb := B.bytes
  have hr := B.returns
  have hts := atoms_spec (ws := wsX0_passStop) B.pre
  have hown : s.vm.findClass RX0 = some m.cls := findClass_of_methodNamed B.named
  have hlocks := B.notSynchronized
  have hi0 : ∀ w ∈ wsX00, w ∈ wsX0_passStop := by decide +kernel
  have hok1 := hok.2.1
  have hok2 := hok.2.2.1
  have hok3 := hok.2.2.2
  have hS : va_S (lA ad acc) s.heap s.heap [] := va_S.rf
  have hD : va_D (lA ad acc) (lW ad cI cB cO acc lm rm N x z ob) := wlD hok
  have hl := lv_entry ([.ref (ad 1)]) (n := 1) (Nat.le_of_ble_eq_true rfl)
  rw [lg_entry_eq]
  generalize (lg_sl ([.ref (ad 1)]) ++ List.replicate (1 - (lg_sl ([.ref (ad 1)])).length) Slot.unset).toArray = ls at hl ⊢
  have hl : lv_has ls 1 [(0, .ref (ad 1))] := hl
  refine lv_aload_n hx hb dX0_passStop_0 rfl (lv_at hl 0 rfl) ?_
  refine va_get (D := D) (ci := 0) (v := .int (z 3)) (C := RX0) (T := TX0) (N := 6) hx hb hts hi0 hown hK hP 1 (wl_at (by omega)) rfl 5 (by decide) (hts (.fieldLink RX0 22 "BigLedger$Disk" "writesUntilStop" "I") (by decide +kernel)) (fun _ h9 => h9) rfl dX0_passStop_1 ?_
  refine lv_if_ne (tgt := 14) hx hb dX0_passStop_4 (by decide) (fun c1 => ?_) (fun c1 => ?_)
  · refine lv_aload_n hx hb dX0_passStop_14 rfl (lv_at hl 0 rfl) ?_
    refine va_get (D := D) (ci := 0) (v := .int (z 3)) (C := RX0) (T := TX0) (N := 6) hx hb hts hi0 hown hK hP 1 (wl_at (by omega)) rfl 5 (by decide) (hts (.fieldLink RX0 22 "BigLedger$Disk" "writesUntilStop" "I") (by decide +kernel)) (fun _ h9 => h9) rfl dX0_passStop_15 ?_
    refine lv_if_le (tgt := 31) hx hb dX0_passStop_18 (by decide) (fun c2 => ?_) (fun c2 => ?_)
    · have e9 : psZ z = va_up z 2 (z 2 + 1) := by rw [psZ, if_neg c1, if_pos c2]
      refine lv_aload_n hx hb dX0_passStop_31 rfl (lv_at hl 0 rfl) ?_
      refine lv_dup hx hb dX0_passStop_32 rfl ?_
      refine va_get (D := D) (ci := 0) (v := .int (z 2)) (C := RX0) (T := TX0) (N := 6) hx hb hts hi0 hown hK hP 1 (wl_at (by omega)) rfl 4 (by decide) (hts (.fieldLink RX0 48 "BigLedger$Disk" "writesDone" "I") (by decide +kernel)) (fun _ h9 => h9) rfl dX0_passStop_33 ?_
      refine lv_iconst (v := 1) hx hb dX0_passStop_36 (by decide) ?_
      refine lv_iadd hx hb dX0_passStop_37 ?_
      refine va_put (D := D) (ci := 0) (v := .int ((z 2) + (1 : Int32))) (ty := .int) (C := RX0) (T := TX0) (N := 6) hx hb hts hi0 tyX0 tyX0_ok nmX0 hown hK hP hD hS 1 (wl_at (by omega)) rfl 4 (by decide) (hts (.fieldLink RX0 48 "BigLedger$Disk" "writesDone" "I") (by decide +kernel)) (fun _ h9 => h9) rfl (by decide +kernel) (rfl) (rfl) (Nat.le_of_ble_eq_true rfl) dX0_passStop_38 (fun H locs hP hD hS => ?_)
      have hP : va_P D vwCl (lW ad cI cB cO acc lm rm N x (va_up z 2 ((z 2) + (1 : Int32))) ob) H := cv (ls_writesDone ((z 2) + (1 : Int32))) hP
      have hD : va_D (lA ad acc) (lW ad cI cB cO acc lm rm N x (va_up z 2 ((z 2) + (1 : Int32))) ob) := wlD hok
      refine lv_iconst (v := 1) hx hb dX0_passStop_41 (by decide) ?_
      exact W.zret (v := 1) (ty := .boolean) hx hb hr (rfl) (fun t ht hW => ⟨⟨_, (N, x, va_up z 2 ((z 2) + (1 : Int32))), rfl, by rw [psB, if_neg c1, e9], hp_at ht hP⟩, hS.F ht⟩) hS.2.2 dX0_passStop_42
    · have e9 : psZ z = va_up (va_up z 3 (z 3 - 1)) 2 (z 2 + 1) := by rw [psZ, if_neg c1, if_neg c2]
      refine lv_aload_n hx hb dX0_passStop_21 rfl (lv_at hl 0 rfl) ?_
      refine lv_dup hx hb dX0_passStop_22 rfl ?_
      refine va_get (D := D) (ci := 0) (v := .int (z 3)) (C := RX0) (T := TX0) (N := 6) hx hb hts hi0 hown hK hP 1 (wl_at (by omega)) rfl 5 (by decide) (hts (.fieldLink RX0 22 "BigLedger$Disk" "writesUntilStop" "I") (by decide +kernel)) (fun _ h9 => h9) rfl dX0_passStop_23 ?_
      refine lv_iconst (v := 1) hx hb dX0_passStop_26 (by decide) ?_
      refine lv_isub hx hb dX0_passStop_27 ?_
      refine va_put (D := D) (ci := 0) (v := .int ((z 3) - (1 : Int32))) (ty := .int) (C := RX0) (T := TX0) (N := 6) hx hb hts hi0 tyX0 tyX0_ok nmX0 hown hK hP hD hS 1 (wl_at (by omega)) rfl 5 (by decide) (hts (.fieldLink RX0 22 "BigLedger$Disk" "writesUntilStop" "I") (by decide +kernel)) (fun _ h9 => h9) rfl (by decide +kernel) (rfl) (rfl) (Nat.le_of_ble_eq_true rfl) dX0_passStop_28 (fun H locs hP hD hS => ?_)
      have hP : va_P D vwCl (lW ad cI cB cO acc lm rm N x (va_up z 3 ((z 3) - (1 : Int32))) ob) H := cv (ls_writesUntilStop ((z 3) - (1 : Int32))) hP
      have hD : va_D (lA ad acc) (lW ad cI cB cO acc lm rm N x (va_up z 3 ((z 3) - (1 : Int32))) ob) := wlD hok
      refine lv_aload_n hx hb dX0_passStop_31 rfl (lv_at hl 0 rfl) ?_
      refine lv_dup hx hb dX0_passStop_32 rfl ?_
      refine va_get (D := D) (ci := 0) (v := .int ((va_up z 3 ((z 3) - (1 : Int32))) 2)) (C := RX0) (T := TX0) (N := 6) hx hb hts hi0 hown hK hP 1 (wl_at (by omega)) rfl 4 (by decide) (hts (.fieldLink RX0 48 "BigLedger$Disk" "writesDone" "I") (by decide +kernel)) (fun _ h9 => h9) rfl dX0_passStop_33 ?_
      refine lv_iconst (v := 1) hx hb dX0_passStop_36 (by decide) ?_
      refine lv_iadd hx hb dX0_passStop_37 ?_
      refine va_put (D := D) (ci := 0) (v := .int (((va_up z 3 ((z 3) - (1 : Int32))) 2) + (1 : Int32))) (ty := .int) (C := RX0) (T := TX0) (N := 6) hx hb hts hi0 tyX0 tyX0_ok nmX0 hown hK hP hD hS 1 (wl_at (by omega)) rfl 4 (by decide) (hts (.fieldLink RX0 48 "BigLedger$Disk" "writesDone" "I") (by decide +kernel)) (fun _ h9 => h9) rfl (by decide +kernel) (rfl) (rfl) (Nat.le_of_ble_eq_true rfl) dX0_passStop_38 (fun H locs hP hD hS => ?_)
      have hP : va_P D vwCl (lW ad cI cB cO acc lm rm N x (va_up (va_up z 3 ((z 3) - (1 : Int32))) 2 (((va_up z 3 ((z 3) - (1 : Int32))) 2) + (1 : Int32))) ob) H := cv (ls_writesDone (((va_up z 3 ((z 3) - (1 : Int32))) 2) + (1 : Int32))) hP
      have hD : va_D (lA ad acc) (lW ad cI cB cO acc lm rm N x (va_up (va_up z 3 ((z 3) - (1 : Int32))) 2 (((va_up z 3 ((z 3) - (1 : Int32))) 2) + (1 : Int32))) ob) := wlD hok
      refine lv_iconst (v := 1) hx hb dX0_passStop_41 (by decide) ?_
      exact W.zret (v := 1) (ty := .boolean) hx hb hr (rfl) (fun t ht hW => ⟨⟨_, (N, x, va_up (va_up z 3 ((z 3) - (1 : Int32))) 2 (((va_up z 3 ((z 3) - (1 : Int32))) 2) + (1 : Int32))), rfl, by rw [psB, if_neg c1, e9]; rfl, hp_at ht hP⟩, hS.F ht⟩) hS.2.2 dX0_passStop_42
  · refine lv_aload_n hx hb dX0_passStop_7 rfl (lv_at hl 0 rfl) ?_
    refine lv_iconst (v := (-1)) hx hb dX0_passStop_8 (by decide) ?_
    refine va_put (D := D) (ci := 0) (v := .int ((-1 : Int32))) (ty := .int) (C := RX0) (T := TX0) (N := 6) hx hb hts hi0 tyX0 tyX0_ok nmX0 hown hK hP hD hS 1 (wl_at (by omega)) rfl 5 (by decide) (hts (.fieldLink RX0 22 "BigLedger$Disk" "writesUntilStop" "I") (by decide +kernel)) (fun _ h9 => h9) rfl (by decide +kernel) (rfl) (rfl) (Nat.le_of_ble_eq_true rfl) dX0_passStop_9 (fun H locs hP hD hS => ?_)
    have hP : va_P D vwCl (lW ad cI cB cO acc lm rm N x (va_up z 3 (-1 : Int32)) ob) H := cv (ls_writesUntilStop (-1 : Int32)) hP
    have hD : va_D (lA ad acc) (lW ad cI cB cO acc lm rm N x (va_up z 3 (-1 : Int32)) ob) := wlD hok
    refine lv_iconst (v := 0) hx hb dX0_passStop_12 (by decide) ?_
    exact W.zret (v := 0) (ty := .boolean) hx hb hr (rfl) (fun t ht hW => ⟨⟨_, (N, x, va_up z 3 (-1 : Int32)), rfl, by rw [psB, if_pos c1, psZ, if_pos c1], hp_at ht hP⟩, hS.F ht⟩) hS.2.2 dX0_passStop_13
set_option maxHeartbeats 4000000 in
set_option maxRecDepth 100000 in
theorem c_writeFormatted (l : Launch) (D : va_G) (ad : Nat → Nat) (cI cB cO : ClassId) (acc lm rm : Nat) (N : LN) (x : Nat → Nat) (z ob : Nat → Int32) (hok : lOk ad acc lm) (v : Int32) (hv1 : v = 0 ∨ v = 1) : Met l yX0_writeFormatted wsX0_writeFormatted ({ frames := 1, cells := 0, slots := 0, locals := 20 }) (lPc [.ref (ad 1), .int (v)] D (lW ad cI cB cO acc lm rm N x z ob) [(cI, .int), (cB, .byte), (cO, .object "BigLedger$Natural")]) (va_Qi (fun (r : Int32) (u : DS) => (r, u) = dWF v (N, x, z)) (fun u t => va_P D vwCl (lW ad cI cB cO acc lm rm u.1 u.2.1 u.2.2 ob) t.heap) (lA ad acc)) 0 0 (lA ad acc) := by
  refine Met.ofW (cc := cX0_writeFormatted) (maxL := 2) (ret := (some .boolean)) (by decide) rfl ?_
  intro p e s m args below meth c s₁ B hml hv
  obtain ⟨rfl, hP, hK, hN⟩ := hv
  have hx := B.exec
  have hb := B.bytes
  have hr := B.returns
  have hts := atoms_spec (ws := wsX0_writeFormatted) B.pre
  have hown : s.vm.findClass RX0 = some m.cls := findClass_of_methodNamed B.named
  have hlocks := B.notSynchronized
  have hi0 : ∀ w ∈ wsX00, w ∈ wsX0_writeFormatted := by decide +kernel
  have hok1 := hok.2.1
  have hok2 := hok.2.2.1
  have hok3 := hok.2.2.2
  have hS : va_S (lA ad acc) s.heap s.heap [] := va_S.rf
  have hD : va_D (lA ad acc) (lW ad cI cB cO acc lm rm N x z ob) := wlD hok
  have hl := lv_entry ([.ref (ad 1), .int (v)]) (n := 2) (Nat.le_of_ble_eq_true rfl)
  rw [lg_entry_eq]
  generalize (lg_sl ([.ref (ad 1), .int (v)]) ++ List.replicate (2 - (lg_sl ([.ref (ad 1), .int (v)])).length) Slot.unset).toArray = ls at hl ⊢
  have hl : lv_has ls 2 [(0, .ref (ad 1)), (1, .int (v))] := hl
  refine lv_aload_n hx hb dX0_writeFormatted_0 rfl (lv_at hl 0 rfl) ?_
  refine va_calli (va_runV (As := []) (rest := []) ⟨hx, hb, hml, hown, hts⟩ (c_passStop l D ad cI cB cO acc lm rm N x z ob hok) (cwV 0 hts gX0_writeFormatted_X0_passStop rfl rfl rfl (by decide +kernel) ⟨Nat.le_of_ble_eq_true rfl, Nat.le_of_ble_eq_true rfl⟩) ⟨lPc_blind, va_recv hK hP (ci := 0) (q0 := 1) rfl (wl_at (by omega)), lPc_use (hP) ⟨hK, hN⟩⟩ rfl rfl hl.1 rfl (lv_room (Nat.le_of_ble_eq_true rfl)) dX0_writeFormatted_1 ⟨Nat.le_of_ble_eq_true rfl, Nat.le_of_ble_eq_true rfl⟩) hS (fun q _ h => (fun _ h => h) q h) (fun _ h => h) (fun r _u t H1 locs ht hvm hw hB hz1 hk9 hS => ?_)
  generalize H1 = H at ht hz1 hk9 hS ⊢
  cases hw
  have hP : va_P D vwCl (lW ad cI cB cO acc lm rm N x (psZ z) ob) H := pB_at ht hB
  have hD : va_D (lA ad acc) (lW ad cI cB cO acc lm rm N x (psZ z) ob) := wlD hok
  refine lv_if_ne (tgt := 9) hx hb dX0_writeFormatted_4 (by decide) (fun c1 => ?_) (fun c1 => ?_)
  · replace c1 : ¬ z 3 = 0 := fun q => c1 (by rw [psB, if_pos q])
    refine lv_aload_n hx hb dX0_writeFormatted_9 rfl (lv_at hl 0 rfl) ?_
    refine lv_iload_n hx hb dX0_writeFormatted_10 rfl (lv_at hl 1 rfl) ?_
    refine va_put (D := D) (ci := 0) (v := .int (v)) (ty := .boolean) (C := RX0) (T := TX0) (N := 6) hx hb hts hi0 tyX0 tyX0_ok nmX0 hown hK hP hD hS 1 (wl_at (by omega)) rfl 3 (by decide) (hts (.fieldLink RX0 54 "BigLedger$Disk" "formatted" "Z") (by decide +kernel)) (fun _ h9 => h9) rfl (by decide +kernel) ((bo hv1).1) ((bo hv1).2) (Nat.le_of_ble_eq_true rfl) dX0_writeFormatted_11 (fun H locs hP hD hS => ?_)
    have hP : va_P D vwCl (lW ad cI cB cO acc lm rm N x (va_up (psZ z) 1 v) ob) H := cv (ls_formatted v) hP
    have hD : va_D (lA ad acc) (lW ad cI cB cO acc lm rm N x (va_up (psZ z) 1 v) ob) := wlD hok
    refine lv_iconst (v := 1) hx hb dX0_writeFormatted_14 (by decide) ?_
    exact W.zret (v := 1) (ty := .boolean) hx hb hr (rfl) (fun t ht hW => ⟨⟨_, (N, x, va_up (psZ z) 1 v), rfl, by rw [dWF, if_neg c1], hp_at ht hP⟩, hS.F ht⟩) hS.2.2 dX0_writeFormatted_15
  · replace c1 : z 3 = 0 := Classical.byContradiction (fun q => absurd c1 (by rw [psB, if_neg q]; decide))
    refine lv_iconst (v := 0) hx hb dX0_writeFormatted_7 (by decide) ?_
    exact W.zret (v := 0) (ty := .boolean) hx hb hr (rfl) (fun t ht hW => ⟨⟨_, (N, x, psZ z), rfl, by rw [dWF, if_pos c1], hp_at ht hP⟩, hS.F ht⟩) hS.2.2 dX0_writeFormatted_8
set_option maxHeartbeats 4000000 in
set_option maxRecDepth 100000 in
theorem c_writeLogState (l : Launch) (D : va_G) (ad : Nat → Nat) (cI cB cO : ClassId) (acc lm rm : Nat) (N : LN) (x : Nat → Nat) (z ob : Nat → Int32) (hok : lOk ad acc lm) (T : Nat) : Met l yX0_writeLogState wsX0_writeLogState ({ frames := 1, cells := 0, slots := 0, locals := 20 }) (lPc [.ref (ad 1), .int (nI T)] D (lW ad cI cB cO acc lm rm N x z ob) [(cI, .int), (cB, .byte), (cO, .object "BigLedger$Natural")]) (va_Qi (fun (r : Int32) (u : DS) => (r, u) = dWL T (N, x, z)) (fun u t => va_P D vwCl (lW ad cI cB cO acc lm rm u.1 u.2.1 u.2.2 ob) t.heap) (lA ad acc)) 0 0 (lA ad acc) := by
  refine Met.ofW (cc := cX0_writeLogState) (maxL := 2) (ret := (some .boolean)) (by decide) rfl ?_
  intro p e s m args below meth c s₁ B hml hv
  obtain ⟨rfl, hP, hK, hN⟩ := hv
  have hx := B.exec
  have hb := B.bytes
  have hr := B.returns
  have hts := atoms_spec (ws := wsX0_writeLogState) B.pre
  have hown : s.vm.findClass RX0 = some m.cls := findClass_of_methodNamed B.named
  have hlocks := B.notSynchronized
  have hi0 : ∀ w ∈ wsX00, w ∈ wsX0_writeLogState := by decide +kernel
  have hok1 := hok.2.1
  have hok2 := hok.2.2.1
  have hok3 := hok.2.2.2
  have hS : va_S (lA ad acc) s.heap s.heap [] := va_S.rf
  have hD : va_D (lA ad acc) (lW ad cI cB cO acc lm rm N x z ob) := wlD hok
  have hl := lv_entry ([.ref (ad 1), .int (nI T)]) (n := 2) (Nat.le_of_ble_eq_true rfl)
  rw [lg_entry_eq]
  generalize (lg_sl ([.ref (ad 1), .int (nI T)]) ++ List.replicate (2 - (lg_sl ([.ref (ad 1), .int (nI T)])).length) Slot.unset).toArray = ls at hl ⊢
  have hl : lv_has ls 2 [(0, .ref (ad 1)), (1, .int (nI T))] := hl
  refine lv_aload_n hx hb dX0_writeLogState_0 rfl (lv_at hl 0 rfl) ?_
  refine va_calli (va_runV (As := []) (rest := []) ⟨hx, hb, hml, hown, hts⟩ (c_passStop l D ad cI cB cO acc lm rm N x z ob hok) (cwV 0 hts gX0_writeLogState_X0_passStop rfl rfl rfl (by decide +kernel) ⟨Nat.le_of_ble_eq_true rfl, Nat.le_of_ble_eq_true rfl⟩) ⟨lPc_blind, va_recv hK hP (ci := 0) (q0 := 1) rfl (wl_at (by omega)), lPc_use (hP) ⟨hK, hN⟩⟩ rfl rfl hl.1 rfl (lv_room (Nat.le_of_ble_eq_true rfl)) dX0_writeLogState_1 ⟨Nat.le_of_ble_eq_true rfl, Nat.le_of_ble_eq_true rfl⟩) hS (fun q _ h => (fun _ h => h) q h) (fun _ h => h) (fun r _u t H1 locs ht hvm hw hB hz1 hk9 hS => ?_)
  generalize H1 = H at ht hz1 hk9 hS ⊢
  cases hw
  have hP : va_P D vwCl (lW ad cI cB cO acc lm rm N x (psZ z) ob) H := pB_at ht hB
  have hD : va_D (lA ad acc) (lW ad cI cB cO acc lm rm N x (psZ z) ob) := wlD hok
  refine lv_if_ne (tgt := 9) hx hb dX0_writeLogState_4 (by decide) (fun c1 => ?_) (fun c1 => ?_)
  · replace c1 : ¬ z 3 = 0 := fun q => c1 (by rw [psB, if_pos q])
    refine lv_aload_n hx hb dX0_writeLogState_9 rfl (lv_at hl 0 rfl) ?_
    refine lv_iload_n hx hb dX0_writeLogState_10 rfl (lv_at hl 1 rfl) ?_
    refine va_put (D := D) (ci := 0) (v := .int (nI T)) (ty := .int) (C := RX0) (T := TX0) (N := 6) hx hb hts hi0 tyX0 tyX0_ok nmX0 hown hK hP hD hS 1 (wl_at (by omega)) rfl 2 (by decide) (hts (.fieldLink RX0 45 "BigLedger$Disk" "committed" "I") (by decide +kernel)) (fun _ h9 => h9) rfl (by decide +kernel) (rfl) (rfl) (Nat.le_of_ble_eq_true rfl) dX0_writeLogState_11 (fun H locs hP hD hS => ?_)
    have hP : va_P D vwCl (lW ad cI cB cO acc lm rm N (va_up x 3 T) (psZ z) ob) H := cv (ls_committed T) hP
    have hD : va_D (lA ad acc) (lW ad cI cB cO acc lm rm N (va_up x 3 T) (psZ z) ob) := wlD hok
    refine lv_iconst (v := 1) hx hb dX0_writeLogState_14 (by decide) ?_
    exact W.zret (v := 1) (ty := .boolean) hx hb hr (rfl) (fun t ht hW => ⟨⟨_, (N, va_up x 3 T, psZ z), rfl, by rw [dWL, if_neg c1], hp_at ht hP⟩, hS.F ht⟩) hS.2.2 dX0_writeLogState_15
  · replace c1 : z 3 = 0 := Classical.byContradiction (fun q => absurd c1 (by rw [psB, if_neg q]; decide))
    refine lv_iconst (v := 0) hx hb dX0_writeLogState_7 (by decide) ?_
    exact W.zret (v := 0) (ty := .boolean) hx hb hr (rfl) (fun t ht hW => ⟨⟨_, (N, x, psZ z), rfl, by rw [dWL, if_pos c1], hp_at ht hP⟩, hS.F ht⟩) hS.2.2 dX0_writeLogState_8
set_option maxHeartbeats 4000000 in
set_option maxRecDepth 100000 in
theorem c_clearHomes (l : Launch) (D : va_G) (ad : Nat → Nat) (cI cB cO : ClassId) (acc lm rm : Nat) (N : LN) (x : Nat → Nat) (z ob : Nat → Int32) (hok : lOk ad acc lm) (hNk : nOk lm N) : Met l yX0_clearHomes wsX0_clearHomes ({ frames := 1, cells := 0, slots := 0, locals := 21 }) (lPc [.ref (ad 1)] D (lW ad cI cB cO acc lm rm N x z ob) [(cI, .int), (cB, .byte), (cO, .object "BigLedger$Natural")]) (va_Qi (fun (r : Int32) (u : DS) => (r, u) = dCl acc (N, x, z)) (fun u t => va_P D vwCl (lW ad cI cB cO acc lm rm u.1 u.2.1 u.2.2 ob) t.heap) (lA ad acc)) 0 0 (lA ad acc) := by
  refine Met.ofW (cc := cX0_clearHomes) (maxL := 2) (ret := (some .boolean)) (by decide) rfl ?_
  intro p e s m args below meth c s₁ B hml hv
  obtain ⟨rfl, hP, hK, hN⟩ := hv
  have hx := B.exec
  have hb := B.bytes
  have hr := B.returns
  have hts := atoms_spec (ws := wsX0_clearHomes) B.pre
  have hown : s.vm.findClass RX0 = some m.cls := findClass_of_methodNamed B.named
  have hlocks := B.notSynchronized
  have hi0 : ∀ w ∈ wsX00, w ∈ wsX0_clearHomes := by decide +kernel
  have hok1 := hok.2.1
  have hok2 := hok.2.2.1
  have hok3 := hok.2.2.2
  have hS : va_S (lA ad acc) s.heap s.heap [] := va_S.rf
  have hD : va_D (lA ad acc) (lW ad cI cB cO acc lm rm N x z ob) := wlD hok
  have hl := lv_entry ([.ref (ad 1)]) (n := 2) (Nat.le_of_ble_eq_true rfl)
  rw [lg_entry_eq]
  generalize (lg_sl ([.ref (ad 1)]) ++ List.replicate (2 - (lg_sl ([.ref (ad 1)])).length) Slot.unset).toArray = ls at hl ⊢
  have hl : lv_has ls 2 [(0, .ref (ad 1))] := hl
  refine lv_iconst (v := 0) hx hb dX0_clearHomes_0 (by decide) ?_
  refine lv_istore_n (lv' := [(1, .int ((0 : Int32))), (0, .ref (ad 1))]) hx hb dX0_clearHomes_1 rfl hl (by decide) rfl (fun ls hl => ?_)
  have loop : ∀ (n i : Nat) (M : LN) (y : Nat → Int32) (H : Heap) (locs : List Loc) (ls : Array Slot), i + n = acc + 1 → clH n i M y = clH (acc + 1) 0 N z → va_P D vwCl (lW ad cI cB cO acc lm rm M x y ob) H → va_S (lA ad acc) s.heap H locs → lv_has ls 2 [(1, .int (nI i)), (0, .ref (ad 1))] → W p l e (headSpec wsX0_clearHomes ({ frames := 1, cells := 0, slots := 0, locals := 21 })).room s m ([.ref (ad 1)]).toArray below meth c H locs 0 0 (MQ below (va_Qi (fun (r : Int32) (u : DS) => (r, u) = dCl acc (N, x, z)) (fun u t => va_P D vwCl (lW ad cI cB cO acc lm rm u.1 u.2.1 u.2.2 ob) t.heap) (lA ad acc)) ([.ref (ad 1)]).toArray s 0 0 (lA ad acc)) (F0 m 2 ls []) := by
    intro n
    induction n with
    | zero =>
      intro i M y H locs ls hin heq hP hS hl
      refine lv_iload_n hx hb dX0_clearHomes_2 rfl (lv_at hl 0 rfl) ?_
      refine lv_aload_n hx hb dX0_clearHomes_3 rfl (lv_at hl 1 rfl) ?_
      refine va_get (D := D) (ci := 0) (v := .ref (ad 3)) (C := RX0) (T := TX0) (N := 6) hx hb hts hi0 hown hK hP 1 (wl_at (by omega)) rfl 0 (by decide) (hts (.fieldLink RX0 13 "BigLedger$Disk" "home" "[LBigLedger$Natural;") (by decide +kernel)) (fun _ h9 => h9) rfl dX0_clearHomes_4 ?_
      refine va_alen (v := nI (acc + 1)) hx hb hK hP 3 2 (wl_at (by omega)) rfl (rfl) dX0_clearHomes_7 ?_
      refine lv_icmp_ge (tgt := 35) hx hb dX0_clearHomes_8 (by decide) (fun _ => ?_) (fun c9 => absurd (nI_le (by omega) (by omega)) c9)
      refine lv_iconst (v := 1) hx hb dX0_clearHomes_35 (by decide) ?_
      exact W.zret (v := 1) (ty := .boolean) hx hb hr (rfl) (fun t ht hW => ⟨⟨_, (M, x, y), rfl, by rw [dCl, ← heq]; rfl, hp_at ht hP⟩, hS.F ht⟩) hS.2.2 dX0_clearHomes_36
    | succ n ih =>
      intro i M y H locs ls hin heq hP hS hl
      have hD : va_D (lA ad acc) (lW ad cI cB cO acc lm rm M x y ob) := wlD hok
      refine lv_iload_n hx hb dX0_clearHomes_2 rfl (lv_at hl 0 rfl) ?_
      refine lv_aload_n hx hb dX0_clearHomes_3 rfl (lv_at hl 1 rfl) ?_
      refine va_get (D := D) (ci := 0) (v := .ref (ad 3)) (C := RX0) (T := TX0) (N := 6) hx hb hts hi0 hown hK hP 1 (wl_at (by omega)) rfl 0 (by decide) (hts (.fieldLink RX0 13 "BigLedger$Disk" "home" "[LBigLedger$Natural;") (by decide +kernel)) (fun _ h9 => h9) rfl dX0_clearHomes_4 ?_
      refine va_alen (v := nI (acc + 1)) hx hb hK hP 3 2 (wl_at (by omega)) rfl (rfl) dX0_clearHomes_7 ?_
      refine lv_icmp_ge (tgt := 35) hx hb dX0_clearHomes_8 (by decide) (fun c9 => absurd c9 (nI_ge (by omega) (by omega))) (fun _ => ?_)
      refine lv_aload_n hx hb dX0_clearHomes_11 rfl (lv_at hl 1 rfl) ?_
      refine va_calli (va_runV (As := []) (rest := []) ⟨hx, hb, hml, hown, hts⟩ (c_passStop l D ad cI cB cO acc lm rm M x y ob hok) (cwV 0 hts gX0_clearHomes_X0_passStop rfl rfl rfl (by decide +kernel) ⟨Nat.le_of_ble_eq_true rfl, Nat.le_of_ble_eq_true rfl⟩) ⟨lPc_blind, va_recv hK hP (ci := 0) (q0 := 1) rfl (wl_at (by omega)), lPc_use (hP) ⟨hK, hN⟩⟩ rfl rfl hl.1 rfl (lv_room (Nat.le_of_ble_eq_true rfl)) dX0_clearHomes_12 ⟨Nat.le_of_ble_eq_true rfl, Nat.le_of_ble_eq_true rfl⟩) hS (fun q _ h => (fun _ h => h) q h) (fun _ h => h) (fun r _u t H1 locs ht hvm hw hB hz1 hk9 hS => ?_)
      generalize H1 = H at ht hz1 hk9 hS ⊢
      cases hw
      have hP : va_P D vwCl (lW ad cI cB cO acc lm rm M x (psZ y) ob) H := pB_at ht hB
      have hD : va_D (lA ad acc) (lW ad cI cB cO acc lm rm M x (psZ y) ob) := wlD hok
      refine lv_if_ne (tgt := 20) hx hb dX0_clearHomes_15 (by decide) (fun c1 => ?_) (fun c1 => ?_)
      · replace c1 : ¬ y 3 = 0 := fun q => c1 (by rw [psB, if_pos q])
        rw [clH, if_neg c1] at heq
        refine lv_aload_n hx hb dX0_clearHomes_20 rfl (lv_at hl 1 rfl) ?_
        refine va_get (D := D) (ci := 0) (v := .ref (ad 3)) (C := RX0) (T := TX0) (N := 6) hx hb hts hi0 hown hK hP 1 (wl_at (by omega)) rfl 0 (by decide) (hts (.fieldLink RX0 13 "BigLedger$Disk" "home" "[LBigLedger$Natural;") (by decide +kernel)) (fun _ h9 => h9) rfl dX0_clearHomes_21 ?_
        refine lv_iload_n hx hb dX0_clearHomes_24 rfl (lv_at hl 0 rfl) ?_
        refine va_aldq hx hb hK hP 3 2 (wl_at (by omega)) rfl (vp_in_nI (by omega) (by omega)) dX0_clearHomes_25 ?_
        refine lv_topv (y := .ref (ad (6 * i + 2 * 1 + 10))) (by rw [nI_clamp (by omega)]; rfl) ?_
        have hn1 := ln_p hP 1 i (by decide) (by omega)
        refine va_callv (va_runV (As := []) (rest := []) ⟨hx, hb, hml, hown, hts⟩ (c_setZero l D cI (lm + 1) (ad (6 * i + 2 * 1 + 10)) (ad (6 * i + 2 * 1 + 11)) (M 1 i) (by omega) (ln_oa (i := 6 * i + 2 * 1 + 10) hok (by omega))) (cwV 0 hts gX0_clearHomes_X1_setZero rfl rfl rfl (by decide +kernel) ⟨Nat.le_of_ble_eq_true rfl, Nat.le_of_ble_eq_true rfl⟩) ⟨nPc_blind, va_recv hK hn1 (ci := 1) (q0 := 0) rfl rfl, nPc_use (hn1) (hK.sub [0] rfl)⟩ rfl rfl hl.1 rfl (lv_room (Nat.le_of_ble_eq_true rfl)) dX0_clearHomes_26 ⟨Nat.le_of_ble_eq_true rfl, Nat.le_of_ble_eq_true rfl⟩) hS (fun q _ h => (fun q h => lA_n (i := 6 * i + 2 * 1 + 10) (by omega) h) q h) (fun q h => lA_n (i := 6 * i + 2 * 1 + 10) (by omega) h) (fun _u t H1 locs ht hvm hw hB hz1 hk9 hS => ?_)
        have hP9 := lk_p (k := 1) (b := i) hok (by decide) (by omega) hP hk9 (pB_at ht hB)
        generalize H1 = H at ht hz1 hk9 hS hP9 ⊢
        have hP : va_P D vwCl (lW ad cI cB cO acc lm rm (va_up M 1 (va_up (M 1) i 0)) x (psZ y) ob) H := hP9
        have hD : va_D (lA ad acc) (lW ad cI cB cO acc lm rm (va_up M 1 (va_up (M 1) i 0)) x (psZ y) ob) := wlD hok
        refine lv_iinc (v := nI (i + 1)) (lv' := [(1, .int (nI (i + 1))), (0, .ref (ad 1))]) hx hb dX0_clearHomes_29 hl (k := 0) rfl (nI_1 i) (by decide) rfl (fun ls hl => ?_)
        refine lv_goto (tgt := 2) hx hb dX0_clearHomes_32 (by decide) ?_
        exact ih (i + 1) _ _ H locs ls (by omega) heq hP hS hl
      · replace c1 : y 3 = 0 := Classical.byContradiction (fun q => absurd c1 (by rw [psB, if_neg q]; decide))
        refine lv_iconst (v := 0) hx hb dX0_clearHomes_18 (by decide) ?_
        exact W.zret (v := 0) (ty := .boolean) hx hb hr (rfl) (fun t ht hW => ⟨⟨_, (M, x, psZ y), rfl, by rw [dCl, ← heq, clH, if_pos c1], hp_at ht hP⟩, hS.F ht⟩) hS.2.2 dX0_clearHomes_19
  exact loop (acc + 1) 0 N z s.heap [] ls (by omega) rfl hP hS hl
set_option maxHeartbeats 4000000 in
set_option maxRecDepth 100000 in
theorem c_writeBlocks (l : Launch) (D : va_G) (ad : Nat → Nat) (cI cB cO : ClassId) (acc lm rm : Nat) (N : LN) (x : Nat → Nat) (z ob : Nat → Int32) (hok : lOk ad acc lm) (k1 k2 T : Nat) (hk1 : k1 < 3) (hk2 : k2 < 3) (hk12 : k1 ≠ k2) (hNk : nOk lm N) : Met l yX0_writeBlocks wsX0_writeBlocks ({ frames := 2, cells := 0, slots := 0, locals := 43 }) (lPc [.ref (ad 1), .ref (ad (k1 + 2)), .int (nI T), .ref (ad (k2 + 2))] D (lW ad cI cB cO acc lm rm N x z ob) [(cI, .int), (cB, .byte), (cO, .object "BigLedger$Natural")]) (va_Qi (fun (r : Int32) (u : DS) => (r, u) = dWB k1 k2 T acc (N, x, z)) (fun u t => va_P D vwCl (lW ad cI cB cO acc lm rm u.1 u.2.1 u.2.2 ob) t.heap) (lA ad acc)) 0 0 (lA ad acc) := by
  refine Met.ofW (cc := cX0_writeBlocks) (maxL := 5) (ret := (some .boolean)) (by decide) rfl ?_
  intro p e s m args below meth c s₁ B hml hv
  obtain ⟨rfl, hP, hK, hN⟩ := hv
  have hx := B.exec
  have hb := B.bytes
  have hr := B.returns
  have hts := atoms_spec (ws := wsX0_writeBlocks) B.pre
  have hown : s.vm.findClass RX0 = some m.cls := findClass_of_methodNamed B.named
  have hlocks := B.notSynchronized
  have hi0 : ∀ w ∈ wsX00, w ∈ wsX0_writeBlocks := by decide +kernel
  have hok1 := hok.2.1
  have hok2 := hok.2.2.1
  have hok3 := hok.2.2.2
  have hS : va_S (lA ad acc) s.heap s.heap [] := va_S.rf
  have hD : va_D (lA ad acc) (lW ad cI cB cO acc lm rm N x z ob) := wlD hok
  have hl := lv_entry ([.ref (ad 1), .ref (ad (k1 + 2)), .int (nI T), .ref (ad (k2 + 2))]) (n := 5) (Nat.le_of_ble_eq_true rfl)
  rw [lg_entry_eq]
  generalize (lg_sl ([.ref (ad 1), .ref (ad (k1 + 2)), .int (nI T), .ref (ad (k2 + 2))]) ++ List.replicate (5 - (lg_sl ([.ref (ad 1), .ref (ad (k1 + 2)), .int (nI T), .ref (ad (k2 + 2))])).length) Slot.unset).toArray = ls at hl ⊢
  have hl : lv_has ls 5 [(0, .ref (ad 1)), (1, .ref (ad (k1 + 2))), (2, .int (nI T)), (3, .ref (ad (k2 + 2)))] := hl
  have hN58 := hN.2.2.2.2.2
  refine lv_iconst (v := 0) hx hb dX0_writeBlocks_0 (by decide) ?_
  refine lv_istore (lv' := [(4, .int ((0 : Int32))), (0, .ref (ad 1)), (1, .ref (ad (k1 + 2))), (2, .int (nI T)), (3, .ref (ad (k2 + 2)))]) hx hb dX0_writeBlocks_1 hl (by decide) rfl (fun ls hl => ?_)
  have loop : ∀ (n i : Nat) (M : LN) (y : Nat → Int32) (H : Heap) (locs : List Loc) (ls : Array Slot), i + n = acc + 1 → wBl k1 k2 T n i M y = wBl k1 k2 T (acc + 1) 0 N z → nOk lm M → va_P D vwCl (lW ad cI cB cO acc lm rm M x y ob) H → va_S (lA ad acc) s.heap H locs → lv_has ls 5 [(4, .int (nI i)), (0, .ref (ad 1)), (1, .ref (ad (k1 + 2))), (2, .int (nI T)), (3, .ref (ad (k2 + 2)))] → W p l e (headSpec wsX0_writeBlocks ({ frames := 2, cells := 0, slots := 0, locals := 43 })).room s m ([.ref (ad 1), .ref (ad (k1 + 2)), .int (nI T), .ref (ad (k2 + 2))]).toArray below meth c H locs 0 0 (MQ below (va_Qi (fun (r : Int32) (u : DS) => (r, u) = dWB k1 k2 T acc (N, x, z)) (fun u t => va_P D vwCl (lW ad cI cB cO acc lm rm u.1 u.2.1 u.2.2 ob) t.heap) (lA ad acc)) ([.ref (ad 1), .ref (ad (k1 + 2)), .int (nI T), .ref (ad (k2 + 2))]).toArray s 0 0 (lA ad acc)) (F0 m 3 ls []) := by
    intro n
    induction n with
    | zero =>
      intro i M y H locs ls hin heq hM hP hS hl
      refine lv_iload hx hb dX0_writeBlocks_3 (lv_at hl 0 rfl) ?_
      refine lv_aload_n hx hb dX0_writeBlocks_5 rfl (lv_at hl 2 rfl) ?_
      refine va_alen (v := nI (acc + 1)) hx hb hK hP (k1 + 2) 2 (l_arr k1 hk1) rfl (rfl) dX0_writeBlocks_6 ?_
      refine lv_icmp_ge (tgt := 52) hx hb dX0_writeBlocks_7 (by decide) (fun _ => ?_) (fun c9 => absurd (nI_le (by omega) (by omega)) c9)
      refine lv_iconst (v := 1) hx hb dX0_writeBlocks_52 (by decide) ?_
      exact W.zret (v := 1) (ty := .boolean) hx hb hr (rfl) (fun t ht hW => ⟨⟨_, (M, x, y), rfl, by rw [dWB, ← heq]; rfl, hp_at ht hP⟩, hS.F ht⟩) hS.2.2 dX0_writeBlocks_53
    | succ n ih =>
      intro i M y H locs ls hin heq hM hP hS hl
      have hD : va_D (lA ad acc) (lW ad cI cB cO acc lm rm M x y ob) := wlD hok
      refine lv_iload hx hb dX0_writeBlocks_3 (lv_at hl 0 rfl) ?_
      refine lv_aload_n hx hb dX0_writeBlocks_5 rfl (lv_at hl 2 rfl) ?_
      refine va_alen (v := nI (acc + 1)) hx hb hK hP (k1 + 2) 2 (l_arr k1 hk1) rfl (rfl) dX0_writeBlocks_6 ?_
      refine lv_icmp_ge (tgt := 52) hx hb dX0_writeBlocks_7 (by decide) (fun c9 => absurd c9 (nI_ge (by omega) (by omega))) (fun _ => ?_)
      refine lv_iload hx hb dX0_writeBlocks_10 (lv_at hl 0 rfl) ?_
      refine lv_aload_n hx hb dX0_writeBlocks_12 rfl (lv_at hl 4 rfl) ?_
      refine va_alen (v := nI (acc + 1)) hx hb hK hP (k2 + 2) 2 (l_arr k2 hk2) rfl (rfl) dX0_writeBlocks_13 ?_
      refine lv_icmp_ge (tgt := 52) hx hb dX0_writeBlocks_14 (by decide) (fun c9 => absurd c9 (nI_ge (by omega) (by omega))) (fun _ => ?_)
      refine lv_iload_n hx hb dX0_writeBlocks_17 rfl (lv_at hl 3 rfl) ?_
      refine lv_iload hx hb dX0_writeBlocks_18 (lv_at hl 0 rfl) ?_
      refine vp_callSi (va_Run.run (va_runSN (host := RX2) (As := [.int (nI T), .int (nI i)]) (rest := []) ⟨hx, hb, hml, hown, hts⟩ (c_has l T i (by omega)) ⟨va_cnB 2 hts gX0_writeBlocks_X2_has_n58 rfl rfl rfl hN58 (hts (.initialized RX2) (by decide +kernel)) (by decide +kernel) ⟨Nat.le_of_ble_eq_true rfl, Nat.le_of_ble_eq_true rfl⟩, hts (.static yX2_has) (by decide +kernel), trivial⟩ preEq rfl rfl hl.1 rfl (lv_room (Nat.le_of_ble_eq_true rfl)) dX0_writeBlocks_20 ⟨Nat.le_of_ble_eq_true rfl, Nat.le_of_ble_eq_true rfl⟩)) (fun rb hrb => ?_)
      refine lv_if_eq (tgt := 46) hx hb dX0_writeBlocks_23 (by decide) (fun c0 => ?_) (fun c0 => ?_)
      · replace c0 : ¬ T.testBit i = true := fun q => by rw [hrb, if_pos q] at c0; exact absurd c0 (by decide)
        rw [wBl, if_neg c0] at heq
        refine lv_iinc (v := nI (i + 1)) (lv' := [(4, .int (nI (i + 1))), (0, .ref (ad 1)), (1, .ref (ad (k1 + 2))), (2, .int (nI T)), (3, .ref (ad (k2 + 2)))]) hx hb dX0_writeBlocks_46 hl (k := 0) rfl (nI_1 i) (by decide) rfl (fun ls hl => ?_)
        refine lv_goto (tgt := 3) hx hb dX0_writeBlocks_49 (by decide) ?_
        exact ih (i + 1) _ _ H locs ls (by omega) heq hM hP hS hl
      · replace c0 : T.testBit i = true := Classical.byContradiction (fun q => c0 (by rw [hrb, if_neg q]))
        rw [wBl, if_pos c0] at heq
        refine lv_aload_n hx hb dX0_writeBlocks_26 rfl (lv_at hl 1 rfl) ?_
        refine va_calli (va_runV (As := []) (rest := []) ⟨hx, hb, hml, hown, hts⟩ (c_passStop l D ad cI cB cO acc lm rm M x y ob hok) (cwV 0 hts gX0_writeBlocks_X0_passStop rfl rfl rfl (by decide +kernel) ⟨Nat.le_of_ble_eq_true rfl, Nat.le_of_ble_eq_true rfl⟩) ⟨lPc_blind, va_recv hK hP (ci := 0) (q0 := 1) rfl (wl_at (by omega)), lPc_use (hP) ⟨hK, hN⟩⟩ rfl rfl hl.1 rfl (lv_room (Nat.le_of_ble_eq_true rfl)) dX0_writeBlocks_27 ⟨Nat.le_of_ble_eq_true rfl, Nat.le_of_ble_eq_true rfl⟩) hS (fun q _ h => (fun _ h => h) q h) (fun _ h => h) (fun r _u t H1 locs ht hvm hw hB hz1 hk9 hS => ?_)
        generalize H1 = H at ht hz1 hk9 hS ⊢
        cases hw
        have hP : va_P D vwCl (lW ad cI cB cO acc lm rm M x (psZ y) ob) H := pB_at ht hB
        have hD : va_D (lA ad acc) (lW ad cI cB cO acc lm rm M x (psZ y) ob) := wlD hok
        refine lv_if_ne (tgt := 35) hx hb dX0_writeBlocks_30 (by decide) (fun c1 => ?_) (fun c1 => ?_)
        · replace c1 : ¬ y 3 = 0 := fun q => c1 (by rw [psB, if_pos q])
          rw [if_neg c1] at heq
          refine lv_aload_n hx hb dX0_writeBlocks_35 rfl (lv_at hl 2 rfl) ?_
          refine lv_iload hx hb dX0_writeBlocks_36 (lv_at hl 0 rfl) ?_
          refine va_aldq hx hb hK hP (k1 + 2) 2 (l_arr k1 hk1) rfl (vp_in_nI (by omega) (by omega)) dX0_writeBlocks_38 ?_
          refine lv_topv (y := .ref (ad (6 * i + 2 * k1 + 10))) (by rw [nI_clamp (by omega)]; rfl) ?_
          refine lv_aload_n hx hb dX0_writeBlocks_39 rfl (lv_at hl 4 rfl) ?_
          refine lv_iload hx hb dX0_writeBlocks_40 (lv_at hl 0 rfl) ?_
          refine va_aldq hx hb hK hP (k2 + 2) 2 (l_arr k2 hk2) rfl (vp_in_nI (by omega) (by omega)) dX0_writeBlocks_42 ?_
          refine lv_topv (y := .ref (ad (6 * i + 2 * k2 + 10))) (by rw [nI_clamp (by omega)]; rfl) ?_
          have hn2 := ln_p hP k1 i hk1 (by omega)
          have hn2u := va_P.app hn2 (ln_p hP k2 i hk2 (by omega))
          refine va_callv (va_runV (As := [.ref (ad (6 * i + 2 * k2 + 10))]) (rest := []) ⟨hx, hb, hml, hown, hts⟩ (c_setTo l D cI (lm + 1) (ad (6 * i + 2 * k1 + 10)) (ad (6 * i + 2 * k1 + 11)) (M k1 i) (by omega) (ln_oa (i := 6 * i + 2 * k1 + 10) hok (by omega)) (hM _ _) (ad (6 * i + 2 * k2 + 10)) (ad (6 * i + 2 * k2 + 11)) (M k2 i) (ln_ne (i := 6 * i + 2 * k1 + 10) hok (by omega) (by omega) (by omega) (by omega)) (ln_ne (i := 6 * i + 2 * k1 + 10) hok (by omega) (by omega) (by omega) (by omega)) (hM _ _)) (cwV 1 hts gX0_writeBlocks_X1_setTo rfl rfl rfl (by decide +kernel) ⟨Nat.le_of_ble_eq_true rfl, Nat.le_of_ble_eq_true rfl⟩) ⟨nPc_blind, va_recv hK hn2 (ci := 1) (q0 := 0) rfl rfl, nPc_use (hn2u) (hK.sub [0] rfl)⟩ rfl rfl hl.1 rfl (lv_room (Nat.le_of_ble_eq_true rfl)) dX0_writeBlocks_43 ⟨Nat.le_of_ble_eq_true rfl, Nat.le_of_ble_eq_true rfl⟩) hS (fun q _ h => (fun q h => lA_n (i := 6 * i + 2 * k1 + 10) (by omega) h) q h) (fun q h => lA_n (i := 6 * i + 2 * k1 + 10) (by omega) h) (fun _u t H1 locs ht hvm hw hB hz1 hk9 hS => ?_)
          have hP9 := lk_p (k := k1) (b := i) hok hk1 (by omega) hP hk9 (pB_at ht hB)
          generalize H1 = H at ht hz1 hk9 hS hP9 ⊢
          have hP : va_P D vwCl (lW ad cI cB cO acc lm rm (va_up M k1 (va_up (M k1) i (M k2 i))) x (psZ y) ob) H := hP9
          have hD : va_D (lA ad acc) (lW ad cI cB cO acc lm rm (va_up M k1 (va_up (M k1) i (M k2 i))) x (psZ y) ob) := wlD hok
          refine lv_iinc (v := nI (i + 1)) (lv' := [(4, .int (nI (i + 1))), (0, .ref (ad 1)), (1, .ref (ad (k1 + 2))), (2, .int (nI T)), (3, .ref (ad (k2 + 2)))]) hx hb dX0_writeBlocks_46 hl (k := 0) rfl (nI_1 i) (by decide) rfl (fun ls hl => ?_)
          refine lv_goto (tgt := 3) hx hb dX0_writeBlocks_49 (by decide) ?_
          exact ih (i + 1) _ _ H locs ls (by omega) heq (nOk_up hM (hM _ _)) hP hS hl
        · replace c1 : y 3 = 0 := Classical.byContradiction (fun q => absurd c1 (by rw [psB, if_neg q]; decide))
          refine lv_iconst (v := 0) hx hb dX0_writeBlocks_33 (by decide) ?_
          exact W.zret (v := 0) (ty := .boolean) hx hb hr (rfl) (fun t ht hW => ⟨⟨_, (M, x, psZ y), rfl, by rw [dWB, ← heq, if_pos c1], hp_at ht hP⟩, hS.F ht⟩) hS.2.2 dX0_writeBlocks_34
  exact loop (acc + 1) 0 N z s.heap [] ls (by omega) rfl hNk hP hS hl
end
section
set_option maxHeartbeats 4000000 in
set_option maxRecDepth 100000 in
theorem c_bringLogHome (l : Launch) (D : va_G) (ad : Nat → Nat) (cI cB cO : ClassId) (acc lm rm : Nat) (N : LN) (x : Nat → Nat) (z ob : Nat → Int32) (hok : lOk ad acc lm) (hNk : nOk lm N) (hx3 : x 3 < 33554432) : Met l yX0_bringLogHome wsX0_bringLogHome ({ frames := 3, cells := 0, slots := 0, locals := 67 }) (lPc [.ref (ad 1)] D (lW ad cI cB cO acc lm rm N x z ob) [(cI, .int), (cB, .byte), (cO, .object "BigLedger$Natural")]) (va_Qi (fun (r : Int32) (u : DS) => (r, u) = dHome acc (N, x, z)) (fun u t => va_P D vwCl (lW ad cI cB cO acc lm rm u.1 u.2.1 u.2.2 ob) t.heap) (lA ad acc)) 0 0 (lA ad acc) := by
  refine Met.ofW (cc := cX0_bringLogHome) (maxL := 1) (ret := (some .boolean)) (by decide) rfl ?_
  intro p e s m args below meth c s₁ B hml hv
  obtain ⟨rfl, hP, hK, hN⟩ := hv
  have hx := B.exec
  have hb := B.bytes
  have hr := B.returns
  have hts := atoms_spec (ws := wsX0_bringLogHome) B.pre
  have hown : s.vm.findClass RX0 = some m.cls := findClass_of_methodNamed B.named
  have hlocks := B.notSynchronized
  have hi0 : ∀ w ∈ wsX00, w ∈ wsX0_bringLogHome := by decide +kernel
  have hok1 := hok.2.1
  have hok2 := hok.2.2.1
  have hok3 := hok.2.2.2
  have hS : va_S (lA ad acc) s.heap s.heap [] := va_S.rf
  have hD : va_D (lA ad acc) (lW ad cI cB cO acc lm rm N x z ob) := wlD hok
  have hl := lv_entry ([.ref (ad 1)]) (n := 1) (Nat.le_of_ble_eq_true rfl)
  rw [lg_entry_eq]
  generalize (lg_sl ([.ref (ad 1)]) ++ List.replicate (1 - (lg_sl ([.ref (ad 1)])).length) Slot.unset).toArray = ls at hl ⊢
  have hl : lv_has ls 1 [(0, .ref (ad 1))] := hl
  refine lv_aload_n hx hb dX0_bringLogHome_0 rfl (lv_at hl 0 rfl) ?_
  refine va_get (D := D) (ci := 0) (v := .int (nI (x 3))) (C := RX0) (T := TX0) (N := 6) hx hb hts hi0 hown hK hP 1 (wl_at (by omega)) rfl 2 (by decide) (hts (.fieldLink RX0 45 "BigLedger$Disk" "committed" "I") (by decide +kernel)) (fun _ h9 => h9) rfl dX0_bringLogHome_1 ?_
  refine lv_if_ne (tgt := 9) hx hb dX0_bringLogHome_4 (by decide) (fun c0 => ?_) (fun c0 => ?_)
  · replace c0 : ¬ x 3 = 0 := fun q => c0 ((nI_eq0 (by omega)).mpr q)
    refine lv_aload_n hx hb dX0_bringLogHome_9 rfl (lv_at hl 0 rfl) ?_
    refine lv_aload_n hx hb dX0_bringLogHome_10 rfl (lv_at hl 0 rfl) ?_
    refine va_get (D := D) (ci := 0) (v := .ref (ad 3)) (C := RX0) (T := TX0) (N := 6) hx hb hts hi0 hown hK hP 1 (wl_at (by omega)) rfl 0 (by decide) (hts (.fieldLink RX0 13 "BigLedger$Disk" "home" "[LBigLedger$Natural;") (by decide +kernel)) (fun _ h9 => h9) rfl dX0_bringLogHome_11 ?_
    refine lv_aload_n hx hb dX0_bringLogHome_14 rfl (lv_at hl 0 rfl) ?_
    refine va_get (D := D) (ci := 0) (v := .int (nI (x 3))) (C := RX0) (T := TX0) (N := 6) hx hb hts hi0 hown hK hP 1 (wl_at (by omega)) rfl 2 (by decide) (hts (.fieldLink RX0 45 "BigLedger$Disk" "committed" "I") (by decide +kernel)) (fun _ h9 => h9) rfl dX0_bringLogHome_15 ?_
    refine lv_aload_n hx hb dX0_bringLogHome_18 rfl (lv_at hl 0 rfl) ?_
    refine va_get (D := D) (ci := 0) (v := .ref (ad 4)) (C := RX0) (T := TX0) (N := 6) hx hb hts hi0 hown hK hP 1 (wl_at (by omega)) rfl 1 (by decide) (hts (.fieldLink RX0 19 "BigLedger$Disk" "log" "[LBigLedger$Natural;") (by decide +kernel)) (fun _ h9 => h9) rfl dX0_bringLogHome_19 ?_
    refine va_calli (va_runV (As := [.ref (ad 3), .int (nI (x 3)), .ref (ad 4)]) (rest := []) ⟨hx, hb, hml, hown, hts⟩ (c_writeBlocks l D ad cI cB cO acc lm rm N x z ob hok 1 2 (x 3) (by decide) (by decide) (by decide) hNk) (cwV 3 hts gX0_bringLogHome_X0_writeBlocks rfl rfl rfl (by decide +kernel) ⟨Nat.le_of_ble_eq_true rfl, Nat.le_of_ble_eq_true rfl⟩) ⟨lPc_blind, va_recv hK hP (ci := 0) (q0 := 1) rfl (wl_at (by omega)), lPc_use (hP) ⟨hK, hN⟩⟩ rfl rfl hl.1 rfl (lv_room (Nat.le_of_ble_eq_true rfl)) dX0_bringLogHome_22 ⟨Nat.le_of_ble_eq_true rfl, Nat.le_of_ble_eq_true rfl⟩) hS (fun q _ h => (fun _ h => h) q h) (fun _ h => h) (fun r1 u1 t H1 locs ht hvm hw1 hB hz1 hk9 hS => ?_)
    generalize H1 = H at ht hz1 hk9 hS ⊢
    have hP : va_P D vwCl (lW ad cI cB cO acc lm rm u1.1 u1.2.1 u1.2.2 ob) H := pB_at ht hB
    have hD : va_D (lA ad acc) (lW ad cI cB cO acc lm rm u1.1 u1.2.1 u1.2.2 ob) := wlD hok
    refine lv_if_eq (tgt := 40) hx hb dX0_bringLogHome_25 (by decide) (fun c1 => ?_) (fun c1 => ?_)
    · refine lv_iconst (v := 0) hx hb dX0_bringLogHome_40 (by decide) ?_
      exact W.zret (v := 0) (ty := .boolean) hx hb hr (rfl) (fun t ht hW => ⟨⟨_, u1, rfl, by rw [dHome]; exact (if_neg c0).symm ▸ (by rw [andD, ← hw1]; exact (if_pos c1).symm), hp_at ht hP⟩, hS.F ht⟩) hS.2.2 dX0_bringLogHome_41
    · refine lv_aload_n hx hb dX0_bringLogHome_28 rfl (lv_at hl 0 rfl) ?_
      refine lv_iconst (v := 0) hx hb dX0_bringLogHome_29 (by decide) ?_
      refine lv_topi (fun y3 ey3 => ?_)
      replace ey3 : y3 = nI 0 := ey3.trans (nI_0.symm)
      subst ey3
      refine va_calli (va_runV (As := [.int (nI 0)]) (rest := []) ⟨hx, hb, hml, hown, hts⟩ (c_writeLogState l D ad cI cB cO acc lm rm u1.1 u1.2.1 u1.2.2 ob hok 0) (cwV 1 hts gX0_bringLogHome_X0_writeLogState rfl rfl rfl (by decide +kernel) ⟨Nat.le_of_ble_eq_true rfl, Nat.le_of_ble_eq_true rfl⟩) ⟨lPc_blind, va_recv hK hP (ci := 0) (q0 := 1) rfl (wl_at (by omega)), lPc_use (hP) ⟨hK, hN⟩⟩ rfl rfl hl.1 rfl (lv_room (Nat.le_of_ble_eq_true rfl)) dX0_bringLogHome_30 ⟨Nat.le_of_ble_eq_true rfl, Nat.le_of_ble_eq_true rfl⟩) hS (fun q _ h => (fun _ h => h) q h) (fun _ h => h) (fun r2 u2 t H1 locs ht hvm hw2 hB hz1 hk9 hS => ?_)
      generalize H1 = H at ht hz1 hk9 hS ⊢
      have hP : va_P D vwCl (lW ad cI cB cO acc lm rm u2.1 u2.2.1 u2.2.2 ob) H := pB_at ht hB
      have hD : va_D (lA ad acc) (lW ad cI cB cO acc lm rm u2.1 u2.2.1 u2.2.2 ob) := wlD hok
      have e9 : dHome acc (N, x, z) = (r2, u2) := by
        rw [hw2, dHome]
        refine (if_neg c0).trans ?_
        rw [andD, ← hw1]
        exact if_neg c1
      have hb2 : r2 = 0 ∨ r2 = 1 := by have h9 := dWL_b 0 (u1.1, u1.2.1, u1.2.2); rw [← hw2] at h9; exact h9
      refine lv_if_eq (tgt := 40) hx hb dX0_bringLogHome_33 (by decide) (fun c2 => ?_) (fun c2 => ?_)
      · refine lv_iconst (v := 0) hx hb dX0_bringLogHome_40 (by decide) ?_
        exact W.zret (v := 0) (ty := .boolean) hx hb hr (rfl) (fun t ht hW => ⟨⟨_, u2, rfl, by rw [e9, c2], hp_at ht hP⟩, hS.F ht⟩) hS.2.2 dX0_bringLogHome_41
      · refine lv_iconst (v := 1) hx hb dX0_bringLogHome_36 (by decide) ?_
        refine lv_goto (tgt := 41) hx hb dX0_bringLogHome_37 (by decide) ?_
        exact W.zret (v := 1) (ty := .boolean) hx hb hr (rfl) (fun t ht hW => ⟨⟨_, u2, rfl, by rw [e9, bo_1 hb2 c2], hp_at ht hP⟩, hS.F ht⟩) hS.2.2 dX0_bringLogHome_41
  · replace c0 : x 3 = 0 := (nI_eq0 (by omega)).mp c0
    refine lv_iconst (v := 1) hx hb dX0_bringLogHome_7 (by decide) ?_
    exact W.zret (v := 1) (ty := .boolean) hx hb hr (rfl) (fun t ht hW => ⟨⟨_, (N, x, z), rfl, by rw [dHome]; exact (if_pos c0).symm, hp_at ht hP⟩, hS.F ht⟩) hS.2.2 dX0_bringLogHome_8
set_option maxHeartbeats 4000000 in
set_option maxRecDepth 100000 in
theorem c_bringThroughLog (l : Launch) (D : va_G) (ad : Nat → Nat) (cI cB cO : ClassId) (acc lm rm : Nat) (N : LN) (x : Nat → Nat) (z ob : Nat → Int32) (hok : lOk ad acc lm) (T : Nat) (hT : T < 33554432) (hNk : nOk lm N) : Met l yX0_bringThroughLog wsX0_bringThroughLog ({ frames := 4, cells := 0, slots := 0, locals := 87 }) (lPc [.ref (ad 1), .int (nI T), .ref (ad 2)] D (lW ad cI cB cO acc lm rm N x z ob) [(cI, .int), (cB, .byte), (cO, .object "BigLedger$Natural")]) (va_Qi (fun (r : Int32) (u : DS) => (r, u) = dLog T acc (N, x, z)) (fun u t => va_P D vwCl (lW ad cI cB cO acc lm rm u.1 u.2.1 u.2.2 ob) t.heap) (lA ad acc)) 0 0 (lA ad acc) := by
  refine Met.ofW (cc := cX0_bringThroughLog) (maxL := 3) (ret := (some .boolean)) (by decide) rfl ?_
  intro p e s m args below meth c s₁ B hml hv
  obtain ⟨rfl, hP, hK, hN⟩ := hv
  have hx := B.exec
  have hb := B.bytes
  have hr := B.returns
  have hts := atoms_spec (ws := wsX0_bringThroughLog) B.pre
  have hown : s.vm.findClass RX0 = some m.cls := findClass_of_methodNamed B.named
  have hlocks := B.notSynchronized
  have hi0 : ∀ w ∈ wsX00, w ∈ wsX0_bringThroughLog := by decide +kernel
  have hok1 := hok.2.1
  have hok2 := hok.2.2.1
  have hok3 := hok.2.2.2
  have hS : va_S (lA ad acc) s.heap s.heap [] := va_S.rf
  have hD : va_D (lA ad acc) (lW ad cI cB cO acc lm rm N x z ob) := wlD hok
  have hl := lv_entry ([.ref (ad 1), .int (nI T), .ref (ad 2)]) (n := 3) (Nat.le_of_ble_eq_true rfl)
  rw [lg_entry_eq]
  generalize (lg_sl ([.ref (ad 1), .int (nI T), .ref (ad 2)]) ++ List.replicate (3 - (lg_sl ([.ref (ad 1), .int (nI T), .ref (ad 2)])).length) Slot.unset).toArray = ls at hl ⊢
  have hl : lv_has ls 3 [(0, .ref (ad 1)), (1, .int (nI T)), (2, .ref (ad 2))] := hl
  refine lv_iload_n hx hb dX0_bringThroughLog_0 rfl (lv_at hl 1 rfl) ?_
  refine lv_if_ne (tgt := 6) hx hb dX0_bringThroughLog_1 (by decide) (fun c0 => ?_) (fun c0 => ?_)
  · replace c0 : ¬ T = 0 := fun q => c0 ((nI_eq0 (by omega)).mpr q)
    refine lv_aload_n hx hb dX0_bringThroughLog_6 rfl (lv_at hl 0 rfl) ?_
    refine lv_aload_n hx hb dX0_bringThroughLog_7 rfl (lv_at hl 0 rfl) ?_
    refine va_get (D := D) (ci := 0) (v := .ref (ad 4)) (C := RX0) (T := TX0) (N := 6) hx hb hts hi0 hown hK hP 1 (wl_at (by omega)) rfl 1 (by decide) (hts (.fieldLink RX0 19 "BigLedger$Disk" "log" "[LBigLedger$Natural;") (by decide +kernel)) (fun _ h9 => h9) rfl dX0_bringThroughLog_8 ?_
    refine lv_iload_n hx hb dX0_bringThroughLog_11 rfl (lv_at hl 1 rfl) ?_
    refine lv_aload_n hx hb dX0_bringThroughLog_12 rfl (lv_at hl 2 rfl) ?_
    refine va_calli (va_runV (As := [.ref (ad 4), .int (nI T), .ref (ad 2)]) (rest := []) ⟨hx, hb, hml, hown, hts⟩ (c_writeBlocks l D ad cI cB cO acc lm rm N x z ob hok 2 0 T (by decide) (by decide) (by decide) hNk) (cwV 3 hts gX0_bringThroughLog_X0_writeBlocks rfl rfl rfl (by decide +kernel) ⟨Nat.le_of_ble_eq_true rfl, Nat.le_of_ble_eq_true rfl⟩) ⟨lPc_blind, va_recv hK hP (ci := 0) (q0 := 1) rfl (wl_at (by omega)), lPc_use (hP) ⟨hK, hN⟩⟩ rfl rfl hl.1 rfl (lv_room (Nat.le_of_ble_eq_true rfl)) dX0_bringThroughLog_13 ⟨Nat.le_of_ble_eq_true rfl, Nat.le_of_ble_eq_true rfl⟩) hS (fun q _ h => (fun _ h => h) q h) (fun _ h => h) (fun r1 u1 t H1 locs ht hvm hw1 hB hz1 hk9 hS => ?_)
    generalize H1 = H at ht hz1 hk9 hS ⊢
    have hP : va_P D vwCl (lW ad cI cB cO acc lm rm u1.1 u1.2.1 u1.2.2 ob) H := pB_at ht hB
    have hD : va_D (lA ad acc) (lW ad cI cB cO acc lm rm u1.1 u1.2.1 u1.2.2 ob) := wlD hok
    have hN1 : nOk lm u1.1 := by have h9 := wBl_ok 2 0 T (acc + 1) 0 N z hNk; have h8 : u1 = (dWB 2 0 T acc (N, x, z)).2 := congrArg Prod.snd hw1; rw [h8]; exact h9
    refine lv_if_eq (tgt := 38) hx hb dX0_bringThroughLog_16 (by decide) (fun c1 => ?_) (fun c1 => ?_)
    · refine lv_iconst (v := 0) hx hb dX0_bringThroughLog_38 (by decide) ?_
      exact W.zret (v := 0) (ty := .boolean) hx hb hr (rfl) (fun t ht hW => ⟨⟨_, u1, rfl, by rw [dLog]; exact (if_neg c0).symm ▸ (by rw [andD, ← hw1]; exact (if_pos c1).symm), hp_at ht hP⟩, hS.F ht⟩) hS.2.2 dX0_bringThroughLog_39
    · refine lv_aload_n hx hb dX0_bringThroughLog_19 rfl (lv_at hl 0 rfl) ?_
      refine lv_iload_n hx hb dX0_bringThroughLog_20 rfl (lv_at hl 1 rfl) ?_
      refine va_calli (va_runV (As := [.int (nI T)]) (rest := []) ⟨hx, hb, hml, hown, hts⟩ (c_writeLogState l D ad cI cB cO acc lm rm u1.1 u1.2.1 u1.2.2 ob hok T) (cwV 1 hts gX0_bringThroughLog_X0_writeLogState rfl rfl rfl (by decide +kernel) ⟨Nat.le_of_ble_eq_true rfl, Nat.le_of_ble_eq_true rfl⟩) ⟨lPc_blind, va_recv hK hP (ci := 0) (q0 := 1) rfl (wl_at (by omega)), lPc_use (hP) ⟨hK, hN⟩⟩ rfl rfl hl.1 rfl (lv_room (Nat.le_of_ble_eq_true rfl)) dX0_bringThroughLog_21 ⟨Nat.le_of_ble_eq_true rfl, Nat.le_of_ble_eq_true rfl⟩) hS (fun q _ h => (fun _ h => h) q h) (fun _ h => h) (fun r2 u2 t H1 locs ht hvm hw2 hB hz1 hk9 hS => ?_)
      generalize H1 = H at ht hz1 hk9 hS ⊢
      have hP : va_P D vwCl (lW ad cI cB cO acc lm rm u2.1 u2.2.1 u2.2.2 ob) H := pB_at ht hB
      have hD : va_D (lA ad acc) (lW ad cI cB cO acc lm rm u2.1 u2.2.1 u2.2.2 ob) := wlD hok
      have e9 : dLog T acc (N, x, z) = andD (dWL T) (dHome acc) u1 := by
        rw [dLog]
        refine (if_neg c0).trans ?_
        rw [andD, ← hw1]
        exact if_neg c1
      replace hw2 : (r2, u2) = dWL T u1 := hw2
      refine lv_if_eq (tgt := 38) hx hb dX0_bringThroughLog_24 (by decide) (fun c2 => ?_) (fun c2 => ?_)
      · refine lv_iconst (v := 0) hx hb dX0_bringThroughLog_38 (by decide) ?_
        exact W.zret (v := 0) (ty := .boolean) hx hb hr (rfl) (fun t ht hW => ⟨⟨_, u2, rfl, by rw [e9, andD, ← hw2]; exact (if_pos c2).symm, hp_at ht hP⟩, hS.F ht⟩) hS.2.2 dX0_bringThroughLog_39
      · have hN2 : nOk lm u2.1 ∧ u2.2.1 3 < 33554432 := by
          have h9 : ¬ u1.2.2 3 = 0 := fun q => by rw [dWL, if_pos q] at hw2; exact c2 (congrArg Prod.fst hw2)
          rw [dWL, if_neg h9] at hw2
          have h8 := congrArg Prod.snd hw2
          dsimp only at h8
          rw [h8]
          exact ⟨hN1, hT⟩
        refine lv_aload_n hx hb dX0_bringThroughLog_27 rfl (lv_at hl 0 rfl) ?_
        refine va_calli (va_runV (As := []) (rest := []) ⟨hx, hb, hml, hown, hts⟩ (c_bringLogHome l D ad cI cB cO acc lm rm u2.1 u2.2.1 u2.2.2 ob hok hN2.1 hN2.2) (cwV 0 hts gX0_bringThroughLog_X0_bringLogHome rfl rfl rfl (by decide +kernel) ⟨Nat.le_of_ble_eq_true rfl, Nat.le_of_ble_eq_true rfl⟩) ⟨lPc_blind, va_recv hK hP (ci := 0) (q0 := 1) rfl (wl_at (by omega)), lPc_use (hP) ⟨hK, hN⟩⟩ rfl rfl hl.1 rfl (lv_room (Nat.le_of_ble_eq_true rfl)) dX0_bringThroughLog_28 ⟨Nat.le_of_ble_eq_true rfl, Nat.le_of_ble_eq_true rfl⟩) hS (fun q _ h => (fun _ h => h) q h) (fun _ h => h) (fun r3 u3 t H1 locs ht hvm hw3 hB hz1 hk9 hS => ?_)
        generalize H1 = H at ht hz1 hk9 hS ⊢
        have hP : va_P D vwCl (lW ad cI cB cO acc lm rm u3.1 u3.2.1 u3.2.2 ob) H := pB_at ht hB
        have hD : va_D (lA ad acc) (lW ad cI cB cO acc lm rm u3.1 u3.2.1 u3.2.2 ob) := wlD hok
        replace hw3 : (r3, u3) = dHome acc u2 := hw3
        have e8 : dLog T acc (N, x, z) = (r3, u3) := by
          rw [hw3, e9, andD, ← hw2]
          exact if_neg c2
        have hb3 : r3 = 0 ∨ r3 = 1 := by have h9 := dHome_b acc u2; rw [← hw3] at h9; exact h9
        refine lv_if_eq (tgt := 38) hx hb dX0_bringThroughLog_31 (by decide) (fun c3 => ?_) (fun c3 => ?_)
        · refine lv_iconst (v := 0) hx hb dX0_bringThroughLog_38 (by decide) ?_
          exact W.zret (v := 0) (ty := .boolean) hx hb hr (rfl) (fun t ht hW => ⟨⟨_, u3, rfl, by rw [e8, c3], hp_at ht hP⟩, hS.F ht⟩) hS.2.2 dX0_bringThroughLog_39
        · refine lv_iconst (v := 1) hx hb dX0_bringThroughLog_34 (by decide) ?_
          refine lv_goto (tgt := 39) hx hb dX0_bringThroughLog_35 (by decide) ?_
          exact W.zret (v := 1) (ty := .boolean) hx hb hr (rfl) (fun t ht hW => ⟨⟨_, u3, rfl, by rw [e8, bo_1 hb3 c3], hp_at ht hP⟩, hS.F ht⟩) hS.2.2 dX0_bringThroughLog_39
  · replace c0 : T = 0 := (nI_eq0 (by omega)).mp c0
    refine lv_iconst (v := 1) hx hb dX0_bringThroughLog_4 (by decide) ?_
    exact W.zret (v := 1) (ty := .boolean) hx hb hr (rfl) (fun t ht hW => ⟨⟨_, (N, x, z), rfl, by rw [dLog]; exact (if_pos c0).symm, hp_at ht hP⟩, hS.F ht⟩) hS.2.2 dX0_bringThroughLog_5
set_option maxHeartbeats 4000000 in
set_option maxRecDepth 100000 in
theorem c_layOut (l : Launch) (D : va_G) (ad : Nat → Nat) (cI cB cO : ClassId) (acc lm rm : Nat) (N : LN) (x : Nat → Nat) (z ob : Nat → Int32) (hok : lOk ad acc lm) (hNk : nOk lm N) : Met l yX0_layOut wsX0_layOut ({ frames := 2, cells := 0, slots := 0, locals := 42 }) (lPc [.ref (ad 1)] D (lW ad cI cB cO acc lm rm N x z ob) [(cI, .int), (cB, .byte), (cO, .object "BigLedger$Natural")]) (va_Qi (fun (r : Int32) (u : DS) => (r, u) = dLay acc (N, x, z)) (fun u t => va_P D vwCl (lW ad cI cB cO acc lm rm u.1 u.2.1 u.2.2 ob) t.heap) (lA ad acc)) 0 0 (lA ad acc) := by
  refine Met.ofW (cc := cX0_layOut) (maxL := 1) (ret := (some .boolean)) (by decide) rfl ?_
  intro p e s m args below meth c s₁ B hml hv
  obtain ⟨rfl, hP, hK, hN⟩ := hv
  have hx := B.exec
  have hb := B.bytes
  have hr := B.returns
  have hts := atoms_spec (ws := wsX0_layOut) B.pre
  have hown : s.vm.findClass RX0 = some m.cls := findClass_of_methodNamed B.named
  have hlocks := B.notSynchronized
  have hi0 : ∀ w ∈ wsX00, w ∈ wsX0_layOut := by decide +kernel
  have hok1 := hok.2.1
  have hok2 := hok.2.2.1
  have hok3 := hok.2.2.2
  have hS : va_S (lA ad acc) s.heap s.heap [] := va_S.rf
  have hD : va_D (lA ad acc) (lW ad cI cB cO acc lm rm N x z ob) := wlD hok
  have hl := lv_entry ([.ref (ad 1)]) (n := 1) (Nat.le_of_ble_eq_true rfl)
  rw [lg_entry_eq]
  generalize (lg_sl ([.ref (ad 1)]) ++ List.replicate (1 - (lg_sl ([.ref (ad 1)])).length) Slot.unset).toArray = ls at hl ⊢
  have hl : lv_has ls 1 [(0, .ref (ad 1))] := hl
  refine lv_aload_n hx hb dX0_layOut_0 rfl (lv_at hl 0 rfl) ?_
  refine lv_iconst (v := 0) hx hb dX0_layOut_1 (by decide) ?_
  refine va_calli (va_runV (As := [.int ((0 : Int32))]) (rest := []) ⟨hx, hb, hml, hown, hts⟩ (c_writeFormatted l D ad cI cB cO acc lm rm N x z ob hok 0 (Or.inl rfl)) (cwV 1 hts gX0_layOut_X0_writeFormatted rfl rfl rfl (by decide +kernel) ⟨Nat.le_of_ble_eq_true rfl, Nat.le_of_ble_eq_true rfl⟩) ⟨lPc_blind, va_recv hK hP (ci := 0) (q0 := 1) rfl (wl_at (by omega)), lPc_use (hP) ⟨hK, hN⟩⟩ rfl rfl hl.1 rfl (lv_room (Nat.le_of_ble_eq_true rfl)) dX0_layOut_2 ⟨Nat.le_of_ble_eq_true rfl, Nat.le_of_ble_eq_true rfl⟩) hS (fun q _ h => (fun _ h => h) q h) (fun _ h => h) (fun r1 u1 t H1 locs ht hvm hw1 hB hz1 hk9 hS => ?_)
  generalize H1 = H at ht hz1 hk9 hS ⊢
  have hP : va_P D vwCl (lW ad cI cB cO acc lm rm u1.1 u1.2.1 u1.2.2 ob) H := pB_at ht hB
  have hD : va_D (lA ad acc) (lW ad cI cB cO acc lm rm u1.1 u1.2.1 u1.2.2 ob) := wlD hok
  have hN1 : nOk lm u1.1 := by
    have h8 : u1 = (dWF 0 (N, x, z)).2 := congrArg Prod.snd hw1
    rw [h8, dWF]
    split <;> exact hNk
  refine lv_if_eq (tgt := 35) hx hb dX0_layOut_5 (by decide) (fun c1 => ?_) (fun c1 => ?_)
  · refine lv_iconst (v := 0) hx hb dX0_layOut_35 (by decide) ?_
    exact W.zret (v := 0) (ty := .boolean) hx hb hr (rfl) (fun t ht hW => ⟨⟨_, u1, rfl, by rw [dLay, andD, ← hw1]; exact (if_pos c1).symm, hp_at ht hP⟩, hS.F ht⟩) hS.2.2 dX0_layOut_36
  · refine lv_aload_n hx hb dX0_layOut_8 rfl (lv_at hl 0 rfl) ?_
    refine lv_iconst (v := 0) hx hb dX0_layOut_9 (by decide) ?_
    refine lv_topi (fun y4 ey4 => ?_)
    replace ey4 : y4 = nI 0 := ey4.trans (nI_0.symm)
    subst ey4
    refine va_calli (va_runV (As := [.int (nI 0)]) (rest := []) ⟨hx, hb, hml, hown, hts⟩ (c_writeLogState l D ad cI cB cO acc lm rm u1.1 u1.2.1 u1.2.2 ob hok 0) (cwV 1 hts gX0_layOut_X0_writeLogState rfl rfl rfl (by decide +kernel) ⟨Nat.le_of_ble_eq_true rfl, Nat.le_of_ble_eq_true rfl⟩) ⟨lPc_blind, va_recv hK hP (ci := 0) (q0 := 1) rfl (wl_at (by omega)), lPc_use (hP) ⟨hK, hN⟩⟩ rfl rfl hl.1 rfl (lv_room (Nat.le_of_ble_eq_true rfl)) dX0_layOut_10 ⟨Nat.le_of_ble_eq_true rfl, Nat.le_of_ble_eq_true rfl⟩) hS (fun q _ h => (fun _ h => h) q h) (fun _ h => h) (fun r2 u2 t H1 locs ht hvm hw2 hB hz1 hk9 hS => ?_)
    generalize H1 = H at ht hz1 hk9 hS ⊢
    have hP : va_P D vwCl (lW ad cI cB cO acc lm rm u2.1 u2.2.1 u2.2.2 ob) H := pB_at ht hB
    have hD : va_D (lA ad acc) (lW ad cI cB cO acc lm rm u2.1 u2.2.1 u2.2.2 ob) := wlD hok
    replace hw2 : (r2, u2) = dWL 0 u1 := hw2
    have hN2 : nOk lm u2.1 := by
      have h8 : u2 = (dWL 0 u1).2 := congrArg Prod.snd hw2
      rw [h8, dWL]
      split <;> exact hN1
    have e1 : dLay acc (N, x, z) = andD (dWL 0) (andD (dCl acc) (dWF 1)) u1 := by
      rw [dLay, andD, ← hw1]
      exact if_neg c1
    refine lv_if_eq (tgt := 35) hx hb dX0_layOut_13 (by decide) (fun c2 => ?_) (fun c2 => ?_)
    · refine lv_iconst (v := 0) hx hb dX0_layOut_35 (by decide) ?_
      exact W.zret (v := 0) (ty := .boolean) hx hb hr (rfl) (fun t ht hW => ⟨⟨_, u2, rfl, by rw [e1, andD, ← hw2]; exact (if_pos c2).symm, hp_at ht hP⟩, hS.F ht⟩) hS.2.2 dX0_layOut_36
    · refine lv_aload_n hx hb dX0_layOut_16 rfl (lv_at hl 0 rfl) ?_
      refine va_calli (va_runV (As := []) (rest := []) ⟨hx, hb, hml, hown, hts⟩ (c_clearHomes l D ad cI cB cO acc lm rm u2.1 u2.2.1 u2.2.2 ob hok hN2) (cwV 0 hts gX0_layOut_X0_clearHomes rfl rfl rfl (by decide +kernel) ⟨Nat.le_of_ble_eq_true rfl, Nat.le_of_ble_eq_true rfl⟩) ⟨lPc_blind, va_recv hK hP (ci := 0) (q0 := 1) rfl (wl_at (by omega)), lPc_use (hP) ⟨hK, hN⟩⟩ rfl rfl hl.1 rfl (lv_room (Nat.le_of_ble_eq_true rfl)) dX0_layOut_17 ⟨Nat.le_of_ble_eq_true rfl, Nat.le_of_ble_eq_true rfl⟩) hS (fun q _ h => (fun _ h => h) q h) (fun _ h => h) (fun r3 u3 t H1 locs ht hvm hw3 hB hz1 hk9 hS => ?_)
      generalize H1 = H at ht hz1 hk9 hS ⊢
      have hP : va_P D vwCl (lW ad cI cB cO acc lm rm u3.1 u3.2.1 u3.2.2 ob) H := pB_at ht hB
      have hD : va_D (lA ad acc) (lW ad cI cB cO acc lm rm u3.1 u3.2.1 u3.2.2 ob) := wlD hok
      replace hw3 : (r3, u3) = dCl acc u2 := hw3
      have e2 : dLay acc (N, x, z) = andD (dCl acc) (dWF 1) u2 := by
        rw [e1, andD, ← hw2]
        exact if_neg c2
      refine lv_if_eq (tgt := 35) hx hb dX0_layOut_20 (by decide) (fun c3 => ?_) (fun c3 => ?_)
      · refine lv_iconst (v := 0) hx hb dX0_layOut_35 (by decide) ?_
        exact W.zret (v := 0) (ty := .boolean) hx hb hr (rfl) (fun t ht hW => ⟨⟨_, u3, rfl, by rw [e2, andD, ← hw3]; exact (if_pos c3).symm, hp_at ht hP⟩, hS.F ht⟩) hS.2.2 dX0_layOut_36
      · refine lv_aload_n hx hb dX0_layOut_23 rfl (lv_at hl 0 rfl) ?_
        refine lv_iconst (v := 1) hx hb dX0_layOut_24 (by decide) ?_
        refine va_calli (va_runV (As := [.int ((1 : Int32))]) (rest := []) ⟨hx, hb, hml, hown, hts⟩ (c_writeFormatted l D ad cI cB cO acc lm rm u3.1 u3.2.1 u3.2.2 ob hok 1 (Or.inr rfl)) (cwV 1 hts gX0_layOut_X0_writeFormatted rfl rfl rfl (by decide +kernel) ⟨Nat.le_of_ble_eq_true rfl, Nat.le_of_ble_eq_true rfl⟩) ⟨lPc_blind, va_recv hK hP (ci := 0) (q0 := 1) rfl (wl_at (by omega)), lPc_use (hP) ⟨hK, hN⟩⟩ rfl rfl hl.1 rfl (lv_room (Nat.le_of_ble_eq_true rfl)) dX0_layOut_25 ⟨Nat.le_of_ble_eq_true rfl, Nat.le_of_ble_eq_true rfl⟩) hS (fun q _ h => (fun _ h => h) q h) (fun _ h => h) (fun r4 u4 t H1 locs ht hvm hw4 hB hz1 hk9 hS => ?_)
        generalize H1 = H at ht hz1 hk9 hS ⊢
        have hP : va_P D vwCl (lW ad cI cB cO acc lm rm u4.1 u4.2.1 u4.2.2 ob) H := pB_at ht hB
        have hD : va_D (lA ad acc) (lW ad cI cB cO acc lm rm u4.1 u4.2.1 u4.2.2 ob) := wlD hok
        replace hw4 : (r4, u4) = dWF 1 u3 := hw4
        have e3 : dLay acc (N, x, z) = (r4, u4) := by
          rw [hw4, e2, andD, ← hw3]
          exact if_neg c3
        have hb4 : r4 = 0 ∨ r4 = 1 := by have h9 := dWF_b 1 u3; rw [← hw4] at h9; exact h9
        refine lv_if_eq (tgt := 35) hx hb dX0_layOut_28 (by decide) (fun c4 => ?_) (fun c4 => ?_)
        · refine lv_iconst (v := 0) hx hb dX0_layOut_35 (by decide) ?_
          exact W.zret (v := 0) (ty := .boolean) hx hb hr (rfl) (fun t ht hW => ⟨⟨_, u4, rfl, by rw [e3, c4], hp_at ht hP⟩, hS.F ht⟩) hS.2.2 dX0_layOut_36
        · refine lv_iconst (v := 1) hx hb dX0_layOut_31 (by decide) ?_
          refine lv_goto (tgt := 36) hx hb dX0_layOut_32 (by decide) ?_
          exact W.zret (v := 1) (ty := .boolean) hx hb hr (rfl) (fun t ht hW => ⟨⟨_, u4, rfl, by rw [e3, bo_1 hb4 c4], hp_at ht hP⟩, hS.F ht⟩) hS.2.2 dX0_layOut_36
end
section
/-! counting bits as the JDK does -/
theorem and_byte {X Y : Nat} : X &&& Y = (X % 256 &&& Y % 256) + 256 * (X / 256 &&& Y / 256) := by
  have h1 : (X &&& Y) % 2 ^ 8 = X % 2 ^ 8 &&& Y % 2 ^ 8 := Nat.and_mod_two_pow
  have h2 : (X &&& Y) / 2 ^ 8 = X / 2 ^ 8 &&& Y / 2 ^ 8 := Nat.and_div_two_pow
  have h3 := Nat.mod_add_div (X &&& Y) 256
  rw [show (256 : Nat) = 2 ^ 8 by decide]
  rw [← h1, ← h2]
  exact h3.symm
theorem and_4 {X m : Nat} (hX : X < 4294967296) (a b c d : Nat) (ha : a < 256) (hb : b < 256) (hc : c < 256) (hd : d < 256) (hm : m < 256) (e : X = a + 256 * b + 65536 * c + 16777216 * d) : X &&& (m + 256 * m + 65536 * m + 16777216 * m) = (a &&& m) + 256 * (b &&& m) + 65536 * (c &&& m) + 16777216 * (d &&& m) := by
  rw [and_byte]
  rw [show X % 256 = a by omega, show X / 256 = b + 256 * c + 65536 * d by omega, show (m + 256 * m + 65536 * m + 16777216 * m) % 256 = m by omega, show (m + 256 * m + 65536 * m + 16777216 * m) / 256 = m + 256 * m + 65536 * m by omega]
  rw [and_byte (X := b + 256 * c + 65536 * d)]
  rw [show (b + 256 * c + 65536 * d) % 256 = b by omega, show (b + 256 * c + 65536 * d) / 256 = c + 256 * d by omega, show (m + 256 * m + 65536 * m) % 256 = m by omega, show (m + 256 * m + 65536 * m) / 256 = m + 256 * m by omega]
  rw [and_byte (X := c + 256 * d)]
  rw [show (c + 256 * d) % 256 = c by omega, show (c + 256 * d) / 256 = d by omega, show (m + 256 * m) % 256 = m by omega, show (m + 256 * m) / 256 = m by omega]
  generalize a &&& m = A
  generalize b &&& m = B
  generalize c &&& m = C
  generalize d &&& m = E
  omega
def ct8 (x : Nat) : Nat := fb_ct (fun i => x.testBit i) 8
theorem by1 : ∀ x, x < 256 → ∀ t, t < 2 → (x / 2 + 128 * t) &&& 85 = (x / 2) &&& 85 := by decide +kernel
theorem by1l : ∀ x, x < 256 → (x / 2) &&& 85 ≤ x := by decide +kernel
theorem by2 : ∀ x, x < 256 → ∀ t, t < 4 → (x / 4 + 64 * t) &&& 51 = (x / 4) &&& 51 := by decide +kernel
def st1 (x : Nat) : Nat := x - ((x / 2) &&& 85)
def st2 (y : Nat) : Nat := (y &&& 51) + ((y / 4) &&& 51)
theorem st1_lt : ∀ x, x < 256 → st1 x < 256 := by decide +kernel
theorem st2_le : ∀ x, x < 256 → st2 (st1 x) ≤ 68 := by decide +kernel
theorem st2_m : ∀ x, x < 256 → st2 (st1 x) % 16 ≤ 4 := by decide +kernel
theorem by3 : ∀ x, x < 256 → ∀ t, t < 16 → (st2 (st1 x) + st2 (st1 x) / 16 + 16 * t) &&& 15 = ct8 x := by decide +kernel
theorem ct8_le : ∀ x, x < 256 → ct8 x ≤ 8 := by decide +kernel
def bcn (n : Nat) : Nat := ct8 (n % 256) + ct8 (n / 256 % 256) + ct8 (n / 65536 % 256) + ct8 (n / 16777216 % 256)
theorem bc_1 {n a b c d : Nat} (ha : a < 256) (hb : b < 256) (hc : c < 256) (hd : d < 256) (e : n = a + 256 * b + 65536 * c + 16777216 * d) : n / 2 &&& 1431655765 = (a / 2 &&& 85) + 256 * (b / 2 &&& 85) + 65536 * (c / 2 &&& 85) + 16777216 * (d / 2 &&& 85) := by
  have h := and_4 (X := n / 2) (m := 85) (by omega) (a / 2 + 128 * (b % 2)) (b / 2 + 128 * (c % 2)) (c / 2 + 128 * (d % 2)) (d / 2) (by omega) (by omega) (by omega) (by omega) (by decide) (by omega)
  rw [by1 _ ha _ (by omega), by1 _ hb _ (by omega), by1 _ hc _ (by omega)] at h
  exact h
theorem bc_1b {n a b c d : Nat} (ha : a < 256) (hb : b < 256) (hc : c < 256) (hd : d < 256) (e : n = a + 256 * b + 65536 * c + 16777216 * d) : n - (n / 2 &&& 1431655765) = st1 a + 256 * st1 b + 65536 * st1 c + 16777216 * st1 d := by
  rw [bc_1 ha hb hc hd e]
  have h1 := by1l a ha
  have h2 := by1l b hb
  have h3 := by1l c hc
  have h4 := by1l d hd
  unfold st1
  generalize (a / 2 &&& 85) = A at h1
  generalize (b / 2 &&& 85) = B at h2
  generalize (c / 2 &&& 85) = C at h3
  generalize (d / 2 &&& 85) = D at h4
  omega
theorem bc_1le {n a b c d : Nat} (ha : a < 256) (hb : b < 256) (hc : c < 256) (hd : d < 256) (e : n = a + 256 * b + 65536 * c + 16777216 * d) : n / 2 &&& 1431655765 ≤ n := by
  rw [bc_1 ha hb hc hd e]
  have h1 := by1l a ha
  have h2 := by1l b hb
  have h3 := by1l c hc
  have h4 := by1l d hd
  generalize (a / 2 &&& 85) = A at h1
  generalize (b / 2 &&& 85) = B at h2
  generalize (c / 2 &&& 85) = C at h3
  generalize (d / 2 &&& 85) = D at h4
  omega
theorem bc_2 {y a b c d : Nat} (ha : a < 256) (hb : b < 256) (hc : c < 256) (hd : d < 256) (e : y = a + 256 * b + 65536 * c + 16777216 * d) : (y &&& 858993459) + (y / 4 &&& 858993459) = st2 a + 256 * st2 b + 65536 * st2 c + 16777216 * st2 d := by
  have h1 := and_4 (X := y) (m := 51) (by omega) a b c d ha hb hc hd (by decide) e
  have h2 := and_4 (X := y / 4) (m := 51) (by omega) (a / 4 + 64 * (b % 4)) (b / 4 + 64 * (c % 4)) (c / 4 + 64 * (d % 4)) (d / 4) (by omega) (by omega) (by omega) (by omega) (by decide) (by omega)
  rw [by2 _ ha _ (by omega), by2 _ hb _ (by omega), by2 _ hc _ (by omega)] at h2
  show (y &&& (51 + 256 * 51 + 65536 * 51 + 16777216 * 51)) + (y / 4 &&& (51 + 256 * 51 + 65536 * 51 + 16777216 * 51)) = _
  rw [h1, h2]
  unfold st2
  omega
theorem bc_3 {x0 x1 x2 x3 : Nat} (h0 : x0 < 256) (h1 : x1 < 256) (h2 : x2 < 256) (h3 : x3 < 256) {y : Nat} (e : y = st2 (st1 x0) + 256 * st2 (st1 x1) + 65536 * st2 (st1 x2) + 16777216 * st2 (st1 x3)) : (y + y / 16 &&& 252645135) = ct8 x0 + 256 * ct8 x1 + 65536 * ct8 x2 + 16777216 * ct8 x3 := by
  have l0 := st2_le x0 h0
  have l1 := st2_le x1 h1
  have l2 := st2_le x2 h2
  have l3 := st2_le x3 h3
  have m1 := st2_m x1 h1
  have m2 := st2_m x2 h2
  have m3 := st2_m x3 h3
  have h := and_4 (X := y + y / 16) (m := 15) (by omega) (st2 (st1 x0) + st2 (st1 x0) / 16 + 16 * (st2 (st1 x1) % 16)) (st2 (st1 x1) + st2 (st1 x1) / 16 + 16 * (st2 (st1 x2) % 16)) (st2 (st1 x2) + st2 (st1 x2) / 16 + 16 * (st2 (st1 x3) % 16)) (st2 (st1 x3) + st2 (st1 x3) / 16 + 16 * 0) (by omega) (by omega) (by omega) (by omega) (by decide) (by omega)
  rw [by3 x0 h0 _ (by omega), by3 x1 h1 _ (by omega), by3 x2 h2 _ (by omega), by3 x3 h3 _ (by omega)] at h
  exact h
theorem bc_4 {A B C D y : Nat} (hA : A ≤ 8) (hB : B ≤ 8) (hC : C ≤ 8) (hD : D ≤ 8) (e : y = A + 256 * B + 65536 * C + 16777216 * D) : ((y + y / 256) + (y + y / 256) / 65536) &&& 63 = A + B + C + D := by
  have h : ((y + y / 256) + (y + y / 256) / 65536) &&& 63 = ((y + y / 256) + (y + y / 256) / 65536) % 2 ^ 6 := Nat.and_two_pow_sub_one_eq_mod _ 6
  rw [h]
  have e1 : y / 256 = B + 256 * C + 65536 * D := by omega
  have e2 : (y + y / 256) / 65536 = C + D + 256 * D := by rw [e1, e]; omega
  rw [e2, e1, e]
  omega
theorem fb_ct_low (n m : Nat) : fb_ct (fun i => n.testBit i) m = fb_ct (fun i => (n % 2 ^ m).testBit i) m := fb_ct_cong (fun k hk => by rw [Nat.testBit_mod_two_pow]; simp [hk])
theorem bcn_ct (n : Nat) : bcn n = fb_ct (fun i => n.testBit i) 32 := by
  have key : ∀ (n m : Nat), fb_ct (fun i => n.testBit i) (8 + m) = ct8 (n % 256) + fb_ct (fun i => (n / 256).testBit i) m := by
    intro n m
    rw [fb_ct_split, fb_ct_low n 8]
    congr 1
    exact fb_ct_cong (fun k _ => by rw [show (256 : Nat) = 2 ^ 8 by decide, Nat.testBit_div_two_pow]; congr 1; omega)
  rw [show 32 = 8 + (8 + (8 + (8 + 0))) by decide, key, key, key, key]
  unfold bcn
  rw [Nat.div_div_eq_div_mul, Nat.div_div_eq_div_mul, Nat.div_div_eq_div_mul]
  simp [fb_ct]
  omega
/-! the ledger's own acts -/
def isAcc (acc : Nat) (p : Int32) : Bool := decide (¬ p < 0) && decide (¬ nI acc ≤ p)
theorem isAcc_t {acc : Nat} {p : Int32} (ha : acc < 2 ^ 31) (h : isAcc acc p = true) : ∃ b, b < acc ∧ p = nI b := by
  unfold isAcc at h
  rw [Bool.and_eq_true, decide_eq_true_eq, decide_eq_true_eq] at h
  obtain ⟨j, hj, rfl⟩ := nI_of h.1
  exact ⟨j, Nat.lt_of_not_le (fun q => h.2 (nI_le q hj)), rfl⟩
theorem isAcc_nI {acc b : Nat} (ha : acc < 2 ^ 31) (h : b < acc) : isAcc acc (nI b) = true := by
  unfold isAcc
  rw [Bool.and_eq_true, decide_eq_true_eq, decide_eq_true_eq]
  exact ⟨nI_pos (by omega), nI_ge h ha⟩
def sk (x : Nat → Nat) (b : Nat) : Nat := if (x 2).testBit b = true then 0 else 1
theorem sk_lt (x : Nat → Nat) (b : Nat) : sk x b < 2 := by unfold sk; split <;> omega
def sv (N : LN) (x : Nat → Nat) (b : Nat) : Nat := N (sk x b) b
def tN (N : LN) (x : Nat → Nat) (b : Nat) : LN := if (x 2).testBit b = true then N else va_up N 0 (va_up (N 0) b (N 1 b))
def tX (x : Nat → Nat) (b : Nat) : Nat → Nat := if (x 2).testBit b = true then x else va_up x 2 (x 2 ||| 2 ^ b)
theorem tN_at (N : LN) (x : Nat → Nat) (b : Nat) : tN N x b 0 b = sv N x b := by
  unfold tN sv sk
  split
  · rfl
  · rw [va_up_self, va_up_self]
theorem tX_ne (x : Nat → Nat) (b : Nat) {k : Nat} (h : k ≠ 2) : tX x b k = x k := by
  unfold tX
  split
  · rfl
  · rw [va_up_ne _ _ h]
theorem tX_bit (x : Nat → Nat) (b i : Nat) : (tX x b 2).testBit i = ((x 2).testBit i || decide (i = b)) := by
  unfold tX
  split
  · next h =>
    by_cases e : i = b
    · subst e; rw [h]; simp
    · simp [e]
  · rw [va_up_self, fb_bit_set]
theorem tX_lt {x : Nat → Nat} {b : Nat} (h : x 2 < 33554432) (hb : b < 25) : tX x b 2 < 33554432 := by
  unfold tX
  split
  · exact h
  · rw [va_up_self]
    exact Nat.or_lt_two_pow (n := 25) h (Nat.pow_lt_pow_right (by decide) hb)
theorem nOk_tN {lm : Nat} {N : LN} (h : nOk lm N) (x : Nat → Nat) (b : Nat) : nOk lm (tN N x b) := by
  unfold tN
  split
  · exact h
  · exact nOk_up h (h _ _)
def iN (N : LN) (x : Nat → Nat) (b : Nat) : LN := va_up (tN N x b) 0 (va_up (tN N x b 0) b (tN N x b 0 b + tX x b 0))
def eN (N : LN) (x : Nat → Nat) (b : Nat) : LN := va_up (tN N x b) 0 (va_up (tN N x b 0) b (tN N x b 0 b - tX x b 0))
theorem tN_ne (N : LN) (x : Nat → Nat) {b c : Nat} (h : c ≠ b) (k : Nat) : tN N x b k c = N k c := by
  unfold tN
  split
  · rfl
  · by_cases hk : k = 0
    · subst hk; rw [va_up_self, va_up_ne _ _ h]
    · rw [va_up_ne _ _ hk]
theorem sk_tX_ne (x : Nat → Nat) {b c : Nat} (h : c ≠ b) : sk (tX x b) c = sk x c := by
  unfold sk
  rw [tX_bit]
  simp [h]
theorem sk_tX (x : Nat → Nat) (b : Nat) : sk (tX x b) b = 0 := by
  unfold sk
  rw [tX_bit]
  simp
theorem sv_iN_ne (N : LN) (x : Nat → Nat) {b c : Nat} (h : c ≠ b) : sv (iN N x b) (tX x b) c = sv N x c := by
  unfold sv
  rw [sk_tX_ne x h]
  unfold iN
  by_cases hk : sk x c = 0
  · rw [hk, va_up_self, va_up_ne _ _ h, tN_ne N x h]
  · rw [va_up_ne _ _ hk, tN_ne N x h]
theorem sv_eN_ne (N : LN) (x : Nat → Nat) {b c : Nat} (h : c ≠ b) : sv (eN N x b) (tX x b) c = sv N x c := by
  unfold sv
  rw [sk_tX_ne x h]
  unfold eN
  by_cases hk : sk x c = 0
  · rw [hk, va_up_self, va_up_ne _ _ h, tN_ne N x h]
  · rw [va_up_ne _ _ hk, tN_ne N x h]
theorem sv_iN (N : LN) (x : Nat → Nat) (b : Nat) : sv (iN N x b) (tX x b) b = sv N x b + x 0 := by
  unfold sv
  rw [sk_tX]
  unfold iN
  rw [va_up_self, va_up_self, tN_at, tX_ne x b (by decide)]
  rfl
theorem sv_eN (N : LN) (x : Nat → Nat) (b : Nat) : sv (eN N x b) (tX x b) b = sv N x b - x 0 := by
  unfold sv
  rw [sk_tX]
  unfold eN
  rw [va_up_self, va_up_self, tN_at, tX_ne x b (by decide)]
  rfl
theorem sv_x1 (N : LN) (x : Nat → Nat) (b v : Nat) : sv N (va_up x 1 v) b = sv N x b := rfl
def ctb (T : Nat) : Nat := fb_ct (fun i => T.testBit i) 32
def cLose (x : Nat → Nat) : Nat → Nat := va_up (va_up x 2 0) 0 0
def cFormat (acc : Nat) (S : DS) : Int32 × DS := ((dLay acc (S.1, cLose S.2.1, S.2.2)).1, (dLay acc (S.1, cLose S.2.1, S.2.2)).2.1, (dLay acc (S.1, cLose S.2.1, S.2.2)).2.2.1, va_up (dLay acc (S.1, cLose S.2.1, S.2.2)).2.2.2 0 (dLay acc (S.1, cLose S.2.1, S.2.2)).1)
def cRecover (acc : Nat) (S : DS) : Int32 × DS := if S.2.2 1 = 0 then (0, S.1, cLose S.2.1, va_up S.2.2 0 0) else ((dHome acc (S.1, cLose S.2.1, S.2.2)).1, (dHome acc (S.1, cLose S.2.1, S.2.2)).2.1, (dHome acc (S.1, cLose S.2.1, S.2.2)).2.2.1, va_up (dHome acc (S.1, cLose S.2.1, S.2.2)).2.2.2 0 (dHome acc (S.1, cLose S.2.1, S.2.2)).1)
def cCommit (acc : Nat) (S : DS) : Int32 × DS := if S.2.2 0 = 0 then (6, S) else if (dLog (S.2.1 2) acc S).1 = 0 then (6, (dLog (S.2.1 2) acc S).2.1, cLose (dLog (S.2.1 2) acc S).2.2.1, va_up (dLog (S.2.1 2) acc S).2.2.2 0 0) else (0, (dLog (S.2.1 2) acc S).2.1, va_up (dLog (S.2.1 2) acc S).2.2.1 2 0, (dLog (S.2.1 2) acc S).2.2.2)
def cAbort (S : DS) : Int32 × DS := if S.2.2 0 = 0 then (0, S) else (1, S.1, va_up S.2.1 2 0, S.2.2)
def cClear (S : DS) : Int32 × DS := if S.2.2 0 = 0 then (0, S) else (1, S.1, va_up S.2.1 0 0, S.2.2)
def cAmLimb (lm : Nat) (p : Int32) (S : DS) : Int32 × DS := if S.2.2 0 = 0 then (0, S) else if p < 0 then (0, S) else if szF (S.2.1 0) (lm + 1) < lm then (1, S.1, va_up S.2.1 0 (S.2.1 0 * 2147483648 + p.toNatClampNeg), S.2.2) else (0, S)
def cDep (acc lm rm : Nat) (p : Int32) (S : DS) : Int32 × DS :=
  if S.2.2 0 = 0 then (6, S) else if ¬ isAcc acc p = true then (1, S) else
  if lm < szF (sv S.1 S.2.1 p.toNatClampNeg + S.2.1 0) (lm + 1) then (3, S.1, va_up S.2.1 1 (sv S.1 S.2.1 p.toNatClampNeg + S.2.1 0), S.2.2) else
  if ¬ ctb ((S.2.1 2 ||| 2 ^ p.toNatClampNeg) ||| 2 ^ acc) ≤ rm then (4, S.1, va_up S.2.1 1 (sv S.1 S.2.1 p.toNatClampNeg + S.2.1 0), S.2.2) else
  (0, iN (iN S.1 (va_up S.2.1 1 (sv S.1 S.2.1 p.toNatClampNeg + S.2.1 0)) p.toNatClampNeg) (tX (va_up S.2.1 1 (sv S.1 S.2.1 p.toNatClampNeg + S.2.1 0)) p.toNatClampNeg) acc, tX (tX (va_up S.2.1 1 (sv S.1 S.2.1 p.toNatClampNeg + S.2.1 0)) p.toNatClampNeg) acc, S.2.2)
def cWd (acc rm : Nat) (p : Int32) (S : DS) : Int32 × DS :=
  if S.2.2 0 = 0 then (6, S) else if ¬ isAcc acc p = true then (1, S) else
  if sv S.1 S.2.1 p.toNatClampNeg < S.2.1 0 then (2, S) else
  if ¬ ctb ((S.2.1 2 ||| 2 ^ p.toNatClampNeg) ||| 2 ^ acc) ≤ rm then (4, S) else
  (0, eN (eN S.1 S.2.1 p.toNatClampNeg) (tX S.2.1 p.toNatClampNeg) acc, tX (tX S.2.1 p.toNatClampNeg) acc, S.2.2)
def cTrX (p q : Int32) (S : DS) : Nat → Nat := if p = q then S.2.1 else va_up S.2.1 1 (sv S.1 S.2.1 q.toNatClampNeg + S.2.1 0)
def cTr (acc lm rm : Nat) (p q : Int32) (S : DS) : Int32 × DS :=
  if S.2.2 0 = 0 then (6, S) else if ¬ (isAcc acc p = true ∧ isAcc acc q = true) then (1, S) else
  if sv S.1 S.2.1 p.toNatClampNeg < S.2.1 0 then (2, S) else
  if ¬ p = q ∧ lm < szF (sv S.1 S.2.1 q.toNatClampNeg + S.2.1 0) (lm + 1) then (3, S.1, cTrX p q S, S.2.2) else
  if ¬ ctb ((S.2.1 2 ||| 2 ^ p.toNatClampNeg) ||| 2 ^ q.toNatClampNeg) ≤ rm then (4, S.1, cTrX p q S, S.2.2) else
  (0, iN (eN S.1 (cTrX p q S) p.toNatClampNeg) (tX (cTrX p q S) p.toNatClampNeg) q.toNatClampNeg, tX (tX (cTrX p q S) p.toNatClampNeg) q.toNatClampNeg, S.2.2)
def cPart (acc : Nat) (p q r : Int32) (S : DS) : Int32 × DS :=
  if S.2.2 0 = 0 then (6, S) else if ¬ isAcc acc p = true then (1, S) else
  if q < 0 ∨ r < q ∨ r < 1 then (5, S) else
  (0, S.1, va_up S.2.1 0 (sv S.1 S.2.1 p.toNatClampNeg * q.toNatClampNeg / r.toNatClampNeg), S.2.2)
def cStop (p : Int32) (S : DS) : DS := (S.1, S.2.1, va_up S.2.2 3 (if p < 0 then -1 else p))
end
section
set_option maxHeartbeats 4000000 in
set_option maxRecDepth 100000 in
theorem c_bitCount (l : Launch) (n : Nat) (hn : n < 2147483648) : Met l yJ6_bitCount_0f7a4 wsJ6_bitCount_0f7a4 ({ frames := 0, cells := 0, slots := 0, locals := 0 }) (fun v _ => v = ([.int (nI n)] : List Value).toArray) (vp_Si (fun r => r = nI (ctb n))) 0 0 (fun _ => False) := by
  refine Met.ofW (cc := cJ6_bitCount_0f7a4) (maxL := 1) (ret := (some .int)) (by decide) rfl ?_
  intro p e s m args below meth c s₁ B hml hv
  subst hv
  have hx := B.exec
  have hb := B.bytes
  have hr := B.returns
  have hts := atoms_spec (ws := wsJ6_bitCount_0f7a4) B.pre
  have hown : s.vm.findClass RJ6 = some m.cls := findClass_of_methodNamed B.named
  have hlocks := B.notSynchronized
  generalize hH : s.heap = H
  have hl := lv_entry ([.int (nI n)]) (n := 1) (Nat.le_of_ble_eq_true rfl)
  rw [lg_entry_eq]
  generalize (lg_sl ([.int (nI n)]) ++ List.replicate (1 - (lg_sl ([.int (nI n)])).length) Slot.unset).toArray = ls at hl ⊢
  have hl : lv_has ls 1 [(0, .int (nI n))] := hl
  have ha : n % 256 < 256 := by omega
  have hb1 : n / 256 % 256 < 256 := by omega
  have hc1 : n / 65536 % 256 < 256 := by omega
  have hd1 : n / 16777216 % 256 < 256 := by omega
  have e0 : n = n % 256 + 256 * (n / 256 % 256) + 65536 * (n / 65536 % 256) + 16777216 * (n / 16777216 % 256) := by omega
  obtain ⟨y1, hy1⟩ : ∃ y, y = n - (n / 2 &&& 1431655765) := ⟨_, rfl⟩
  have f1 : y1 = _ := hy1.trans (bc_1b ha hb1 hc1 hd1 e0)
  have l1 := bc_1le ha hb1 hc1 hd1 e0
  obtain ⟨y2, hy2⟩ : ∃ y, y = (y1 &&& 858993459) + (y1 / 4 &&& 858993459) := ⟨_, rfl⟩
  have f2 : y2 = _ := hy2.trans (bc_2 (st1_lt _ ha) (st1_lt _ hb1) (st1_lt _ hc1) (st1_lt _ hd1) f1)
  have b0 := st2_le _ ha
  have b1 := st2_le _ hb1
  have b2 := st2_le _ hc1
  have b3 := st2_le _ hd1
  obtain ⟨y3, hy3⟩ : ∃ y, y = (y2 + y2 / 16 &&& 252645135) := ⟨_, rfl⟩
  have f3 : y3 = _ := hy3.trans (bc_3 ha hb1 hc1 hd1 f2)
  have d0 := ct8_le _ ha
  have d1 := ct8_le _ hb1
  have d2 := ct8_le _ hc1
  have d3 := ct8_le _ hd1
  have f5 : ((y3 + y3 / 256) + (y3 + y3 / 256) / 65536) &&& 63 = ctb n := (bc_4 d0 d1 d2 d3 f3).trans (bcn_ct n)
  have q1 : y1 < 2 ^ 32 := by omega
  have q2 : y2 < 2 ^ 32 := by omega
  have q3 : y3 < 2 ^ 31 := by omega
  refine lv_iload_n hx hb dJ6_bitCount_0f7a4_0 rfl (lv_at hl 0 rfl) ?_
  refine lv_iload_n hx hb dJ6_bitCount_0f7a4_1 rfl (lv_at hl 0 rfl) ?_
  refine lv_iconst (v := 1) hx hb dJ6_bitCount_0f7a4_2 (by decide) ?_
  refine lv_iushr (v := nI (n / 2)) hx hb dJ6_bitCount_0f7a4_3 (pk_ushrN (by omega) 1 1 (by decide)) ?_
  refine lv_ldcw (v := 1431655765) hx hb hown (hts (.constant RJ6 265 (1431655765)) (by decide +kernel)) dJ6_bitCount_0f7a4_4 ?_
  refine lv_iand hx hb dJ6_bitCount_0f7a4_7 ?_
  refine lv_topi (fun y1 ey1 => ?_)
  replace ey1 : y1 = nI (n / 2 &&& 1431655765) := ey1.trans (fa_and (n / 2) 1431655765)
  subst ey1
  refine lv_isub hx hb dJ6_bitCount_0f7a4_8 ?_
  refine lv_topi (fun y2 ey2 => ?_)
  replace ey2 : y2 = nI y1 := ey2.trans ((pk_sub l1).trans (by rw [hy1]))
  subst ey2
  refine lv_istore_n (lv' := [(0, .int (nI y1))]) hx hb dJ6_bitCount_0f7a4_9 rfl hl (by decide) rfl (fun ls hl => ?_)
  refine lv_iload_n hx hb dJ6_bitCount_0f7a4_10 rfl (lv_at hl 0 rfl) ?_
  refine lv_ldcw (v := 858993459) hx hb hown (hts (.constant RJ6 266 (858993459)) (by decide +kernel)) dJ6_bitCount_0f7a4_11 ?_
  refine lv_iand hx hb dJ6_bitCount_0f7a4_14 ?_
  refine lv_topi (fun y3 ey3 => ?_)
  replace ey3 : y3 = nI (y1 &&& 858993459) := ey3.trans (fa_and y1 858993459)
  subst ey3
  refine lv_iload_n hx hb dJ6_bitCount_0f7a4_15 rfl (lv_at hl 0 rfl) ?_
  refine lv_iconst (v := 2) hx hb dJ6_bitCount_0f7a4_16 (by decide) ?_
  refine lv_iushr (v := nI (y1 / 4)) hx hb dJ6_bitCount_0f7a4_17 (pk_ushrN q1 2 2 (by decide)) ?_
  refine lv_ldcw (v := 858993459) hx hb hown (hts (.constant RJ6 266 (858993459)) (by decide +kernel)) dJ6_bitCount_0f7a4_18 ?_
  refine lv_iand hx hb dJ6_bitCount_0f7a4_21 ?_
  refine lv_topi (fun y4 ey4 => ?_)
  replace ey4 : y4 = nI (y1 / 4 &&& 858993459) := ey4.trans (fa_and (y1 / 4) 858993459)
  subst ey4
  refine lv_iadd hx hb dJ6_bitCount_0f7a4_22 ?_
  refine lv_topi (fun y5 ey5 => ?_)
  replace ey5 : y5 = nI y2 := ey5.trans ((nI_add _ _).trans (by rw [hy2]))
  subst ey5
  refine lv_istore_n (lv' := [(0, .int (nI y2))]) hx hb dJ6_bitCount_0f7a4_23 rfl hl (by decide) rfl (fun ls hl => ?_)
  refine lv_iload_n hx hb dJ6_bitCount_0f7a4_24 rfl (lv_at hl 0 rfl) ?_
  refine lv_iload_n hx hb dJ6_bitCount_0f7a4_25 rfl (lv_at hl 0 rfl) ?_
  refine lv_iconst (v := 4) hx hb dJ6_bitCount_0f7a4_26 (by decide) ?_
  refine lv_iushr (v := nI (y2 / 16)) hx hb dJ6_bitCount_0f7a4_27 (pk_ushrN q2 4 4 (by decide)) ?_
  refine lv_iadd hx hb dJ6_bitCount_0f7a4_28 ?_
  refine lv_topi (fun y6 ey6 => ?_)
  replace ey6 : y6 = nI (y2 + y2 / 16) := ey6.trans (nI_add _ _)
  subst ey6
  refine lv_ldcw (v := 252645135) hx hb hown (hts (.constant RJ6 267 (252645135)) (by decide +kernel)) dJ6_bitCount_0f7a4_29 ?_
  refine lv_iand hx hb dJ6_bitCount_0f7a4_32 ?_
  refine lv_topi (fun y7 ey7 => ?_)
  replace ey7 : y7 = nI y3 := ey7.trans ((fa_and (y2 + y2 / 16) 252645135).trans (by rw [hy3]))
  subst ey7
  refine lv_istore_n (lv' := [(0, .int (nI y3))]) hx hb dJ6_bitCount_0f7a4_33 rfl hl (by decide) rfl (fun ls hl => ?_)
  refine lv_iload_n hx hb dJ6_bitCount_0f7a4_34 rfl (lv_at hl 0 rfl) ?_
  refine lv_iload_n hx hb dJ6_bitCount_0f7a4_35 rfl (lv_at hl 0 rfl) ?_
  refine lv_bipush (v := 8) hx hb dJ6_bitCount_0f7a4_36 (by decide) ?_
  refine lv_iushr (v := nI (y3 / 256)) hx hb dJ6_bitCount_0f7a4_38 (pk_ushrN (by omega) 8 8 (by decide)) ?_
  refine lv_iadd hx hb dJ6_bitCount_0f7a4_39 ?_
  refine lv_topi (fun y8 ey8 => ?_)
  replace ey8 : y8 = nI (y3 + y3 / 256) := ey8.trans (nI_add _ _)
  subst ey8
  refine lv_istore_n (lv' := [(0, .int (nI (y3 + y3 / 256)))]) hx hb dJ6_bitCount_0f7a4_40 rfl hl (by decide) rfl (fun ls hl => ?_)
  refine lv_iload_n hx hb dJ6_bitCount_0f7a4_41 rfl (lv_at hl 0 rfl) ?_
  refine lv_iload_n hx hb dJ6_bitCount_0f7a4_42 rfl (lv_at hl 0 rfl) ?_
  refine lv_bipush (v := 16) hx hb dJ6_bitCount_0f7a4_43 (by decide) ?_
  refine lv_iushr (v := nI ((y3 + y3 / 256) / 65536)) hx hb dJ6_bitCount_0f7a4_45 (pk_ushrN (by omega) 16 16 (by decide)) ?_
  refine lv_iadd hx hb dJ6_bitCount_0f7a4_46 ?_
  refine lv_topi (fun y9 ey9 => ?_)
  replace ey9 : y9 = nI ((y3 + y3 / 256) + (y3 + y3 / 256) / 65536) := ey9.trans (nI_add _ _)
  subst ey9
  refine lv_istore_n (lv' := [(0, .int (nI ((y3 + y3 / 256) + (y3 + y3 / 256) / 65536)))]) hx hb dJ6_bitCount_0f7a4_47 rfl hl (by decide) rfl (fun ls hl => ?_)
  refine lv_iload_n hx hb dJ6_bitCount_0f7a4_48 rfl (lv_at hl 0 rfl) ?_
  refine lv_bipush (v := 63) hx hb dJ6_bitCount_0f7a4_49 (by decide) ?_
  refine lv_iand hx hb dJ6_bitCount_0f7a4_51 ?_
  refine lv_topi (fun y10 ey10 => ?_)
  replace ey10 : y10 = nI (ctb n) := ey10.trans ((fa_and _ 63).trans (by rw [f5]))
  subst ey10
  exact W.iret (v := nI (ctb n)) hx hb hr (fun t ht hW => ⟨_, rfl, rfl, ht.trans hH.symm⟩) (fun _ h => by cases h) dJ6_bitCount_0f7a4_52
set_option maxHeartbeats 4000000 in
set_option maxRecDepth 100000 in
theorem c_isAccount (l : Launch) (D : va_G) (ad : Nat → Nat) (cI cB cO : ClassId) (acc lm rm : Nat) (N : LN) (x : Nat → Nat) (z ob : Nat → Int32) (hok : lOk ad acc lm) (p0 : Int32) : Met l yX2_isAccount wsX2_isAccount ({ frames := 0, cells := 0, slots := 0, locals := 0 }) (lPc [.ref (ad 0), .int (p0)] D (lW ad cI cB cO acc lm rm N x z ob) [(cI, .int), (cB, .byte), (cO, .object "BigLedger$Natural")]) (vp_Si (fun r => r = if isAcc acc p0 = true then 1 else 0)) 0 0 (fun _ => False) := by
  refine Met.ofW (cc := cX2_isAccount) (maxL := 2) (ret := (some .boolean)) (by decide) rfl ?_
  intro p e s m args below meth c s₁ B hml hv
  obtain ⟨rfl, hP, hK, hN⟩ := hv
  have hx := B.exec
  have hb := B.bytes
  have hr := B.returns
  have hts := atoms_spec (ws := wsX2_isAccount) B.pre
  have hown : s.vm.findClass RX2 = some m.cls := findClass_of_methodNamed B.named
  have hlocks := B.notSynchronized
  have hi2 : ∀ w ∈ wsX20, w ∈ wsX2_isAccount := by decide +kernel
  have hok1 := hok.2.1
  have hok2 := hok.2.2.1
  have hok3 := hok.2.2.2
  generalize hH : s.heap = H at hP ⊢
  have hl := lv_entry ([.ref (ad 0), .int (p0)]) (n := 2) (Nat.le_of_ble_eq_true rfl)
  rw [lg_entry_eq]
  generalize (lg_sl ([.ref (ad 0), .int (p0)]) ++ List.replicate (2 - (lg_sl ([.ref (ad 0), .int (p0)])).length) Slot.unset).toArray = ls at hl ⊢
  have hl : lv_has ls 2 [(0, .ref (ad 0)), (1, .int (p0))] := hl
  refine lv_iload_n hx hb dX2_isAccount_0 rfl (lv_at hl 1 rfl) ?_
  refine lv_if_lt (tgt := 16) hx hb dX2_isAccount_1 (by decide) (fun c1 => ?_) (fun c1 => ?_)
  · refine lv_iconst (v := 0) hx hb dX2_isAccount_16 (by decide) ?_
    exact W.zret (v := 0) (ty := .boolean) hx hb hr (rfl) (fun t ht hW => ⟨_, rfl, by rw [if_neg (by simp [isAcc, c1])], ht.trans hH.symm⟩) (fun _ h => by cases h) dX2_isAccount_17
  · refine lv_iload_n hx hb dX2_isAccount_4 rfl (lv_at hl 1 rfl) ?_
    refine lv_aload_n hx hb dX2_isAccount_5 rfl (lv_at hl 0 rfl) ?_
    refine va_get (D := D) (ci := 2) (v := .int (nI acc)) (C := RX2) (T := TX2) (N := 11) hx hb hts hi2 hown hK hP 0 (wl_at (by omega)) rfl 0 (by decide) (hts (.fieldLink RX2 13 "BigLedger" "accounts" "I") (by decide +kernel)) (fun _ h9 => h9) rfl dX2_isAccount_6 ?_
    refine lv_icmp_ge (tgt := 16) hx hb dX2_isAccount_9 (by decide) (fun c2 => ?_) (fun c2 => ?_)
    · refine lv_iconst (v := 0) hx hb dX2_isAccount_16 (by decide) ?_
      exact W.zret (v := 0) (ty := .boolean) hx hb hr (rfl) (fun t ht hW => ⟨_, rfl, by rw [if_neg (by simp [isAcc, c2])], ht.trans hH.symm⟩) (fun _ h => by cases h) dX2_isAccount_17
    · refine lv_iconst (v := 1) hx hb dX2_isAccount_12 (by decide) ?_
      refine lv_goto (tgt := 17) hx hb dX2_isAccount_13 (by decide) ?_
      exact W.zret (v := 1) (ty := .boolean) hx hb hr (rfl) (fun t ht hW => ⟨_, rfl, by rw [if_pos (by unfold isAcc; rw [Bool.and_eq_true, decide_eq_true_eq, decide_eq_true_eq]; exact ⟨c1, c2⟩)], ht.trans hH.symm⟩) (fun _ h => by cases h) dX2_isAccount_17
set_option maxHeartbeats 4000000 in
set_option maxRecDepth 100000 in
theorem c_totalBlock (l : Launch) (D : va_G) (ad : Nat → Nat) (cI cB cO : ClassId) (acc lm rm : Nat) (N : LN) (x : Nat → Nat) (z ob : Nat → Int32) (hok : lOk ad acc lm) : Met l yX2_totalBlock wsX2_totalBlock ({ frames := 0, cells := 0, slots := 0, locals := 0 }) (lPc [.ref (ad 0)] D (lW ad cI cB cO acc lm rm N x z ob) [(cI, .int), (cB, .byte), (cO, .object "BigLedger$Natural")]) (vp_Si (fun r => r = nI acc)) 0 0 (fun _ => False) := by
  refine Met.ofW (cc := cX2_totalBlock) (maxL := 1) (ret := (some .int)) (by decide) rfl ?_
  intro p e s m args below meth c s₁ B hml hv
  obtain ⟨rfl, hP, hK, hN⟩ := hv
  have hx := B.exec
  have hb := B.bytes
  have hr := B.returns
  have hts := atoms_spec (ws := wsX2_totalBlock) B.pre
  have hown : s.vm.findClass RX2 = some m.cls := findClass_of_methodNamed B.named
  have hlocks := B.notSynchronized
  have hi2 : ∀ w ∈ wsX20, w ∈ wsX2_totalBlock := by decide +kernel
  have hok1 := hok.2.1
  have hok2 := hok.2.2.1
  have hok3 := hok.2.2.2
  generalize hH : s.heap = H at hP ⊢
  have hl := lv_entry ([.ref (ad 0)]) (n := 1) (Nat.le_of_ble_eq_true rfl)
  rw [lg_entry_eq]
  generalize (lg_sl ([.ref (ad 0)]) ++ List.replicate (1 - (lg_sl ([.ref (ad 0)])).length) Slot.unset).toArray = ls at hl ⊢
  have hl : lv_has ls 1 [(0, .ref (ad 0))] := hl
  refine lv_aload_n hx hb dX2_totalBlock_0 rfl (lv_at hl 0 rfl) ?_
  refine va_get (D := D) (ci := 2) (v := .int (nI acc)) (C := RX2) (T := TX2) (N := 11) hx hb hts hi2 hown hK hP 0 (wl_at (by omega)) rfl 0 (by decide) (hts (.fieldLink RX2 13 "BigLedger" "accounts" "I") (by decide +kernel)) (fun _ h9 => h9) rfl dX2_totalBlock_1 ?_
  exact W.iret (v := nI acc) hx hb hr (fun t ht hW => ⟨_, rfl, rfl, ht.trans hH.symm⟩) (fun _ h => by cases h) dX2_totalBlock_4
set_option maxHeartbeats 4000000 in
set_option maxRecDepth 100000 in
theorem c_seen (l : Launch) (D : va_G) (ad : Nat → Nat) (cI cB cO : ClassId) (acc lm rm : Nat) (N : LN) (x : Nat → Nat) (z ob : Nat → Int32) (hok : lOk ad acc lm) (b : Nat) (hb0 : b ≤ acc) : Met l yX2_seen wsX2_seen ({ frames := 1, cells := 0, slots := 0, locals := 21 }) (lPc [.ref (ad 0), .int (nI b)] D (lW ad cI cB cO acc lm rm N x z ob) [(cI, .int), (cB, .byte), (cO, .object "BigLedger$Natural")]) (va_Sr (fun k => k = ad (6 * b + 2 * sk x b + 10)) (fun k => Value.ref k)) 0 0 (fun _ => False) := by
  refine Met.ofW (cc := cX2_seen) (maxL := 2) (ret := (some (.object "BigLedger$Natural"))) (by decide) rfl ?_
  intro p e s m args below meth c s₁ B hml hv
  obtain ⟨rfl, hP, hK, hN⟩ := hv
  have hx := B.exec
  have hb := B.bytes
  have hr := B.returns
  have hts := atoms_spec (ws := wsX2_seen) B.pre
  have hown : s.vm.findClass RX2 = some m.cls := findClass_of_methodNamed B.named
  have hlocks := B.notSynchronized
  have hi0 : ∀ w ∈ wsX00, w ∈ wsX2_seen := by decide +kernel
  have hi2 : ∀ w ∈ wsX20, w ∈ wsX2_seen := by decide +kernel
  have hok1 := hok.2.1
  have hok2 := hok.2.2.1
  have hok3 := hok.2.2.2
  generalize hH : s.heap = H at hP ⊢
  have hl := lv_entry ([.ref (ad 0), .int (nI b)]) (n := 2) (Nat.le_of_ble_eq_true rfl)
  rw [lg_entry_eq]
  generalize (lg_sl ([.ref (ad 0), .int (nI b)]) ++ List.replicate (2 - (lg_sl ([.ref (ad 0), .int (nI b)])).length) Slot.unset).toArray = ls at hl ⊢
  have hl : lv_has ls 2 [(0, .ref (ad 0)), (1, .int (nI b))] := hl
  refine lv_aload_n hx hb dX2_seen_0 rfl (lv_at hl 0 rfl) ?_
  refine va_get (D := D) (ci := 2) (v := .int (nI (x 2))) (C := RX2) (T := TX2) (N := 11) hx hb hts hi2 hown hK hP 0 (wl_at (by omega)) rfl 5 (by decide) (hts (.fieldLink RX2 126 "BigLedger" "touched" "I") (by decide +kernel)) (fun _ h9 => h9) rfl dX2_seen_1 ?_
  refine lv_iload_n hx hb dX2_seen_4 rfl (lv_at hl 1 rfl) ?_
  refine vp_callSi (W.runS (As := [.int (nI (x 2)), .int (nI b)]) (rest := []) ⟨hx, hb, hml, hown, hts⟩ (c_has l (x 2) b (by omega)) (va_cwS 2 hts gX2_seen_X2_has rfl rfl rfl (by decide +kernel) ⟨Nat.le_of_ble_eq_true rfl, Nat.le_of_ble_eq_true rfl⟩) preEq rfl rfl hl.1 rfl (lv_room (Nat.le_of_ble_eq_true rfl)) dX2_seen_5 ⟨Nat.le_of_ble_eq_true rfl, Nat.le_of_ble_eq_true rfl⟩) (fun rb hrb => ?_)
  refine lv_if_eq (tgt := 20) hx hb dX2_seen_8 (by decide) (fun c0 => ?_) (fun c0 => ?_)
  · replace c0 : sk x b = 1 := by
      unfold sk
      by_cases h9 : (x 2).testBit b = true
      · rw [hrb, if_pos h9] at c0; exact absurd c0 (by decide)
      · rw [if_neg h9]
    refine lv_aload_n hx hb dX2_seen_20 rfl (lv_at hl 0 rfl) ?_
    refine va_get (D := D) (ci := 2) (v := .ref (ad 1)) (C := RX2) (T := TX2) (N := 11) hx hb hts hi2 hown hK hP 0 (wl_at (by omega)) rfl 3 (by decide) (hts (.fieldLink RX2 28 "BigLedger" "disk" "LBigLedger$Disk;") (by decide +kernel)) (fun _ h9 => h9) rfl dX2_seen_21 ?_
    refine va_getN (D := D) (ci := 0) (host := RX2) (v := .ref (ad 3)) (C := RX0) (T := TX0) (N := 6) hx hb hts hi0 hown hK hP 1 (wl_at (by omega)) rfl 0 (by decide) (va_Nw.use rfl (hN.2.2.2.1)) (fun _ h9 => h9) rfl dX2_seen_24 ?_
    refine lv_iload_n hx hb dX2_seen_27 rfl (lv_at hl 1 rfl) ?_
    refine va_aldq hx hb hK hP 3 2 (wl_at (by omega)) rfl (vp_in_nI (by omega) (by omega)) dX2_seen_28 ?_
    refine lv_topv (y := .ref (ad (6 * b + 12))) (by rw [nI_clamp (by omega)]; rfl) ?_
    exact W.aret (rt := .object "BigLedger$Natural") (v := .ref (ad (6 * b + 12))) hx hb hr (Or.inl ⟨_, rfl⟩) (Or.inr ⟨_, rfl⟩) (fun t ht hW => ⟨_, rfl, by rw [c0], ht.trans hH.symm⟩) (fun _ h => by cases h) dX2_seen_29
  · replace c0 : sk x b = 0 := by
      unfold sk
      by_cases h9 : (x 2).testBit b = true
      · rw [if_pos h9]
      · exact absurd (by rw [hrb, if_neg h9]) c0
    refine lv_aload_n hx hb dX2_seen_11 rfl (lv_at hl 0 rfl) ?_
    refine va_get (D := D) (ci := 2) (v := .ref (ad 2)) (C := RX2) (T := TX2) (N := 11) hx hb hts hi2 hown hK hP 0 (wl_at (by omega)) rfl 4 (by decide) (hts (.fieldLink RX2 36 "BigLedger" "pending" "[LBigLedger$Natural;") (by decide +kernel)) (fun _ h9 => h9) rfl dX2_seen_12 ?_
    refine lv_iload_n hx hb dX2_seen_15 rfl (lv_at hl 1 rfl) ?_
    refine va_aldq hx hb hK hP 2 2 (wl_at (by omega)) rfl (vp_in_nI (by omega) (by omega)) dX2_seen_16 ?_
    refine lv_topv (y := .ref (ad (6 * b + 10))) (by rw [nI_clamp (by omega)]; rfl) ?_
    refine lv_goto (tgt := 29) hx hb dX2_seen_17 (by decide) ?_
    exact W.aret (rt := .object "BigLedger$Natural") (v := .ref (ad (6 * b + 10))) hx hb hr (Or.inl ⟨_, rfl⟩) (Or.inr ⟨_, rfl⟩) (fun t ht hW => ⟨_, rfl, by rw [c0], ht.trans hH.symm⟩) (fun _ h => by cases h) dX2_seen_29
set_option maxHeartbeats 4000000 in
set_option maxRecDepth 100000 in
theorem c_touch (l : Launch) (D : va_G) (ad : Nat → Nat) (cI cB cO : ClassId) (acc lm rm : Nat) (N : LN) (x : Nat → Nat) (z ob : Nat → Int32) (hok : lOk ad acc lm) (hNk : nOk lm N) (b : Nat) (hb0 : b ≤ acc) : Met l yX2_touch wsX2_touch ({ frames := 2, cells := 0, slots := 0, locals := 43 }) (lPc [.ref (ad 0), .int (nI b)] D (lW ad cI cB cO acc lm rm N x z ob) [(cI, .int), (cB, .byte), (cO, .object "BigLedger$Natural")]) (va_Qr (fun _ : Unit => True) (fun _ ra t => ra = ad (6 * b + 2 * 0 + 10) ∧ va_P D vwCl (lW ad cI cB cO acc lm rm (tN N x b) (tX x b) z ob) t.heap) (lA ad acc)) 0 0 (lA ad acc) := by
  refine Met.ofW (cc := cX2_touch) (maxL := 2) (ret := (some (.object "BigLedger$Natural"))) (by decide) rfl ?_
  intro p e s m args below meth c s₁ B hml hv
  obtain ⟨rfl, hP, hK, hN⟩ := hv
  have hx := B.exec
  have hb := B.bytes
  have hr := B.returns
  have hts := atoms_spec (ws := wsX2_touch) B.pre
  have hown : s.vm.findClass RX2 = some m.cls := findClass_of_methodNamed B.named
  have hlocks := B.notSynchronized
  have hi0 : ∀ w ∈ wsX00, w ∈ wsX2_touch := by decide +kernel
  have hi2 : ∀ w ∈ wsX20, w ∈ wsX2_touch := by decide +kernel
  have hok1 := hok.2.1
  have hok2 := hok.2.2.1
  have hok3 := hok.2.2.2
  have hS : va_S (lA ad acc) s.heap s.heap [] := va_S.rf
  have hD : va_D (lA ad acc) (lW ad cI cB cO acc lm rm N x z ob) := wlD hok
  have hl := lv_entry ([.ref (ad 0), .int (nI b)]) (n := 2) (Nat.le_of_ble_eq_true rfl)
  rw [lg_entry_eq]
  generalize (lg_sl ([.ref (ad 0), .int (nI b)]) ++ List.replicate (2 - (lg_sl ([.ref (ad 0), .int (nI b)])).length) Slot.unset).toArray = ls at hl ⊢
  have hl : lv_has ls 2 [(0, .ref (ad 0)), (1, .int (nI b))] := hl
  refine lv_aload_n hx hb dX2_touch_0 rfl (lv_at hl 0 rfl) ?_
  refine va_get (D := D) (ci := 2) (v := .int (nI (x 2))) (C := RX2) (T := TX2) (N := 11) hx hb hts hi2 hown hK hP 0 (wl_at (by omega)) rfl 5 (by decide) (hts (.fieldLink RX2 126 "BigLedger" "touched" "I") (by decide +kernel)) (fun _ h9 => h9) rfl dX2_touch_1 ?_
  refine lv_iload_n hx hb dX2_touch_4 rfl (lv_at hl 1 rfl) ?_
  refine vp_callSi (W.runS (As := [.int (nI (x 2)), .int (nI b)]) (rest := []) ⟨hx, hb, hml, hown, hts⟩ (c_has l (x 2) b (by omega)) (va_cwS 2 hts gX2_touch_X2_has rfl rfl rfl (by decide +kernel) ⟨Nat.le_of_ble_eq_true rfl, Nat.le_of_ble_eq_true rfl⟩) preEq rfl rfl hl.1 rfl (lv_room (Nat.le_of_ble_eq_true rfl)) dX2_touch_5 ⟨Nat.le_of_ble_eq_true rfl, Nat.le_of_ble_eq_true rfl⟩) (fun rb hrb => ?_)
  refine lv_if_ne (tgt := 41) hx hb dX2_touch_8 (by decide) (fun c0 => ?_) (fun c0 => ?_)
  · replace c0 : (x 2).testBit b = true := Classical.byContradiction (fun h9 => c0 (by rw [hrb, if_neg h9]))
    have e8 : tN N x b = N := if_pos c0
    have e9 : tX x b = x := if_pos c0
    refine lv_aload_n hx hb dX2_touch_41 rfl (lv_at hl 0 rfl) ?_
    refine va_get (D := D) (ci := 2) (v := .ref (ad 2)) (C := RX2) (T := TX2) (N := 11) hx hb hts hi2 hown hK hP 0 (wl_at (by omega)) rfl 4 (by decide) (hts (.fieldLink RX2 36 "BigLedger" "pending" "[LBigLedger$Natural;") (by decide +kernel)) (fun _ h9 => h9) rfl dX2_touch_42 ?_
    refine lv_iload_n hx hb dX2_touch_45 rfl (lv_at hl 1 rfl) ?_
    refine va_aldq hx hb hK hP 2 2 (wl_at (by omega)) rfl (vp_in_nI (by omega) (by omega)) dX2_touch_46 ?_
    refine lv_topv (y := .ref (ad (6 * b + 2 * 0 + 10))) (by rw [nI_clamp (by omega)]; rfl) ?_
    exact W.aret (rt := .object "BigLedger$Natural") (v := .ref (ad (6 * b + 2 * 0 + 10))) hx hb hr (Or.inl ⟨_, rfl⟩) (Or.inr ⟨_, rfl⟩) (fun t ht hW => ⟨⟨(), _, rfl, trivial, rfl, by rw [e8, e9]; exact hp_at ht hP⟩, hS.F ht⟩) hS.2.2 dX2_touch_47
  · replace c0 : ¬ (x 2).testBit b = true := fun h9 => absurd c0 (by rw [hrb, if_pos h9]; decide)
    have e8 : tN N x b = va_up N 0 (va_up (N 0) b (N 1 b)) := if_neg c0
    have e9 : tX x b = va_up x 2 (x 2 ||| 2 ^ b) := if_neg c0
    refine lv_aload_n hx hb dX2_touch_11 rfl (lv_at hl 0 rfl) ?_
    refine va_get (D := D) (ci := 2) (v := .ref (ad 2)) (C := RX2) (T := TX2) (N := 11) hx hb hts hi2 hown hK hP 0 (wl_at (by omega)) rfl 4 (by decide) (hts (.fieldLink RX2 36 "BigLedger" "pending" "[LBigLedger$Natural;") (by decide +kernel)) (fun _ h9 => h9) rfl dX2_touch_12 ?_
    refine lv_iload_n hx hb dX2_touch_15 rfl (lv_at hl 1 rfl) ?_
    refine va_aldq hx hb hK hP 2 2 (wl_at (by omega)) rfl (vp_in_nI (by omega) (by omega)) dX2_touch_16 ?_
    refine lv_topv (y := .ref (ad (6 * b + 2 * 0 + 10))) (by rw [nI_clamp (by omega)]; rfl) ?_
    refine lv_aload_n hx hb dX2_touch_17 rfl (lv_at hl 0 rfl) ?_
    refine va_get (D := D) (ci := 2) (v := .ref (ad 1)) (C := RX2) (T := TX2) (N := 11) hx hb hts hi2 hown hK hP 0 (wl_at (by omega)) rfl 3 (by decide) (hts (.fieldLink RX2 28 "BigLedger" "disk" "LBigLedger$Disk;") (by decide +kernel)) (fun _ h9 => h9) rfl dX2_touch_18 ?_
    refine va_getN (D := D) (ci := 0) (host := RX2) (v := .ref (ad 3)) (C := RX0) (T := TX0) (N := 6) hx hb hts hi0 hown hK hP 1 (wl_at (by omega)) rfl 0 (by decide) (va_Nw.use rfl (hN.2.2.2.1)) (fun _ h9 => h9) rfl dX2_touch_21 ?_
    refine lv_iload_n hx hb dX2_touch_24 rfl (lv_at hl 1 rfl) ?_
    refine va_aldq hx hb hK hP 3 2 (wl_at (by omega)) rfl (vp_in_nI (by omega) (by omega)) dX2_touch_25 ?_
    refine lv_topv (y := .ref (ad (6 * b + 2 * 1 + 10))) (by rw [nI_clamp (by omega)]; rfl) ?_
    have hn11 := ln_p hP 0 b (by decide) (by omega)
    have hn11u := va_P.app hn11 (ln_p hP 1 b (by decide) (by omega))
    refine va_callv (va_runV (As := [.ref (ad (6 * b + 2 * 1 + 10))]) (rest := []) ⟨hx, hb, hml, hown, hts⟩ (c_setTo l D cI (lm + 1) (ad (6 * b + 2 * 0 + 10)) (ad (6 * b + 2 * 0 + 11)) (N 0 b) (by omega) (ln_oa (i := 6 * b + 2 * 0 + 10) hok (by omega)) (hNk _ _) (ad (6 * b + 2 * 1 + 10)) (ad (6 * b + 2 * 1 + 11)) (N 1 b) (ln_ne (i := 6 * b + 2 * 0 + 10) hok (by omega) (by omega) (by omega) (by omega)) (ln_ne (i := 6 * b + 2 * 0 + 10) hok (by omega) (by omega) (by omega) (by omega)) (hNk _ _)) (cwV 1 hts gX2_touch_X1_setTo rfl rfl rfl (by decide +kernel) ⟨Nat.le_of_ble_eq_true rfl, Nat.le_of_ble_eq_true rfl⟩) ⟨nPc_blind, va_recv hK hn11 (ci := 1) (q0 := 0) rfl rfl, nPc_use (hn11u) (hK.sub [0] rfl)⟩ rfl rfl hl.1 rfl (lv_room (Nat.le_of_ble_eq_true rfl)) dX2_touch_26 ⟨Nat.le_of_ble_eq_true rfl, Nat.le_of_ble_eq_true rfl⟩) hS (fun q _ h => (fun q h => lA_n (i := 6 * b + 2 * 0 + 10) (by omega) h) q h) (fun q h => lA_n (i := 6 * b + 2 * 0 + 10) (by omega) h) (fun _u t H1 locs ht hvm hw hB hz1 hk9 hS => ?_)
    have hP9 := lk_p (k := 0) (b := b) hok (by decide) (by omega) hP hk9 (pB_at ht hB)
    generalize H1 = H at ht hz1 hk9 hS hP9 ⊢
    have hP : va_P D vwCl (lW ad cI cB cO acc lm rm (va_up N 0 (va_up (N 0) b (N 1 b))) x z ob) H := hP9
    have hD : va_D (lA ad acc) (lW ad cI cB cO acc lm rm (va_up N 0 (va_up (N 0) b (N 1 b))) x z ob) := wlD hok
    refine lv_aload_n hx hb dX2_touch_29 rfl (lv_at hl 0 rfl) ?_
    refine lv_dup hx hb dX2_touch_30 rfl ?_
    refine va_get (D := D) (ci := 2) (v := .int (nI (x 2))) (C := RX2) (T := TX2) (N := 11) hx hb hts hi2 hown hK hP 0 (wl_at (by omega)) rfl 5 (by decide) (hts (.fieldLink RX2 126 "BigLedger" "touched" "I") (by decide +kernel)) (fun _ h9 => h9) rfl dX2_touch_31 ?_
    refine lv_iconst (v := 1) hx hb dX2_touch_34 (by decide) ?_
    refine lv_iload_n hx hb dX2_touch_35 rfl (lv_at hl 1 rfl) ?_
    refine lv_ishl hx hb dX2_touch_36 ?_
    refine lv_topi (fun y12 ey12 => ?_)
    replace ey12 : y12 = nI (2 ^ b) := ey12.trans (i_sh b (by omega))
    subst ey12
    refine lv_ior hx hb dX2_touch_37 ?_
    refine lv_topi (fun y13 ey13 => ?_)
    replace ey13 : y13 = nI (x 2 ||| 2 ^ b) := ey13.trans (fa_or _ _)
    subst ey13
    refine va_put (D := D) (ci := 2) (v := .int (nI (x 2 ||| 2 ^ b))) (ty := .int) (C := RX2) (T := TX2) (N := 11) hx hb hts hi2 tyX2 tyX2_ok nmX2 hown hK hP hD hS 0 (wl_at (by omega)) rfl 5 (by decide) (hts (.fieldLink RX2 126 "BigLedger" "touched" "I") (by decide +kernel)) (fun _ h9 => h9) rfl (by decide +kernel) (rfl) (rfl) (Nat.le_of_ble_eq_true rfl) dX2_touch_38 (fun H locs hP hD hS => ?_)
    have hP : va_P D vwCl (lW ad cI cB cO acc lm rm (va_up N 0 (va_up (N 0) b (N 1 b))) (va_up x 2 ((x 2 ||| 2 ^ b))) z ob) H := cv (ls_touched ((x 2 ||| 2 ^ b))) hP
    have hD : va_D (lA ad acc) (lW ad cI cB cO acc lm rm (va_up N 0 (va_up (N 0) b (N 1 b))) (va_up x 2 ((x 2 ||| 2 ^ b))) z ob) := wlD hok
    refine lv_aload_n hx hb dX2_touch_41 rfl (lv_at hl 0 rfl) ?_
    refine va_get (D := D) (ci := 2) (v := .ref (ad 2)) (C := RX2) (T := TX2) (N := 11) hx hb hts hi2 hown hK hP 0 (wl_at (by omega)) rfl 4 (by decide) (hts (.fieldLink RX2 36 "BigLedger" "pending" "[LBigLedger$Natural;") (by decide +kernel)) (fun _ h9 => h9) rfl dX2_touch_42 ?_
    refine lv_iload_n hx hb dX2_touch_45 rfl (lv_at hl 1 rfl) ?_
    refine va_aldq hx hb hK hP 2 2 (wl_at (by omega)) rfl (vp_in_nI (by omega) (by omega)) dX2_touch_46 ?_
    refine lv_topv (y := .ref (ad (6 * b + 2 * 0 + 10))) (by rw [nI_clamp (by omega)]; rfl) ?_
    exact W.aret (rt := .object "BigLedger$Natural") (v := .ref (ad (6 * b + 2 * 0 + 10))) hx hb hr (Or.inl ⟨_, rfl⟩) (Or.inr ⟨_, rfl⟩) (fun t ht hW => ⟨⟨(), _, rfl, trivial, rfl, by rw [e8, e9]; exact hp_at ht hP⟩, hS.F ht⟩) hS.2.2 dX2_touch_47
set_option maxHeartbeats 4000000 in
set_option maxRecDepth 100000 in
theorem c_hasRoomFor (l : Launch) (D : va_G) (ad : Nat → Nat) (cI cB cO : ClassId) (acc lm rm : Nat) (N : LN) (x : Nat → Nat) (z ob : Nat → Int32) (hok : lOk ad acc lm) (b c0 : Nat) (hb0 : b ≤ acc) (hc0 : c0 ≤ acc) (hx2 : x 2 < 33554432) (hrm : rm ≤ 25) : Met l yX2_hasRoomFor wsX2_hasRoomFor ({ frames := 1, cells := 0, slots := 0, locals := 20 }) (lPc [.ref (ad 0), .int (nI b), .int (nI c0)] D (lW ad cI cB cO acc lm rm N x z ob) [(cI, .int), (cB, .byte), (cO, .object "BigLedger$Natural")]) (vp_Si (fun r => r = if ctb ((x 2 ||| 2 ^ b) ||| 2 ^ c0) ≤ rm then 1 else 0)) 0 0 (fun _ => False) := by
  refine Met.ofW (cc := cX2_hasRoomFor) (maxL := 3) (ret := (some .boolean)) (by decide) rfl ?_
  intro p e s m args below meth c s₁ B hml hv
  obtain ⟨rfl, hP, hK, hN⟩ := hv
  have hx := B.exec
  have hb := B.bytes
  have hr := B.returns
  have hts := atoms_spec (ws := wsX2_hasRoomFor) B.pre
  have hown : s.vm.findClass RX2 = some m.cls := findClass_of_methodNamed B.named
  have hlocks := B.notSynchronized
  have hi2 : ∀ w ∈ wsX20, w ∈ wsX2_hasRoomFor := by decide +kernel
  have hok1 := hok.2.1
  have hok2 := hok.2.2.1
  have hok3 := hok.2.2.2
  generalize hH : s.heap = H at hP ⊢
  have hl := lv_entry ([.ref (ad 0), .int (nI b), .int (nI c0)]) (n := 3) (Nat.le_of_ble_eq_true rfl)
  rw [lg_entry_eq]
  generalize (lg_sl ([.ref (ad 0), .int (nI b), .int (nI c0)]) ++ List.replicate (3 - (lg_sl ([.ref (ad 0), .int (nI b), .int (nI c0)])).length) Slot.unset).toArray = ls at hl ⊢
  have hl : lv_has ls 3 [(0, .ref (ad 0)), (1, .int (nI b)), (2, .int (nI c0))] := hl
  refine lv_aload_n hx hb dX2_hasRoomFor_0 rfl (lv_at hl 0 rfl) ?_
  refine va_get (D := D) (ci := 2) (v := .int (nI (x 2))) (C := RX2) (T := TX2) (N := 11) hx hb hts hi2 hown hK hP 0 (wl_at (by omega)) rfl 5 (by decide) (hts (.fieldLink RX2 126 "BigLedger" "touched" "I") (by decide +kernel)) (fun _ h9 => h9) rfl dX2_hasRoomFor_1 ?_
  refine lv_iconst (v := 1) hx hb dX2_hasRoomFor_4 (by decide) ?_
  refine lv_iload_n hx hb dX2_hasRoomFor_5 rfl (lv_at hl 1 rfl) ?_
  refine lv_ishl hx hb dX2_hasRoomFor_6 ?_
  refine lv_topi (fun y14 ey14 => ?_)
  replace ey14 : y14 = nI (2 ^ b) := ey14.trans (i_sh b (by omega))
  subst ey14
  refine lv_ior hx hb dX2_hasRoomFor_7 ?_
  refine lv_topi (fun y15 ey15 => ?_)
  replace ey15 : y15 = nI (x 2 ||| 2 ^ b) := ey15.trans (fa_or _ _)
  subst ey15
  refine lv_iconst (v := 1) hx hb dX2_hasRoomFor_8 (by decide) ?_
  refine lv_iload_n hx hb dX2_hasRoomFor_9 rfl (lv_at hl 2 rfl) ?_
  refine lv_ishl hx hb dX2_hasRoomFor_10 ?_
  refine lv_topi (fun y16 ey16 => ?_)
  replace ey16 : y16 = nI (2 ^ c0) := ey16.trans (i_sh c0 (by omega))
  subst ey16
  refine lv_ior hx hb dX2_hasRoomFor_11 ?_
  refine lv_topi (fun y17 ey17 => ?_)
  replace ey17 : y17 = nI (x 2 ||| 2 ^ b ||| 2 ^ c0) := ey17.trans (fa_or _ _)
  subst ey17
  have hlt : (x 2 ||| 2 ^ b ||| 2 ^ c0) < 33554432 := Nat.or_lt_two_pow (n := 25) (Nat.or_lt_two_pow (n := 25) hx2 (Nat.pow_lt_pow_right (by decide) (by omega))) (Nat.pow_lt_pow_right (by decide) (by omega))
  refine vp_callSi (W.runS (As := [.int (nI (x 2 ||| 2 ^ b ||| 2 ^ c0))]) (rest := []) ⟨hx, hb, hml, hown, hts⟩ (c_bitCount l (x 2 ||| 2 ^ b ||| 2 ^ c0) (by omega)) (va_cwS 1 hts gX2_hasRoomFor_J6_bitCount_0f7a4 rfl rfl rfl (by decide +kernel) ⟨Nat.le_of_ble_eq_true rfl, Nat.le_of_ble_eq_true rfl⟩) preEq rfl rfl hl.1 rfl (lv_room (Nat.le_of_ble_eq_true rfl)) dX2_hasRoomFor_12 ⟨Nat.le_of_ble_eq_true rfl, Nat.le_of_ble_eq_true rfl⟩) (fun rb hrb => ?_)
  have hle : ctb (x 2 ||| 2 ^ b ||| 2 ^ c0) ≤ 32 := fb_ct_le _ 32
  subst hrb
  refine lv_aload_n hx hb dX2_hasRoomFor_15 rfl (lv_at hl 0 rfl) ?_
  refine va_get (D := D) (ci := 2) (v := .int (nI rm)) (C := RX2) (T := TX2) (N := 11) hx hb hts hi2 hown hK hP 0 (wl_at (by omega)) rfl 2 (by decide) (hts (.fieldLink RX2 20 "BigLedger" "room" "I") (by decide +kernel)) (fun _ h9 => h9) rfl dX2_hasRoomFor_16 ?_
  refine lv_icmp_gt (tgt := 26) hx hb dX2_hasRoomFor_19 (by decide) (fun c1 => ?_) (fun c1 => ?_)
  · refine lv_iconst (v := 0) hx hb dX2_hasRoomFor_26 (by decide) ?_
    exact W.zret (v := 0) (ty := .boolean) hx hb hr (rfl) (fun t ht hW => ⟨_, rfl, by rw [if_neg (Nat.not_le.mpr ((nI_ltI (by omega) (by omega)).mp c1))], ht.trans hH.symm⟩) (fun _ h => by cases h) dX2_hasRoomFor_27
  · refine lv_iconst (v := 1) hx hb dX2_hasRoomFor_22 (by decide) ?_
    refine lv_goto (tgt := 27) hx hb dX2_hasRoomFor_23 (by decide) ?_
    exact W.zret (v := 1) (ty := .boolean) hx hb hr (rfl) (fun t ht hW => ⟨_, rfl, by rw [if_pos (Nat.le_of_not_lt (fun q => c1 ((nI_ltI (by omega) (by omega)).mpr q)))], ht.trans hH.symm⟩) (fun _ h => by cases h) dX2_hasRoomFor_27
set_option maxHeartbeats 4000000 in
set_option maxRecDepth 100000 in
theorem c_isAmountAbove (l : Launch) (D : va_G) (ad : Nat → Nat) (cI cB cO : ClassId) (acc lm rm : Nat) (N : LN) (x : Nat → Nat) (z ob : Nat → Int32) (hok : lOk ad acc lm) (hNk : nOk lm N) (hx0 : x 0 < 2147483648 ^ (lm + 1)) (b : Nat) (hb0 : b ≤ acc) : Met l yX2_isAmountAbove wsX2_isAmountAbove ({ frames := 2, cells := 0, slots := 0, locals := 44 }) (lPc [.ref (ad 0), .int (nI b)] D (lW ad cI cB cO acc lm rm N x z ob) [(cI, .int), (cB, .byte), (cO, .object "BigLedger$Natural")]) (vp_Si (fun r => r = if sv N x b < x 0 then 1 else 0)) 0 0 (fun _ => False) := by
  refine Met.ofW (cc := cX2_isAmountAbove) (maxL := 2) (ret := (some .boolean)) (by decide) rfl ?_
  intro p e s m args below meth c s₁ B hml hv
  obtain ⟨rfl, hP, hK, hN⟩ := hv
  have hx := B.exec
  have hb := B.bytes
  have hr := B.returns
  have hts := atoms_spec (ws := wsX2_isAmountAbove) B.pre
  have hown : s.vm.findClass RX2 = some m.cls := findClass_of_methodNamed B.named
  have hlocks := B.notSynchronized
  have hi2 : ∀ w ∈ wsX20, w ∈ wsX2_isAmountAbove := by decide +kernel
  have hok1 := hok.2.1
  have hok2 := hok.2.2.1
  have hok3 := hok.2.2.2
  generalize hH : s.heap = H at hP ⊢
  have hl := lv_entry ([.ref (ad 0), .int (nI b)]) (n := 2) (Nat.le_of_ble_eq_true rfl)
  rw [lg_entry_eq]
  generalize (lg_sl ([.ref (ad 0), .int (nI b)]) ++ List.replicate (2 - (lg_sl ([.ref (ad 0), .int (nI b)])).length) Slot.unset).toArray = ls at hl ⊢
  have hl : lv_has ls 2 [(0, .ref (ad 0)), (1, .int (nI b))] := hl
  refine lv_aload_n hx hb dX2_isAmountAbove_0 rfl (lv_at hl 0 rfl) ?_
  refine va_get (D := D) (ci := 2) (v := .ref (ad 6)) (C := RX2) (T := TX2) (N := 11) hx hb hts hi2 hown hK hP 0 (wl_at (by omega)) rfl 6 (by decide) (hts (.fieldLink RX2 45 "BigLedger" "amount" "LBigLedger$Natural;") (by decide +kernel)) (fun _ h9 => h9) rfl dX2_isAmountAbove_1 ?_
  refine lv_aload_n hx hb dX2_isAmountAbove_4 rfl (lv_at hl 0 rfl) ?_
  refine lv_iload_n hx hb dX2_isAmountAbove_5 rfl (lv_at hl 1 rfl) ?_
  refine va_csr (W.runV (As := [.int (nI b)]) (rest := [.ref (ad 6)]) ⟨hx, hb, hml, hown, hts⟩ (c_seen l D ad cI cB cO acc lm rm N x z ob hok b (by omega)) (cwV 1 hts gX2_isAmountAbove_X2_seen rfl rfl rfl (by decide +kernel) ⟨Nat.le_of_ble_eq_true rfl, Nat.le_of_ble_eq_true rfl⟩) ⟨lPc_blind, va_recv hK hP (ci := 2) (q0 := 0) rfl (wl_at (by omega)), lPc_use (hP) ⟨hK, hN⟩⟩ rfl rfl hl.1 rfl (lv_room (Nat.le_of_ble_eq_true rfl)) dX2_isAmountAbove_6 ⟨Nat.le_of_ble_eq_true rfl, Nat.le_of_ble_eq_true rfl⟩) (fun ks hks => ?_)
  subst hks
  have hsk := sk_lt x b
  have hn1 := ln_am hP
  have hn2 := va_P.app hn1 (ln_p hP (sk x b) b (by omega) hb0)
  refine vp_callSi (W.runV (As := [.ref (ad (6 * b + 2 * sk x b + 10))]) (rest := []) ⟨hx, hb, hml, hown, hts⟩ (c_standingTo l D cI (lm + 1) (ad 6) (ad 7) (x 0) (ad (6 * b + 2 * sk x b + 10)) (ad (6 * b + 2 * sk x b + 11)) (N (sk x b) b) (by omega) hx0 (hNk _ _)) (cwV 1 hts gX2_isAmountAbove_X1_standingTo rfl rfl rfl (by decide +kernel) ⟨Nat.le_of_ble_eq_true rfl, Nat.le_of_ble_eq_true rfl⟩) ⟨nPc_blind, va_recv hK hn1 (ci := 1) (q0 := 0) rfl rfl, nPc_use (hn2) (hK.sub [0] rfl)⟩ rfl rfl hl.1 rfl (lv_room (Nat.le_of_ble_eq_true rfl)) dX2_isAmountAbove_9 ⟨Nat.le_of_ble_eq_true rfl, Nat.le_of_ble_eq_true rfl⟩) (fun rb hrb => ?_)
  refine lv_if_le (tgt := 19) hx hb dX2_isAmountAbove_12 (by decide) (fun c1 => ?_) (fun c1 => ?_)
  · refine lv_iconst (v := 0) hx hb dX2_isAmountAbove_19 (by decide) ?_
    exact W.zret (v := 0) (ty := .boolean) hx hb hr (rfl) (fun t ht hW => ⟨_, rfl, by
      rw [hrb] at c1
      by_cases h1 : x 0 < N (sk x b) b
      · rw [if_neg (by unfold sv; omega)]
      · rw [if_neg h1] at c1
        by_cases h2 : x 0 = N (sk x b) b
        · rw [if_neg (by unfold sv; omega)]
        · rw [if_neg h2] at c1; exact absurd c1 (by decide), ht.trans hH.symm⟩) (fun _ h => by cases h) dX2_isAmountAbove_20
  · refine lv_iconst (v := 1) hx hb dX2_isAmountAbove_15 (by decide) ?_
    refine lv_goto (tgt := 20) hx hb dX2_isAmountAbove_16 (by decide) ?_
    exact W.zret (v := 1) (ty := .boolean) hx hb hr (rfl) (fun t ht hW => ⟨_, rfl, by
      rw [hrb] at c1
      by_cases h1 : x 0 < N (sk x b) b
      · rw [if_pos h1] at c1; exact absurd (by decide) c1
      · rw [if_neg h1] at c1
        by_cases h2 : x 0 = N (sk x b) b
        · rw [if_pos h2] at c1; exact absurd (by decide) c1
        · rw [if_pos (by unfold sv; omega)], ht.trans hH.symm⟩) (fun _ h => by cases h) dX2_isAmountAbove_20
set_option maxHeartbeats 4000000 in
set_option maxRecDepth 100000 in
theorem c_wouldBeTooGreat (l : Launch) (D : va_G) (ad : Nat → Nat) (cI cB cO : ClassId) (acc lm rm : Nat) (N : LN) (x : Nat → Nat) (z ob : Nat → Int32) (hok : lOk ad acc lm) (hNk : nOk lm N) (hx0 : x 0 < 2147483648 ^ (lm + 1)) (hx1 : x 1 < 2147483648 ^ (lm + 1)) (b : Nat) (hb0 : b ≤ acc) (hsum : sv N x b + x 0 < 2147483648 ^ (lm + 1)) : Met l yX2_wouldBeTooGreat wsX2_wouldBeTooGreat ({ frames := 2, cells := 0, slots := 0, locals := 47 }) (lPc [.ref (ad 0), .int (nI b)] D (lW ad cI cB cO acc lm rm N x z ob) [(cI, .int), (cB, .byte), (cO, .object "BigLedger$Natural")]) (va_Qi (fun (r : Int32) (_ : Unit) => r = if lm < szF (sv N x b + x 0) (lm + 1) then 1 else 0) (fun _ t => va_P D vwCl (lW ad cI cB cO acc lm rm N (va_up x 1 (sv N x b + x 0)) z ob) t.heap) (lA ad acc)) 0 0 (lA ad acc) := by
  refine Met.ofW (cc := cX2_wouldBeTooGreat) (maxL := 2) (ret := (some .boolean)) (by decide) rfl ?_
  intro p e s m args below meth c s₁ B hml hv
  obtain ⟨rfl, hP, hK, hN⟩ := hv
  have hx := B.exec
  have hb := B.bytes
  have hr := B.returns
  have hts := atoms_spec (ws := wsX2_wouldBeTooGreat) B.pre
  have hown : s.vm.findClass RX2 = some m.cls := findClass_of_methodNamed B.named
  have hlocks := B.notSynchronized
  have hi1 : ∀ w ∈ wsX10, w ∈ wsX2_wouldBeTooGreat := by decide +kernel
  have hi2 : ∀ w ∈ wsX20, w ∈ wsX2_wouldBeTooGreat := by decide +kernel
  have hok1 := hok.2.1
  have hok2 := hok.2.2.1
  have hok3 := hok.2.2.2
  have hS : va_S (lA ad acc) s.heap s.heap [] := va_S.rf
  have hD : va_D (lA ad acc) (lW ad cI cB cO acc lm rm N x z ob) := wlD hok
  have hl := lv_entry ([.ref (ad 0), .int (nI b)]) (n := 2) (Nat.le_of_ble_eq_true rfl)
  rw [lg_entry_eq]
  generalize (lg_sl ([.ref (ad 0), .int (nI b)]) ++ List.replicate (2 - (lg_sl ([.ref (ad 0), .int (nI b)])).length) Slot.unset).toArray = ls at hl ⊢
  have hl : lv_has ls 2 [(0, .ref (ad 0)), (1, .int (nI b))] := hl
  refine lv_aload_n hx hb dX2_wouldBeTooGreat_0 rfl (lv_at hl 0 rfl) ?_
  refine va_get (D := D) (ci := 2) (v := .ref (ad 8)) (C := RX2) (T := TX2) (N := 11) hx hb hts hi2 hown hK hP 0 (wl_at (by omega)) rfl 8 (by decide) (hts (.fieldLink RX2 49 "BigLedger" "scratch" "LBigLedger$Natural;") (by decide +kernel)) (fun _ h9 => h9) rfl dX2_wouldBeTooGreat_1 ?_
  refine lv_aload_n hx hb dX2_wouldBeTooGreat_4 rfl (lv_at hl 0 rfl) ?_
  refine lv_iload_n hx hb dX2_wouldBeTooGreat_5 rfl (lv_at hl 1 rfl) ?_
  refine va_csr (W.runV (As := [.int (nI b)]) (rest := [.ref (ad 8)]) ⟨hx, hb, hml, hown, hts⟩ (c_seen l D ad cI cB cO acc lm rm N x z ob hok b (by omega)) (cwV 1 hts gX2_wouldBeTooGreat_X2_seen rfl rfl rfl (by decide +kernel) ⟨Nat.le_of_ble_eq_true rfl, Nat.le_of_ble_eq_true rfl⟩) ⟨lPc_blind, va_recv hK hP (ci := 2) (q0 := 0) rfl (wl_at (by omega)), lPc_use (hP) ⟨hK, hN⟩⟩ rfl rfl hl.1 rfl (lv_room (Nat.le_of_ble_eq_true rfl)) dX2_wouldBeTooGreat_6 ⟨Nat.le_of_ble_eq_true rfl, Nat.le_of_ble_eq_true rfl⟩) (fun ks hks => ?_)
  subst hks
  have hsk := sk_lt x b
  have hn18 := ln_sc hP
  have hn18u := va_P.app hn18 (ln_p hP (sk x b) b (by omega) hb0)
  refine va_callv (va_runV (As := [.ref (ad (6 * b + 2 * sk x b + 10))]) (rest := []) ⟨hx, hb, hml, hown, hts⟩ (c_setTo l D cI (lm + 1) (ad 8) (ad 9) (x 1) (by omega) (ln_oa (i := 8) hok (by omega)) hx1 (ad (6 * b + 2 * sk x b + 10)) (ad (6 * b + 2 * sk x b + 11)) (N (sk x b) b) (ln_ne (i := 8) hok (by omega) (by omega) (by omega) (by omega)) (ln_ne (i := 8) hok (by omega) (by omega) (by omega) (by omega)) (hNk _ _)) (cwV 1 hts gX2_wouldBeTooGreat_X1_setTo rfl rfl rfl (by decide +kernel) ⟨Nat.le_of_ble_eq_true rfl, Nat.le_of_ble_eq_true rfl⟩) ⟨nPc_blind, va_recv hK hn18 (ci := 1) (q0 := 0) rfl rfl, nPc_use (hn18u) (hK.sub [0] rfl)⟩ rfl rfl hl.1 rfl (lv_room (Nat.le_of_ble_eq_true rfl)) dX2_wouldBeTooGreat_9 ⟨Nat.le_of_ble_eq_true rfl, Nat.le_of_ble_eq_true rfl⟩) hS (fun q _ h => (fun q h => lA_n (i := 8) (by omega) h) q h) (fun q h => lA_n (i := 8) (by omega) h) (fun _u t H1 locs ht hvm hw hB hz1 hk9 hS => ?_)
  have hP9 := lk_sc hok hP hk9 (pB_at ht hB)
  generalize H1 = H at ht hz1 hk9 hS hP9 ⊢
  have hP : va_P D vwCl (lW ad cI cB cO acc lm rm N (va_up x 1 (sv N x b)) z ob) H := hP9
  have hD : va_D (lA ad acc) (lW ad cI cB cO acc lm rm N (va_up x 1 (sv N x b)) z ob) := wlD hok
  refine lv_aload_n hx hb dX2_wouldBeTooGreat_12 rfl (lv_at hl 0 rfl) ?_
  refine va_get (D := D) (ci := 2) (v := .ref (ad 8)) (C := RX2) (T := TX2) (N := 11) hx hb hts hi2 hown hK hP 0 (wl_at (by omega)) rfl 8 (by decide) (hts (.fieldLink RX2 49 "BigLedger" "scratch" "LBigLedger$Natural;") (by decide +kernel)) (fun _ h9 => h9) rfl dX2_wouldBeTooGreat_13 ?_
  refine lv_aload_n hx hb dX2_wouldBeTooGreat_16 rfl (lv_at hl 0 rfl) ?_
  refine va_get (D := D) (ci := 2) (v := .ref (ad 6)) (C := RX2) (T := TX2) (N := 11) hx hb hts hi2 hown hK hP 0 (wl_at (by omega)) rfl 6 (by decide) (hts (.fieldLink RX2 45 "BigLedger" "amount" "LBigLedger$Natural;") (by decide +kernel)) (fun _ h9 => h9) rfl dX2_wouldBeTooGreat_17 ?_
  have hn19 := ln_sc hP
  have hn19u := va_P.app hn19 (ln_am hP)
  refine va_callv (va_runV (As := [.ref (ad 6)]) (rest := []) ⟨hx, hb, hml, hown, hts⟩ (c_increase l D cI (lm + 1) (ad 8) (ad 9) (sv N x b) (by omega) (ln_oa (i := 8) hok (by omega)) (hNk _ _) (ad 6) (ad 7) (x 0) (ln_ne (i := 8) hok (by omega) (by omega) (by omega) (by omega)) (ln_ne (i := 8) hok (by omega) (by omega) (by omega) (by omega)) hx0 hsum) (cwV 1 hts gX2_wouldBeTooGreat_X1_increase rfl rfl rfl (by decide +kernel) ⟨Nat.le_of_ble_eq_true rfl, Nat.le_of_ble_eq_true rfl⟩) ⟨nPc_blind, va_recv hK hn19 (ci := 1) (q0 := 0) rfl rfl, nPc_use (hn19u) (hK.sub [0] rfl)⟩ rfl rfl hl.1 rfl (lv_room (Nat.le_of_ble_eq_true rfl)) dX2_wouldBeTooGreat_20 ⟨Nat.le_of_ble_eq_true rfl, Nat.le_of_ble_eq_true rfl⟩) hS (fun q _ h => (fun q h => lA_n (i := 8) (by omega) h) q h) (fun q h => lA_n (i := 8) (by omega) h) (fun _u t H1 locs ht hvm hw hB hz1 hk9 hS => ?_)
  have hP9 := cv (by rw [bx_uu]) (lk_sc hok hP hk9 (pB_at ht hB))
  generalize H1 = H at ht hz1 hk9 hS hP9 ⊢
  have hP : va_P D vwCl (lW ad cI cB cO acc lm rm N (va_up x 1 (sv N x b + x 0)) z ob) H := hP9
  have hD : va_D (lA ad acc) (lW ad cI cB cO acc lm rm N (va_up x 1 (sv N x b + x 0)) z ob) := wlD hok
  have hsz := szF_le (sv N x b + x 0) (lm + 1)
  refine lv_aload_n hx hb dX2_wouldBeTooGreat_23 rfl (lv_at hl 0 rfl) ?_
  refine va_get (D := D) (ci := 2) (v := .ref (ad 8)) (C := RX2) (T := TX2) (N := 11) hx hb hts hi2 hown hK hP 0 (wl_at (by omega)) rfl 8 (by decide) (hts (.fieldLink RX2 49 "BigLedger" "scratch" "LBigLedger$Natural;") (by decide +kernel)) (fun _ h9 => h9) rfl dX2_wouldBeTooGreat_24 ?_
  refine va_getN (D := D) (ci := 1) (host := RX2) (v := .int (nI (szF ((va_up x 1 (sv N x b + x 0)) 1) (lm + 1)))) (C := RX1) (T := TX1) (N := 2) hx hb hts hi1 hown hK hP 8 (wl_at (by omega)) rfl 1 (by decide) (va_Nw.use rfl (hN.2.2.2.2.1)) (fun _ h9 => h9) rfl dX2_wouldBeTooGreat_27 ?_
  refine lv_topi (fun y20 ey20 => ?_)
  replace ey20 : y20 = nI (szF (sv N x b + x 0) (lm + 1)) := ey20.trans (rfl)
  subst ey20
  refine lv_aload_n hx hb dX2_wouldBeTooGreat_30 rfl (lv_at hl 0 rfl) ?_
  refine va_get (D := D) (ci := 2) (v := .int (nI lm)) (C := RX2) (T := TX2) (N := 11) hx hb hts hi2 hown hK hP 0 (wl_at (by omega)) rfl 1 (by decide) (hts (.fieldLink RX2 17 "BigLedger" "limbs" "I") (by decide +kernel)) (fun _ h9 => h9) rfl dX2_wouldBeTooGreat_31 ?_
  refine lv_icmp_le (tgt := 41) hx hb dX2_wouldBeTooGreat_34 (by decide) (fun c1 => ?_) (fun c1 => ?_)
  · refine lv_iconst (v := 0) hx hb dX2_wouldBeTooGreat_41 (by decide) ?_
    exact W.zret (v := 0) (ty := .boolean) hx hb hr (rfl) (fun t ht hW => ⟨⟨_, (), rfl, by rw [if_neg (Nat.not_lt.mpr ((nI_leI (by omega) (by omega)).mp c1))], hp_at ht hP⟩, hS.F ht⟩) hS.2.2 dX2_wouldBeTooGreat_42
  · refine lv_iconst (v := 1) hx hb dX2_wouldBeTooGreat_37 (by decide) ?_
    refine lv_goto (tgt := 42) hx hb dX2_wouldBeTooGreat_38 (by decide) ?_
    exact W.zret (v := 1) (ty := .boolean) hx hb hr (rfl) (fun t ht hW => ⟨⟨_, (), rfl, by rw [if_pos (Nat.lt_of_not_le (fun q => c1 ((nI_leI (by omega) (by omega)).mpr q)))], hp_at ht hP⟩, hS.F ht⟩) hS.2.2 dX2_wouldBeTooGreat_42
set_option maxHeartbeats 4000000 in
set_option maxRecDepth 100000 in
theorem c_dropPending (l : Launch) (D : va_G) (ad : Nat → Nat) (cI cB cO : ClassId) (acc lm rm : Nat) (N : LN) (x : Nat → Nat) (z ob : Nat → Int32) (hok : lOk ad acc lm) : Met l yX2_dropPending wsX2_dropPending ({ frames := 0, cells := 0, slots := 0, locals := 0 }) (lPc [.ref (ad 0)] D (lW ad cI cB cO acc lm rm N x z ob) [(cI, .int), (cB, .byte), (cO, .object "BigLedger$Natural")]) (va_Qv (fun _ : Unit => True) (fun _ t => va_P D vwCl (lW ad cI cB cO acc lm rm N (va_up x 2 0) z ob) t.heap) (lA ad acc)) 0 0 (lA ad acc) := by
  refine Met.ofW (cc := cX2_dropPending) (maxL := 1) (ret := none) (by decide) rfl ?_
  intro p e s m args below meth c s₁ B hml hv
  obtain ⟨rfl, hP, hK, hN⟩ := hv
  have hx := B.exec
  have hb := B.bytes
  have hr := B.returns
  have hts := atoms_spec (ws := wsX2_dropPending) B.pre
  have hown : s.vm.findClass RX2 = some m.cls := findClass_of_methodNamed B.named
  have hlocks := B.notSynchronized
  have hi2 : ∀ w ∈ wsX20, w ∈ wsX2_dropPending := by decide +kernel
  have hok1 := hok.2.1
  have hok2 := hok.2.2.1
  have hok3 := hok.2.2.2
  have hS : va_S (lA ad acc) s.heap s.heap [] := va_S.rf
  have hD : va_D (lA ad acc) (lW ad cI cB cO acc lm rm N x z ob) := wlD hok
  have hl := lv_entry ([.ref (ad 0)]) (n := 1) (Nat.le_of_ble_eq_true rfl)
  rw [lg_entry_eq]
  generalize (lg_sl ([.ref (ad 0)]) ++ List.replicate (1 - (lg_sl ([.ref (ad 0)])).length) Slot.unset).toArray = ls at hl ⊢
  have hl : lv_has ls 1 [(0, .ref (ad 0))] := hl
  refine lv_aload_n hx hb dX2_dropPending_0 rfl (lv_at hl 0 rfl) ?_
  refine lv_iconst (v := 0) hx hb dX2_dropPending_1 (by decide) ?_
  refine lv_topi (fun y21 ey21 => ?_)
  replace ey21 : y21 = nI 0 := ey21.trans (nI_0.symm)
  subst ey21
  refine va_put (D := D) (ci := 2) (v := .int (nI 0)) (ty := .int) (C := RX2) (T := TX2) (N := 11) hx hb hts hi2 tyX2 tyX2_ok nmX2 hown hK hP hD hS 0 (wl_at (by omega)) rfl 5 (by decide) (hts (.fieldLink RX2 126 "BigLedger" "touched" "I") (by decide +kernel)) (fun _ h9 => h9) rfl (by decide +kernel) (rfl) (rfl) (Nat.le_of_ble_eq_true rfl) dX2_dropPending_2 (fun H locs hP hD hS => ?_)
  have hP : va_P D vwCl (lW ad cI cB cO acc lm rm N (va_up x 2 0) z ob) H := cv (ls_touched 0) hP
  have hD : va_D (lA ad acc) (lW ad cI cB cO acc lm rm N (va_up x 2 0) z ob) := wlD hok
  exact W.vret hx hb hr (fun t ht hW => ⟨⟨(), rfl, trivial, hp_at ht hP⟩, hS.F ht⟩) hS.2.2 dX2_dropPending_5
set_option maxHeartbeats 4000000 in
set_option maxRecDepth 100000 in
theorem c_loseMemory (l : Launch) (D : va_G) (ad : Nat → Nat) (cI cB cO : ClassId) (acc lm rm : Nat) (N : LN) (x : Nat → Nat) (z ob : Nat → Int32) (hok : lOk ad acc lm) : Met l yX2_loseMemory wsX2_loseMemory ({ frames := 1, cells := 0, slots := 0, locals := 21 }) (lPc [.ref (ad 0)] D (lW ad cI cB cO acc lm rm N x z ob) [(cI, .int), (cB, .byte), (cO, .object "BigLedger$Natural")]) (va_Qv (fun _ : Unit => True) (fun _ t => va_P D vwCl (lW ad cI cB cO acc lm rm N (cLose x) z ob) t.heap) (lA ad acc)) 0 0 (lA ad acc) := by
  refine Met.ofW (cc := cX2_loseMemory) (maxL := 1) (ret := none) (by decide) rfl ?_
  intro p e s m args below meth c s₁ B hml hv
  obtain ⟨rfl, hP, hK, hN⟩ := hv
  have hx := B.exec
  have hb := B.bytes
  have hr := B.returns
  have hts := atoms_spec (ws := wsX2_loseMemory) B.pre
  have hown : s.vm.findClass RX2 = some m.cls := findClass_of_methodNamed B.named
  have hlocks := B.notSynchronized
  have hi2 : ∀ w ∈ wsX20, w ∈ wsX2_loseMemory := by decide +kernel
  have hok1 := hok.2.1
  have hok2 := hok.2.2.1
  have hok3 := hok.2.2.2
  have hS : va_S (lA ad acc) s.heap s.heap [] := va_S.rf
  have hD : va_D (lA ad acc) (lW ad cI cB cO acc lm rm N x z ob) := wlD hok
  have hl := lv_entry ([.ref (ad 0)]) (n := 1) (Nat.le_of_ble_eq_true rfl)
  rw [lg_entry_eq]
  generalize (lg_sl ([.ref (ad 0)]) ++ List.replicate (1 - (lg_sl ([.ref (ad 0)])).length) Slot.unset).toArray = ls at hl ⊢
  have hl : lv_has ls 1 [(0, .ref (ad 0))] := hl
  refine lv_aload_n hx hb dX2_loseMemory_0 rfl (lv_at hl 0 rfl) ?_
  refine va_callv (va_runV (As := []) (rest := []) ⟨hx, hb, hml, hown, hts⟩ (c_dropPending l D ad cI cB cO acc lm rm N x z ob hok) (cwV 0 hts gX2_loseMemory_X2_dropPending rfl rfl rfl (by decide +kernel) ⟨Nat.le_of_ble_eq_true rfl, Nat.le_of_ble_eq_true rfl⟩) ⟨lPc_blind, va_recv hK hP (ci := 2) (q0 := 0) rfl (wl_at (by omega)), lPc_use (hP) ⟨hK, hN⟩⟩ rfl rfl hl.1 rfl (lv_room (Nat.le_of_ble_eq_true rfl)) dX2_loseMemory_1 ⟨Nat.le_of_ble_eq_true rfl, Nat.le_of_ble_eq_true rfl⟩) hS (fun q _ h => (fun _ h => h) q h) (fun _ h => h) (fun _u t H1 locs ht hvm hw hB hz1 hk9 hS => ?_)
  generalize H1 = H at ht hz1 hk9 hS ⊢
  have hP : va_P D vwCl (lW ad cI cB cO acc lm rm N (va_up x 2 0) z ob) H := pB_at ht hB
  have hD : va_D (lA ad acc) (lW ad cI cB cO acc lm rm N (va_up x 2 0) z ob) := wlD hok
  refine lv_aload_n hx hb dX2_loseMemory_4 rfl (lv_at hl 0 rfl) ?_
  refine va_get (D := D) (ci := 2) (v := .ref (ad 6)) (C := RX2) (T := TX2) (N := 11) hx hb hts hi2 hown hK hP 0 (wl_at (by omega)) rfl 6 (by decide) (hts (.fieldLink RX2 45 "BigLedger" "amount" "LBigLedger$Natural;") (by decide +kernel)) (fun _ h9 => h9) rfl dX2_loseMemory_5 ?_
  have hn22 := ln_am hP
  refine va_callv (va_runV (As := []) (rest := []) ⟨hx, hb, hml, hown, hts⟩ (c_setZero l D cI (lm + 1) (ad 6) (ad 7) (x 0) (by omega) (ln_oa (i := 6) hok (by omega))) (cwV 0 hts gX2_loseMemory_X1_setZero rfl rfl rfl (by decide +kernel) ⟨Nat.le_of_ble_eq_true rfl, Nat.le_of_ble_eq_true rfl⟩) ⟨nPc_blind, va_recv hK hn22 (ci := 1) (q0 := 0) rfl rfl, nPc_use (hn22) (hK.sub [0] rfl)⟩ rfl rfl hl.1 rfl (lv_room (Nat.le_of_ble_eq_true rfl)) dX2_loseMemory_8 ⟨Nat.le_of_ble_eq_true rfl, Nat.le_of_ble_eq_true rfl⟩) hS (fun q _ h => (fun q h => lA_n (i := 6) (by omega) h) q h) (fun q h => lA_n (i := 6) (by omega) h) (fun _u t H1 locs ht hvm hw hB hz1 hk9 hS => ?_)
  have hP9 := lk_am hok hP hk9 (pB_at ht hB)
  generalize H1 = H at ht hz1 hk9 hS hP9 ⊢
  have hP : va_P D vwCl (lW ad cI cB cO acc lm rm N (cLose x) z ob) H := hP9
  have hD : va_D (lA ad acc) (lW ad cI cB cO acc lm rm N (cLose x) z ob) := wlD hok
  exact W.vret hx hb hr (fun t ht hW => ⟨⟨(), rfl, trivial, hp_at ht hP⟩, hS.F ht⟩) hS.2.2 dX2_loseMemory_11
end
section
set_option maxHeartbeats 4000000 in
set_option maxRecDepth 100000 in
theorem c_deposit (l : Launch) (D : va_G) (ad : Nat → Nat) (cI cB cO : ClassId) (acc lm rm : Nat) (N : LN) (x : Nat → Nat) (z ob : Nat → Int32) (hok : lOk ad acc lm) (hNk : nOk lm N) (hx0 : x 0 < 2147483648 ^ (lm + 1)) (hx1 : x 1 < 2147483648 ^ (lm + 1)) (hx2 : x 2 < 33554432) (hrm : rm ≤ 25) (p0 : Int32) (hadd : ∀ b, b ≤ acc → sv N x b + x 0 < 2147483648 ^ (lm + 1)) : Met l yX2_deposit wsX2_deposit ({ frames := 3, cells := 0, slots := 0, locals := 68 }) (lPc [.ref (ad 0), .int (p0)] D (lW ad cI cB cO acc lm rm N x z ob) [(cI, .int), (cB, .byte), (cO, .object "BigLedger$Natural")]) (va_Qi (fun (r : Int32) (u : DS) => (r, u) = cDep acc lm rm p0 (N, x, z)) (fun u t => va_P D vwCl (lW ad cI cB cO acc lm rm u.1 u.2.1 u.2.2 ob) t.heap) (lA ad acc)) 0 0 (lA ad acc) := by
  refine Met.ofW (cc := cX2_deposit) (maxL := 2) (ret := (some .int)) (by decide) rfl ?_
  intro p e s m args below meth c s₁ B hml hv
  obtain ⟨rfl, hP, hK, hN⟩ := hv
  have hx := B.exec
  have hb := B.bytes
  have hr := B.returns
  have hts := atoms_spec (ws := wsX2_deposit) B.pre
  have hown : s.vm.findClass RX2 = some m.cls := findClass_of_methodNamed B.named
  have hlocks := B.notSynchronized
  have hi2 : ∀ w ∈ wsX20, w ∈ wsX2_deposit := by decide +kernel
  have hok1 := hok.2.1
  have hok2 := hok.2.2.1
  have hok3 := hok.2.2.2
  have hS : va_S (lA ad acc) s.heap s.heap [] := va_S.rf
  have hD : va_D (lA ad acc) (lW ad cI cB cO acc lm rm N x z ob) := wlD hok
  have hl := lv_entry ([.ref (ad 0), .int (p0)]) (n := 2) (Nat.le_of_ble_eq_true rfl)
  rw [lg_entry_eq]
  generalize (lg_sl ([.ref (ad 0), .int (p0)]) ++ List.replicate (2 - (lg_sl ([.ref (ad 0), .int (p0)])).length) Slot.unset).toArray = ls at hl ⊢
  have hl : lv_has ls 2 [(0, .ref (ad 0)), (1, .int (p0))] := hl
  refine lv_aload_n hx hb dX2_deposit_0 rfl (lv_at hl 0 rfl) ?_
  refine va_get (D := D) (ci := 2) (v := .int (z 0)) (C := RX2) (T := TX2) (N := 11) hx hb hts hi2 hown hK hP 0 (wl_at (by omega)) rfl 7 (by decide) (hts (.fieldLink RX2 71 "BigLedger" "up" "Z") (by decide +kernel)) (fun _ h9 => h9) rfl dX2_deposit_1 ?_
  refine lv_if_ne (tgt := 10) hx hb dX2_deposit_4 (by decide) (fun c0 => ?_) (fun c0 => ?_)
  · refine lv_aload_n hx hb dX2_deposit_10 rfl (lv_at hl 0 rfl) ?_
    refine lv_iload_n hx hb dX2_deposit_11 rfl (lv_at hl 1 rfl) ?_
    refine vp_callSi (W.runV (As := [.int (p0)]) (rest := []) ⟨hx, hb, hml, hown, hts⟩ (c_isAccount l D ad cI cB cO acc lm rm N x z ob hok p0) (cwV 1 hts gX2_deposit_X2_isAccount rfl rfl rfl (by decide +kernel) ⟨Nat.le_of_ble_eq_true rfl, Nat.le_of_ble_eq_true rfl⟩) ⟨lPc_blind, va_recv hK hP (ci := 2) (q0 := 0) rfl (wl_at (by omega)), lPc_use (hP) ⟨hK, hN⟩⟩ rfl rfl hl.1 rfl (lv_room (Nat.le_of_ble_eq_true rfl)) dX2_deposit_12 ⟨Nat.le_of_ble_eq_true rfl, Nat.le_of_ble_eq_true rfl⟩) (fun ra hra => ?_)
    refine lv_if_ne (tgt := 20) hx hb dX2_deposit_15 (by decide) (fun c1 => ?_) (fun c1 => ?_)
    · have ha : isAcc acc p0 = true := Classical.byContradiction (fun q => c1 (by rw [hra, if_neg q]))
      obtain ⟨b, hqb, rfl⟩ := isAcc_t (by omega) ha
      have eb : (nI b).toNatClampNeg = b := nI_clamp (by omega)
      refine lv_aload_n hx hb dX2_deposit_20 rfl (lv_at hl 0 rfl) ?_
      refine lv_iload_n hx hb dX2_deposit_21 rfl (lv_at hl 1 rfl) ?_
      refine va_calli (va_runV (As := [.int (nI b)]) (rest := []) ⟨hx, hb, hml, hown, hts⟩ (c_wouldBeTooGreat l D ad cI cB cO acc lm rm N x z ob hok hNk hx0 hx1 b (by omega) (hadd b (by omega))) (cwV 1 hts gX2_deposit_X2_wouldBeTooGreat rfl rfl rfl (by decide +kernel) ⟨Nat.le_of_ble_eq_true rfl, Nat.le_of_ble_eq_true rfl⟩) ⟨lPc_blind, va_recv hK hP (ci := 2) (q0 := 0) rfl (wl_at (by omega)), lPc_use (hP) ⟨hK, hN⟩⟩ rfl rfl hl.1 rfl (lv_room (Nat.le_of_ble_eq_true rfl)) dX2_deposit_22 ⟨Nat.le_of_ble_eq_true rfl, Nat.le_of_ble_eq_true rfl⟩) hS (fun q _ h => (fun _ h => h) q h) (fun _ h => h) (fun rg _u t H1 locs ht hvm hwg hB hz1 hk9 hS => ?_)
      generalize H1 = H at ht hz1 hk9 hS ⊢
      have hP : va_P D vwCl (lW ad cI cB cO acc lm rm N (va_up x 1 (sv N x b + x 0)) z ob) H := pB_at ht hB
      have hD : va_D (lA ad acc) (lW ad cI cB cO acc lm rm N (va_up x 1 (sv N x b + x 0)) z ob) := wlD hok
      refine lv_if_eq (tgt := 30) hx hb dX2_deposit_25 (by decide) (fun c2 => ?_) (fun c2 => ?_)
      · replace c2 : ¬ lm < szF (sv N x b + x 0) (lm + 1) := fun q => absurd c2 (by rw [hwg, if_pos q]; decide)
        refine lv_aload_n hx hb dX2_deposit_30 rfl (lv_at hl 0 rfl) ?_
        refine lv_iload_n hx hb dX2_deposit_31 rfl (lv_at hl 1 rfl) ?_
        refine lv_aload_n hx hb dX2_deposit_32 rfl (lv_at hl 0 rfl) ?_
        refine vp_callSi (W.runV (As := []) (rest := [.int (nI b), .ref (ad 0)]) ⟨hx, hb, hml, hown, hts⟩ (c_totalBlock l D ad cI cB cO acc lm rm N (va_up x 1 (sv N x b + x 0)) z ob hok) (cwV 0 hts gX2_deposit_X2_totalBlock rfl rfl rfl (by decide +kernel) ⟨Nat.le_of_ble_eq_true rfl, Nat.le_of_ble_eq_true rfl⟩) ⟨lPc_blind, va_recv hK hP (ci := 2) (q0 := 0) rfl (wl_at (by omega)), lPc_use (hP) ⟨hK, hN⟩⟩ rfl rfl hl.1 rfl (lv_room (Nat.le_of_ble_eq_true rfl)) dX2_deposit_33 ⟨Nat.le_of_ble_eq_true rfl, Nat.le_of_ble_eq_true rfl⟩) (fun rt hrt => ?_)
        subst hrt
        refine vp_callSi (W.runV (As := [.int (nI b), .int (nI acc)]) (rest := []) ⟨hx, hb, hml, hown, hts⟩ (c_hasRoomFor l D ad cI cB cO acc lm rm N (va_up x 1 (sv N x b + x 0)) z ob hok b acc (by omega) (by omega) hx2 hrm) (cwV 2 hts gX2_deposit_X2_hasRoomFor rfl rfl rfl (by decide +kernel) ⟨Nat.le_of_ble_eq_true rfl, Nat.le_of_ble_eq_true rfl⟩) ⟨lPc_blind, va_recv hK hP (ci := 2) (q0 := 0) rfl (wl_at (by omega)), lPc_use (hP) ⟨hK, hN⟩⟩ rfl rfl hl.1 rfl (lv_room (Nat.le_of_ble_eq_true rfl)) dX2_deposit_36 ⟨Nat.le_of_ble_eq_true rfl, Nat.le_of_ble_eq_true rfl⟩) (fun rr hrr => ?_)
        refine lv_if_ne (tgt := 44) hx hb dX2_deposit_39 (by decide) (fun c3 => ?_) (fun c3 => ?_)
        · replace c3 : ctb (x 2 ||| 2 ^ b ||| 2 ^ acc) ≤ rm := Classical.byContradiction (fun q => c3 (hrr.trans (if_neg q)))
          refine lv_aload_n hx hb dX2_deposit_44 rfl (lv_at hl 0 rfl) ?_
          refine lv_iload_n hx hb dX2_deposit_45 rfl (lv_at hl 1 rfl) ?_
          refine va_callr (va_runV (As := [.int (nI b)]) (rest := []) ⟨hx, hb, hml, hown, hts⟩ (c_touch l D ad cI cB cO acc lm rm N (va_up x 1 (sv N x b + x 0)) z ob hok hNk b (by omega)) (cwV 1 hts gX2_deposit_X2_touch rfl rfl rfl (by decide +kernel) ⟨Nat.le_of_ble_eq_true rfl, Nat.le_of_ble_eq_true rfl⟩) ⟨lPc_blind, va_recv hK hP (ci := 2) (q0 := 0) rfl (wl_at (by omega)), lPc_use (hP) ⟨hK, hN⟩⟩ rfl rfl hl.1 rfl (lv_room (Nat.le_of_ble_eq_true rfl)) dX2_deposit_46 ⟨Nat.le_of_ble_eq_true rfl, Nat.le_of_ble_eq_true rfl⟩) hS (fun q _ h => (fun _ h => h) q h) (fun _ h => h) (fun _u ra t H1 locs ht hvm hw hB hz1 hk9 hS => ?_)
          obtain ⟨hra, hB⟩ := hB
          subst hra
          generalize H1 = H at ht hz1 hk9 hS ⊢
          have hP : va_P D vwCl (lW ad cI cB cO acc lm rm (tN N (va_up x 1 (sv N x b + x 0)) b) (tX (va_up x 1 (sv N x b + x 0)) b) z ob) H := pB_at ht hB
          have hD : va_D (lA ad acc) (lW ad cI cB cO acc lm rm (tN N (va_up x 1 (sv N x b + x 0)) b) (tX (va_up x 1 (sv N x b + x 0)) b) z ob) := wlD hok
          refine lv_aload_n hx hb dX2_deposit_49 rfl (lv_at hl 0 rfl) ?_
          refine va_get (D := D) (ci := 2) (v := .ref (ad 6)) (C := RX2) (T := TX2) (N := 11) hx hb hts hi2 hown hK hP 0 (wl_at (by omega)) rfl 6 (by decide) (hts (.fieldLink RX2 45 "BigLedger" "amount" "LBigLedger$Natural;") (by decide +kernel)) (fun _ h9 => h9) rfl dX2_deposit_50 ?_
          have hs1 : tN N (va_up x 1 (sv N x b + x 0)) b 0 b + tX (va_up x 1 (sv N x b + x 0)) b 0 < 2147483648 ^ (lm + 1) := by rw [tN_at, tX_ne _ _ (by decide)]; exact hadd b (by omega)
          have hs2 : tX (va_up x 1 (sv N x b + x 0)) b 0 < 2147483648 ^ (lm + 1) := by rw [tX_ne _ _ (by decide)]; exact hx0
          have hk1 := nOk_tN hNk (va_up x 1 (sv N x b + x 0)) b
          have hn23 := ln_p hP 0 b (by decide) (by omega)
          have hn23u := va_P.app hn23 (ln_am hP)
          refine va_callv (va_runV (As := [.ref (ad 6)]) (rest := []) ⟨hx, hb, hml, hown, hts⟩ (c_increase l D cI (lm + 1) (ad (6 * b + 2 * 0 + 10)) (ad (6 * b + 2 * 0 + 11)) ((tN N (va_up x 1 (sv N x b + x 0)) b) 0 b) (by omega) (ln_oa (i := 6 * b + 2 * 0 + 10) hok (by omega)) (hk1 _ _) (ad 6) (ad 7) ((tX (va_up x 1 (sv N x b + x 0)) b) 0) (ln_ne (i := 6 * b + 2 * 0 + 10) hok (by omega) (by omega) (by omega) (by omega)) (ln_ne (i := 6 * b + 2 * 0 + 10) hok (by omega) (by omega) (by omega) (by omega)) (hs2) (hs1)) (cwV 1 hts gX2_deposit_X1_increase rfl rfl rfl (by decide +kernel) ⟨Nat.le_of_ble_eq_true rfl, Nat.le_of_ble_eq_true rfl⟩) ⟨nPc_blind, va_recv hK hn23 (ci := 1) (q0 := 0) rfl rfl, nPc_use (hn23u) (hK.sub [0] rfl)⟩ rfl rfl hl.1 rfl (lv_room (Nat.le_of_ble_eq_true rfl)) dX2_deposit_53 ⟨Nat.le_of_ble_eq_true rfl, Nat.le_of_ble_eq_true rfl⟩) hS (fun q _ h => (fun q h => lA_n (i := 6 * b + 2 * 0 + 10) (by omega) h) q h) (fun q h => lA_n (i := 6 * b + 2 * 0 + 10) (by omega) h) (fun _u t H1 locs ht hvm hw hB hz1 hk9 hS => ?_)
          have hP9 := lk_p (k := 0) (b := b) hok (by decide) (by omega) hP hk9 (pB_at ht hB)
          generalize H1 = H at ht hz1 hk9 hS hP9 ⊢
          have hP : va_P D vwCl (lW ad cI cB cO acc lm rm (iN N (va_up x 1 (sv N x b + x 0)) b) (tX (va_up x 1 (sv N x b + x 0)) b) z ob) H := hP9
          have hD : va_D (lA ad acc) (lW ad cI cB cO acc lm rm (iN N (va_up x 1 (sv N x b + x 0)) b) (tX (va_up x 1 (sv N x b + x 0)) b) z ob) := wlD hok
          have hk2 : nOk lm (iN N (va_up x 1 (sv N x b + x 0)) b) := nOk_up hk1 hs1
          have hs3 : tX (tX (va_up x 1 (sv N x b + x 0)) b) acc 0 < 2147483648 ^ (lm + 1) := by rw [tX_ne _ _ (by decide)]; exact hs2
          have hs4 : tN (iN N (va_up x 1 (sv N x b + x 0)) b) (tX (va_up x 1 (sv N x b + x 0)) b) acc 0 acc + tX (tX (va_up x 1 (sv N x b + x 0)) b) acc 0 < 2147483648 ^ (lm + 1) := by
            rw [tN_at, sv_iN_ne _ _ (by omega), tX_ne _ _ (by decide), tX_ne _ _ (by decide)]
            exact hadd acc (Nat.le_refl _)
          refine lv_aload_n hx hb dX2_deposit_56 rfl (lv_at hl 0 rfl) ?_
          refine lv_aload_n hx hb dX2_deposit_57 rfl (lv_at hl 0 rfl) ?_
          refine vp_callSi (W.runV (As := []) (rest := [.ref (ad 0)]) ⟨hx, hb, hml, hown, hts⟩ (c_totalBlock l D ad cI cB cO acc lm rm (iN N (va_up x 1 (sv N x b + x 0)) b) (tX (va_up x 1 (sv N x b + x 0)) b) z ob hok) (cwV 0 hts gX2_deposit_X2_totalBlock rfl rfl rfl (by decide +kernel) ⟨Nat.le_of_ble_eq_true rfl, Nat.le_of_ble_eq_true rfl⟩) ⟨lPc_blind, va_recv hK hP (ci := 2) (q0 := 0) rfl (wl_at (by omega)), lPc_use (hP) ⟨hK, hN⟩⟩ rfl rfl hl.1 rfl (lv_room (Nat.le_of_ble_eq_true rfl)) dX2_deposit_58 ⟨Nat.le_of_ble_eq_true rfl, Nat.le_of_ble_eq_true rfl⟩) (fun rt hrt => ?_)
          subst hrt
          refine va_callr (va_runV (As := [.int (nI acc)]) (rest := []) ⟨hx, hb, hml, hown, hts⟩ (c_touch l D ad cI cB cO acc lm rm (iN N (va_up x 1 (sv N x b + x 0)) b) (tX (va_up x 1 (sv N x b + x 0)) b) z ob hok hk2 acc (by omega)) (cwV 1 hts gX2_deposit_X2_touch rfl rfl rfl (by decide +kernel) ⟨Nat.le_of_ble_eq_true rfl, Nat.le_of_ble_eq_true rfl⟩) ⟨lPc_blind, va_recv hK hP (ci := 2) (q0 := 0) rfl (wl_at (by omega)), lPc_use (hP) ⟨hK, hN⟩⟩ rfl rfl hl.1 rfl (lv_room (Nat.le_of_ble_eq_true rfl)) dX2_deposit_61 ⟨Nat.le_of_ble_eq_true rfl, Nat.le_of_ble_eq_true rfl⟩) hS (fun q _ h => (fun _ h => h) q h) (fun _ h => h) (fun _u ra t H1 locs ht hvm hw hB hz1 hk9 hS => ?_)
          obtain ⟨hra, hB⟩ := hB
          subst hra
          generalize H1 = H at ht hz1 hk9 hS ⊢
          have hP : va_P D vwCl (lW ad cI cB cO acc lm rm (tN (iN N (va_up x 1 (sv N x b + x 0)) b) (tX (va_up x 1 (sv N x b + x 0)) b) acc) (tX (tX (va_up x 1 (sv N x b + x 0)) b) acc) z ob) H := pB_at ht hB
          have hD : va_D (lA ad acc) (lW ad cI cB cO acc lm rm (tN (iN N (va_up x 1 (sv N x b + x 0)) b) (tX (va_up x 1 (sv N x b + x 0)) b) acc) (tX (tX (va_up x 1 (sv N x b + x 0)) b) acc) z ob) := wlD hok
          refine lv_aload_n hx hb dX2_deposit_64 rfl (lv_at hl 0 rfl) ?_
          refine va_get (D := D) (ci := 2) (v := .ref (ad 6)) (C := RX2) (T := TX2) (N := 11) hx hb hts hi2 hown hK hP 0 (wl_at (by omega)) rfl 6 (by decide) (hts (.fieldLink RX2 45 "BigLedger" "amount" "LBigLedger$Natural;") (by decide +kernel)) (fun _ h9 => h9) rfl dX2_deposit_65 ?_
          have hk3 := nOk_tN hk2 (tX (va_up x 1 (sv N x b + x 0)) b) acc
          have hn24 := ln_p hP 0 acc (by decide) (by omega)
          have hn24u := va_P.app hn24 (ln_am hP)
          refine va_callv (va_runV (As := [.ref (ad 6)]) (rest := []) ⟨hx, hb, hml, hown, hts⟩ (c_increase l D cI (lm + 1) (ad (6 * acc + 2 * 0 + 10)) (ad (6 * acc + 2 * 0 + 11)) ((tN (iN N (va_up x 1 (sv N x b + x 0)) b) (tX (va_up x 1 (sv N x b + x 0)) b) acc) 0 acc) (by omega) (ln_oa (i := 6 * acc + 2 * 0 + 10) hok (by omega)) (hk3 _ _) (ad 6) (ad 7) ((tX (tX (va_up x 1 (sv N x b + x 0)) b) acc) 0) (ln_ne (i := 6 * acc + 2 * 0 + 10) hok (by omega) (by omega) (by omega) (by omega)) (ln_ne (i := 6 * acc + 2 * 0 + 10) hok (by omega) (by omega) (by omega) (by omega)) (hs3) (hs4)) (cwV 1 hts gX2_deposit_X1_increase rfl rfl rfl (by decide +kernel) ⟨Nat.le_of_ble_eq_true rfl, Nat.le_of_ble_eq_true rfl⟩) ⟨nPc_blind, va_recv hK hn24 (ci := 1) (q0 := 0) rfl rfl, nPc_use (hn24u) (hK.sub [0] rfl)⟩ rfl rfl hl.1 rfl (lv_room (Nat.le_of_ble_eq_true rfl)) dX2_deposit_68 ⟨Nat.le_of_ble_eq_true rfl, Nat.le_of_ble_eq_true rfl⟩) hS (fun q _ h => (fun q h => lA_n (i := 6 * acc + 2 * 0 + 10) (by omega) h) q h) (fun q h => lA_n (i := 6 * acc + 2 * 0 + 10) (by omega) h) (fun _u t H1 locs ht hvm hw hB hz1 hk9 hS => ?_)
          have hP9 := lk_p (k := 0) (b := acc) hok (by decide) (by omega) hP hk9 (pB_at ht hB)
          generalize H1 = H at ht hz1 hk9 hS hP9 ⊢
          have hP : va_P D vwCl (lW ad cI cB cO acc lm rm (iN (iN N (va_up x 1 (sv N x b + x 0)) b) (tX (va_up x 1 (sv N x b + x 0)) b) acc) (tX (tX (va_up x 1 (sv N x b + x 0)) b) acc) z ob) H := hP9
          have hD : va_D (lA ad acc) (lW ad cI cB cO acc lm rm (iN (iN N (va_up x 1 (sv N x b + x 0)) b) (tX (va_up x 1 (sv N x b + x 0)) b) acc) (tX (tX (va_up x 1 (sv N x b + x 0)) b) acc) z ob) := wlD hok
          refine lv_iconst (v := 0) hx hb dX2_deposit_71 (by decide) ?_
          exact W.iret (v := 0) hx hb hr (fun t ht hW => ⟨⟨_, (iN (iN N (va_up x 1 (sv N x b + x 0)) b) (tX (va_up x 1 (sv N x b + x 0)) b) acc, tX (tX (va_up x 1 (sv N x b + x 0)) b) acc, z), rfl, by rw [cDep, eb]; exact ((if_neg (c0)).trans ((if_neg ((fun q => q ha))).trans ((if_neg (c2)).trans (if_neg ((fun q => q c3)))))).symm, hp_at ht hP⟩, hS.F ht⟩) hS.2.2 dX2_deposit_72
        · replace c3 : ¬ ctb (x 2 ||| 2 ^ b ||| 2 ^ acc) ≤ rm := fun q => absurd c3 (by rw [hrr]; exact fun q2 => absurd (q2.symm.trans (if_pos q)) (by decide))
          refine lv_iconst (v := 4) hx hb dX2_deposit_42 (by decide) ?_
          exact W.iret (v := 4) hx hb hr (fun t ht hW => ⟨⟨_, (N, va_up x 1 (sv N x b + x 0), z), rfl, by rw [cDep, eb]; exact ((if_neg (c0)).trans ((if_neg ((fun q => q ha))).trans ((if_neg (c2)).trans (if_pos (c3))))).symm, hp_at ht hP⟩, hS.F ht⟩) hS.2.2 dX2_deposit_43
      · replace c2 : lm < szF (sv N x b + x 0) (lm + 1) := Classical.byContradiction (fun q => c2 (by rw [hwg, if_neg q]))
        refine lv_iconst (v := 3) hx hb dX2_deposit_28 (by decide) ?_
        exact W.iret (v := 3) hx hb hr (fun t ht hW => ⟨⟨_, (N, va_up x 1 (sv N x b + x 0), z), rfl, by rw [cDep, eb]; exact ((if_neg (c0)).trans ((if_neg ((fun q => q ha))).trans (if_pos (c2)))).symm, hp_at ht hP⟩, hS.F ht⟩) hS.2.2 dX2_deposit_29
    · have ha : ¬ isAcc acc p0 = true := fun q => absurd c1 (by rw [hra, if_pos q]; decide)
      refine lv_iconst (v := 1) hx hb dX2_deposit_18 (by decide) ?_
      exact W.iret (v := 1) hx hb hr (fun t ht hW => ⟨⟨_, (N, x, z), rfl, by rw [cDep]; exact ((if_neg (c0)).trans (if_pos (ha))).symm, hp_at ht hP⟩, hS.F ht⟩) hS.2.2 dX2_deposit_19
  · refine lv_bipush (v := 6) hx hb dX2_deposit_7 (by decide) ?_
    exact W.iret (v := 6) hx hb hr (fun t ht hW => ⟨⟨_, (N, x, z), rfl, by rw [cDep]; exact (if_pos (c0)).symm, hp_at ht hP⟩, hS.F ht⟩) hS.2.2 dX2_deposit_9
set_option maxHeartbeats 4000000 in
set_option maxRecDepth 100000 in
theorem c_withdraw (l : Launch) (D : va_G) (ad : Nat → Nat) (cI cB cO : ClassId) (acc lm rm : Nat) (N : LN) (x : Nat → Nat) (z ob : Nat → Int32) (hok : lOk ad acc lm) (hNk : nOk lm N) (hx0 : x 0 < 2147483648 ^ (lm + 1)) (hx1 : x 1 < 2147483648 ^ (lm + 1)) (hx2 : x 2 < 33554432) (hrm : rm ≤ 25) (p0 : Int32) (hsub : ∀ b, b < acc → x 0 ≤ sv N x b → x 0 ≤ sv N x acc) : Met l yX2_withdraw wsX2_withdraw ({ frames := 3, cells := 0, slots := 0, locals := 65 }) (lPc [.ref (ad 0), .int (p0)] D (lW ad cI cB cO acc lm rm N x z ob) [(cI, .int), (cB, .byte), (cO, .object "BigLedger$Natural")]) (va_Qi (fun (r : Int32) (u : DS) => (r, u) = cWd acc rm p0 (N, x, z)) (fun u t => va_P D vwCl (lW ad cI cB cO acc lm rm u.1 u.2.1 u.2.2 ob) t.heap) (lA ad acc)) 0 0 (lA ad acc) := by
  refine Met.ofW (cc := cX2_withdraw) (maxL := 2) (ret := (some .int)) (by decide) rfl ?_
  intro p e s m args below meth c s₁ B hml hv
  obtain ⟨rfl, hP, hK, hN⟩ := hv
  have hx := B.exec
  have hb := B.bytes
  have hr := B.returns
  have hts := atoms_spec (ws := wsX2_withdraw) B.pre
  have hown : s.vm.findClass RX2 = some m.cls := findClass_of_methodNamed B.named
  have hlocks := B.notSynchronized
  have hi2 : ∀ w ∈ wsX20, w ∈ wsX2_withdraw := by decide +kernel
  have hok1 := hok.2.1
  have hok2 := hok.2.2.1
  have hok3 := hok.2.2.2
  have hS : va_S (lA ad acc) s.heap s.heap [] := va_S.rf
  have hD : va_D (lA ad acc) (lW ad cI cB cO acc lm rm N x z ob) := wlD hok
  have hl := lv_entry ([.ref (ad 0), .int (p0)]) (n := 2) (Nat.le_of_ble_eq_true rfl)
  rw [lg_entry_eq]
  generalize (lg_sl ([.ref (ad 0), .int (p0)]) ++ List.replicate (2 - (lg_sl ([.ref (ad 0), .int (p0)])).length) Slot.unset).toArray = ls at hl ⊢
  have hl : lv_has ls 2 [(0, .ref (ad 0)), (1, .int (p0))] := hl
  refine lv_aload_n hx hb dX2_withdraw_0 rfl (lv_at hl 0 rfl) ?_
  refine va_get (D := D) (ci := 2) (v := .int (z 0)) (C := RX2) (T := TX2) (N := 11) hx hb hts hi2 hown hK hP 0 (wl_at (by omega)) rfl 7 (by decide) (hts (.fieldLink RX2 71 "BigLedger" "up" "Z") (by decide +kernel)) (fun _ h9 => h9) rfl dX2_withdraw_1 ?_
  refine lv_if_ne (tgt := 10) hx hb dX2_withdraw_4 (by decide) (fun c0 => ?_) (fun c0 => ?_)
  · refine lv_aload_n hx hb dX2_withdraw_10 rfl (lv_at hl 0 rfl) ?_
    refine lv_iload_n hx hb dX2_withdraw_11 rfl (lv_at hl 1 rfl) ?_
    refine vp_callSi (W.runV (As := [.int (p0)]) (rest := []) ⟨hx, hb, hml, hown, hts⟩ (c_isAccount l D ad cI cB cO acc lm rm N x z ob hok p0) (cwV 1 hts gX2_withdraw_X2_isAccount rfl rfl rfl (by decide +kernel) ⟨Nat.le_of_ble_eq_true rfl, Nat.le_of_ble_eq_true rfl⟩) ⟨lPc_blind, va_recv hK hP (ci := 2) (q0 := 0) rfl (wl_at (by omega)), lPc_use (hP) ⟨hK, hN⟩⟩ rfl rfl hl.1 rfl (lv_room (Nat.le_of_ble_eq_true rfl)) dX2_withdraw_12 ⟨Nat.le_of_ble_eq_true rfl, Nat.le_of_ble_eq_true rfl⟩) (fun ra hra => ?_)
    refine lv_if_ne (tgt := 20) hx hb dX2_withdraw_15 (by decide) (fun c1 => ?_) (fun c1 => ?_)
    · have ha : isAcc acc p0 = true := Classical.byContradiction (fun q => c1 (by rw [hra, if_neg q]))
      obtain ⟨b, hqb, rfl⟩ := isAcc_t (by omega) ha
      have eb : (nI b).toNatClampNeg = b := nI_clamp (by omega)
      refine lv_aload_n hx hb dX2_withdraw_20 rfl (lv_at hl 0 rfl) ?_
      refine lv_iload_n hx hb dX2_withdraw_21 rfl (lv_at hl 1 rfl) ?_
      refine vp_callSi (W.runV (As := [.int (nI b)]) (rest := []) ⟨hx, hb, hml, hown, hts⟩ (c_isAmountAbove l D ad cI cB cO acc lm rm N x z ob hok hNk hx0 b (by omega)) (cwV 1 hts gX2_withdraw_X2_isAmountAbove rfl rfl rfl (by decide +kernel) ⟨Nat.le_of_ble_eq_true rfl, Nat.le_of_ble_eq_true rfl⟩) ⟨lPc_blind, va_recv hK hP (ci := 2) (q0 := 0) rfl (wl_at (by omega)), lPc_use (hP) ⟨hK, hN⟩⟩ rfl rfl hl.1 rfl (lv_room (Nat.le_of_ble_eq_true rfl)) dX2_withdraw_22 ⟨Nat.le_of_ble_eq_true rfl, Nat.le_of_ble_eq_true rfl⟩) (fun rg hrg => ?_)
      refine lv_if_eq (tgt := 30) hx hb dX2_withdraw_25 (by decide) (fun c2 => ?_) (fun c2 => ?_)
      · replace c2 : ¬ sv N x b < x 0 := fun q => absurd (c2.symm.trans (hrg.trans (if_pos q))) (by decide)
        refine lv_aload_n hx hb dX2_withdraw_30 rfl (lv_at hl 0 rfl) ?_
        refine lv_iload_n hx hb dX2_withdraw_31 rfl (lv_at hl 1 rfl) ?_
        refine lv_aload_n hx hb dX2_withdraw_32 rfl (lv_at hl 0 rfl) ?_
        refine vp_callSi (W.runV (As := []) (rest := [.int (nI b), .ref (ad 0)]) ⟨hx, hb, hml, hown, hts⟩ (c_totalBlock l D ad cI cB cO acc lm rm N x z ob hok) (cwV 0 hts gX2_withdraw_X2_totalBlock rfl rfl rfl (by decide +kernel) ⟨Nat.le_of_ble_eq_true rfl, Nat.le_of_ble_eq_true rfl⟩) ⟨lPc_blind, va_recv hK hP (ci := 2) (q0 := 0) rfl (wl_at (by omega)), lPc_use (hP) ⟨hK, hN⟩⟩ rfl rfl hl.1 rfl (lv_room (Nat.le_of_ble_eq_true rfl)) dX2_withdraw_33 ⟨Nat.le_of_ble_eq_true rfl, Nat.le_of_ble_eq_true rfl⟩) (fun rt hrt => ?_)
        subst hrt
        refine vp_callSi (W.runV (As := [.int (nI b), .int (nI acc)]) (rest := []) ⟨hx, hb, hml, hown, hts⟩ (c_hasRoomFor l D ad cI cB cO acc lm rm N x z ob hok b acc (by omega) (by omega) hx2 hrm) (cwV 2 hts gX2_withdraw_X2_hasRoomFor rfl rfl rfl (by decide +kernel) ⟨Nat.le_of_ble_eq_true rfl, Nat.le_of_ble_eq_true rfl⟩) ⟨lPc_blind, va_recv hK hP (ci := 2) (q0 := 0) rfl (wl_at (by omega)), lPc_use (hP) ⟨hK, hN⟩⟩ rfl rfl hl.1 rfl (lv_room (Nat.le_of_ble_eq_true rfl)) dX2_withdraw_36 ⟨Nat.le_of_ble_eq_true rfl, Nat.le_of_ble_eq_true rfl⟩) (fun rr hrr => ?_)
        refine lv_if_ne (tgt := 44) hx hb dX2_withdraw_39 (by decide) (fun c3 => ?_) (fun c3 => ?_)
        · replace c3 : ctb (x 2 ||| 2 ^ b ||| 2 ^ acc) ≤ rm := Classical.byContradiction (fun q => c3 (hrr.trans (if_neg q)))
          refine lv_aload_n hx hb dX2_withdraw_44 rfl (lv_at hl 0 rfl) ?_
          refine lv_iload_n hx hb dX2_withdraw_45 rfl (lv_at hl 1 rfl) ?_
          refine va_callr (va_runV (As := [.int (nI b)]) (rest := []) ⟨hx, hb, hml, hown, hts⟩ (c_touch l D ad cI cB cO acc lm rm N x z ob hok hNk b (by omega)) (cwV 1 hts gX2_withdraw_X2_touch rfl rfl rfl (by decide +kernel) ⟨Nat.le_of_ble_eq_true rfl, Nat.le_of_ble_eq_true rfl⟩) ⟨lPc_blind, va_recv hK hP (ci := 2) (q0 := 0) rfl (wl_at (by omega)), lPc_use (hP) ⟨hK, hN⟩⟩ rfl rfl hl.1 rfl (lv_room (Nat.le_of_ble_eq_true rfl)) dX2_withdraw_46 ⟨Nat.le_of_ble_eq_true rfl, Nat.le_of_ble_eq_true rfl⟩) hS (fun q _ h => (fun _ h => h) q h) (fun _ h => h) (fun _u ra t H1 locs ht hvm hw hB hz1 hk9 hS => ?_)
          obtain ⟨hra, hB⟩ := hB
          subst hra
          generalize H1 = H at ht hz1 hk9 hS ⊢
          have hP : va_P D vwCl (lW ad cI cB cO acc lm rm (tN N x b) (tX x b) z ob) H := pB_at ht hB
          have hD : va_D (lA ad acc) (lW ad cI cB cO acc lm rm (tN N x b) (tX x b) z ob) := wlD hok
          refine lv_aload_n hx hb dX2_withdraw_49 rfl (lv_at hl 0 rfl) ?_
          refine va_get (D := D) (ci := 2) (v := .ref (ad 6)) (C := RX2) (T := TX2) (N := 11) hx hb hts hi2 hown hK hP 0 (wl_at (by omega)) rfl 6 (by decide) (hts (.fieldLink RX2 45 "BigLedger" "amount" "LBigLedger$Natural;") (by decide +kernel)) (fun _ h9 => h9) rfl dX2_withdraw_50 ?_
          have hs1 : tX x b 0 ≤ tN N x b 0 b := by rw [tN_at, tX_ne _ _ (by decide)]; omega
          have hs2 : tX x b 0 < 2147483648 ^ (lm + 1) := by rw [tX_ne _ _ (by decide)]; exact hx0
          have hk1 := nOk_tN hNk x b
          have hn25 := ln_p hP 0 b (by decide) (by omega)
          have hn25u := va_P.app hn25 (ln_am hP)
          refine va_callv (va_runV (As := [.ref (ad 6)]) (rest := []) ⟨hx, hb, hml, hown, hts⟩ (c_decrease l D cI (lm + 1) (ad (6 * b + 2 * 0 + 10)) (ad (6 * b + 2 * 0 + 11)) ((tN N x b) 0 b) (by omega) (ln_oa (i := 6 * b + 2 * 0 + 10) hok (by omega)) (hk1 _ _) (ad 6) (ad 7) ((tX x b) 0) (ln_ne (i := 6 * b + 2 * 0 + 10) hok (by omega) (by omega) (by omega) (by omega)) (ln_ne (i := 6 * b + 2 * 0 + 10) hok (by omega) (by omega) (by omega) (by omega)) (hs2) (hs1)) (cwV 1 hts gX2_withdraw_X1_decrease rfl rfl rfl (by decide +kernel) ⟨Nat.le_of_ble_eq_true rfl, Nat.le_of_ble_eq_true rfl⟩) ⟨nPc_blind, va_recv hK hn25 (ci := 1) (q0 := 0) rfl rfl, nPc_use (hn25u) (hK.sub [0] rfl)⟩ rfl rfl hl.1 rfl (lv_room (Nat.le_of_ble_eq_true rfl)) dX2_withdraw_53 ⟨Nat.le_of_ble_eq_true rfl, Nat.le_of_ble_eq_true rfl⟩) hS (fun q _ h => (fun q h => lA_n (i := 6 * b + 2 * 0 + 10) (by omega) h) q h) (fun q h => lA_n (i := 6 * b + 2 * 0 + 10) (by omega) h) (fun _u t H1 locs ht hvm hw hB hz1 hk9 hS => ?_)
          have hP9 := lk_p (k := 0) (b := b) hok (by decide) (by omega) hP hk9 (pB_at ht hB)
          generalize H1 = H at ht hz1 hk9 hS hP9 ⊢
          have hP : va_P D vwCl (lW ad cI cB cO acc lm rm (eN N x b) (tX x b) z ob) H := hP9
          have hD : va_D (lA ad acc) (lW ad cI cB cO acc lm rm (eN N x b) (tX x b) z ob) := wlD hok
          have hk2 : nOk lm (eN N x b) := nOk_up hk1 (Nat.lt_of_le_of_lt (Nat.sub_le _ _) (hk1 _ _))
          have hs3 : tX (tX x b) acc 0 < 2147483648 ^ (lm + 1) := by rw [tX_ne _ _ (by decide)]; exact hs2
          have hs4 : tX (tX x b) acc 0 ≤ tN (eN N x b) (tX x b) acc 0 acc := by
            rw [tN_at, sv_eN_ne _ _ (by omega), tX_ne _ _ (by decide), tX_ne _ _ (by decide)]
            exact hsub b (by omega) (by omega)
          refine lv_aload_n hx hb dX2_withdraw_56 rfl (lv_at hl 0 rfl) ?_
          refine lv_aload_n hx hb dX2_withdraw_57 rfl (lv_at hl 0 rfl) ?_
          refine vp_callSi (W.runV (As := []) (rest := [.ref (ad 0)]) ⟨hx, hb, hml, hown, hts⟩ (c_totalBlock l D ad cI cB cO acc lm rm (eN N x b) (tX x b) z ob hok) (cwV 0 hts gX2_withdraw_X2_totalBlock rfl rfl rfl (by decide +kernel) ⟨Nat.le_of_ble_eq_true rfl, Nat.le_of_ble_eq_true rfl⟩) ⟨lPc_blind, va_recv hK hP (ci := 2) (q0 := 0) rfl (wl_at (by omega)), lPc_use (hP) ⟨hK, hN⟩⟩ rfl rfl hl.1 rfl (lv_room (Nat.le_of_ble_eq_true rfl)) dX2_withdraw_58 ⟨Nat.le_of_ble_eq_true rfl, Nat.le_of_ble_eq_true rfl⟩) (fun rt hrt => ?_)
          subst hrt
          refine va_callr (va_runV (As := [.int (nI acc)]) (rest := []) ⟨hx, hb, hml, hown, hts⟩ (c_touch l D ad cI cB cO acc lm rm (eN N x b) (tX x b) z ob hok hk2 acc (by omega)) (cwV 1 hts gX2_withdraw_X2_touch rfl rfl rfl (by decide +kernel) ⟨Nat.le_of_ble_eq_true rfl, Nat.le_of_ble_eq_true rfl⟩) ⟨lPc_blind, va_recv hK hP (ci := 2) (q0 := 0) rfl (wl_at (by omega)), lPc_use (hP) ⟨hK, hN⟩⟩ rfl rfl hl.1 rfl (lv_room (Nat.le_of_ble_eq_true rfl)) dX2_withdraw_61 ⟨Nat.le_of_ble_eq_true rfl, Nat.le_of_ble_eq_true rfl⟩) hS (fun q _ h => (fun _ h => h) q h) (fun _ h => h) (fun _u ra t H1 locs ht hvm hw hB hz1 hk9 hS => ?_)
          obtain ⟨hra, hB⟩ := hB
          subst hra
          generalize H1 = H at ht hz1 hk9 hS ⊢
          have hP : va_P D vwCl (lW ad cI cB cO acc lm rm (tN (eN N x b) (tX x b) acc) (tX (tX x b) acc) z ob) H := pB_at ht hB
          have hD : va_D (lA ad acc) (lW ad cI cB cO acc lm rm (tN (eN N x b) (tX x b) acc) (tX (tX x b) acc) z ob) := wlD hok
          refine lv_aload_n hx hb dX2_withdraw_64 rfl (lv_at hl 0 rfl) ?_
          refine va_get (D := D) (ci := 2) (v := .ref (ad 6)) (C := RX2) (T := TX2) (N := 11) hx hb hts hi2 hown hK hP 0 (wl_at (by omega)) rfl 6 (by decide) (hts (.fieldLink RX2 45 "BigLedger" "amount" "LBigLedger$Natural;") (by decide +kernel)) (fun _ h9 => h9) rfl dX2_withdraw_65 ?_
          have hk3 := nOk_tN hk2 (tX x b) acc
          have hn26 := ln_p hP 0 acc (by decide) (by omega)
          have hn26u := va_P.app hn26 (ln_am hP)
          refine va_callv (va_runV (As := [.ref (ad 6)]) (rest := []) ⟨hx, hb, hml, hown, hts⟩ (c_decrease l D cI (lm + 1) (ad (6 * acc + 2 * 0 + 10)) (ad (6 * acc + 2 * 0 + 11)) ((tN (eN N x b) (tX x b) acc) 0 acc) (by omega) (ln_oa (i := 6 * acc + 2 * 0 + 10) hok (by omega)) (hk3 _ _) (ad 6) (ad 7) ((tX (tX x b) acc) 0) (ln_ne (i := 6 * acc + 2 * 0 + 10) hok (by omega) (by omega) (by omega) (by omega)) (ln_ne (i := 6 * acc + 2 * 0 + 10) hok (by omega) (by omega) (by omega) (by omega)) (hs3) (hs4)) (cwV 1 hts gX2_withdraw_X1_decrease rfl rfl rfl (by decide +kernel) ⟨Nat.le_of_ble_eq_true rfl, Nat.le_of_ble_eq_true rfl⟩) ⟨nPc_blind, va_recv hK hn26 (ci := 1) (q0 := 0) rfl rfl, nPc_use (hn26u) (hK.sub [0] rfl)⟩ rfl rfl hl.1 rfl (lv_room (Nat.le_of_ble_eq_true rfl)) dX2_withdraw_68 ⟨Nat.le_of_ble_eq_true rfl, Nat.le_of_ble_eq_true rfl⟩) hS (fun q _ h => (fun q h => lA_n (i := 6 * acc + 2 * 0 + 10) (by omega) h) q h) (fun q h => lA_n (i := 6 * acc + 2 * 0 + 10) (by omega) h) (fun _u t H1 locs ht hvm hw hB hz1 hk9 hS => ?_)
          have hP9 := lk_p (k := 0) (b := acc) hok (by decide) (by omega) hP hk9 (pB_at ht hB)
          generalize H1 = H at ht hz1 hk9 hS hP9 ⊢
          have hP : va_P D vwCl (lW ad cI cB cO acc lm rm (eN (eN N x b) (tX x b) acc) (tX (tX x b) acc) z ob) H := hP9
          have hD : va_D (lA ad acc) (lW ad cI cB cO acc lm rm (eN (eN N x b) (tX x b) acc) (tX (tX x b) acc) z ob) := wlD hok
          refine lv_iconst (v := 0) hx hb dX2_withdraw_71 (by decide) ?_
          exact W.iret (v := 0) hx hb hr (fun t ht hW => ⟨⟨_, (eN (eN N x b) (tX x b) acc, tX (tX x b) acc, z), rfl, by rw [cWd, eb]; exact ((if_neg (c0)).trans ((if_neg ((fun q => q ha))).trans ((if_neg (c2)).trans (if_neg ((fun q => q c3)))))).symm, hp_at ht hP⟩, hS.F ht⟩) hS.2.2 dX2_withdraw_72
        · replace c3 : ¬ ctb (x 2 ||| 2 ^ b ||| 2 ^ acc) ≤ rm := fun q => absurd (c3.symm.trans (hrr.trans (if_pos q))) (by decide)
          refine lv_iconst (v := 4) hx hb dX2_withdraw_42 (by decide) ?_
          exact W.iret (v := 4) hx hb hr (fun t ht hW => ⟨⟨_, (N, x, z), rfl, by rw [cWd, eb]; exact ((if_neg (c0)).trans ((if_neg ((fun q => q ha))).trans ((if_neg (c2)).trans (if_pos (c3))))).symm, hp_at ht hP⟩, hS.F ht⟩) hS.2.2 dX2_withdraw_43
      · replace c2 : sv N x b < x 0 := Classical.byContradiction (fun q => c2 (hrg.trans (if_neg q)))
        refine lv_iconst (v := 2) hx hb dX2_withdraw_28 (by decide) ?_
        exact W.iret (v := 2) hx hb hr (fun t ht hW => ⟨⟨_, (N, x, z), rfl, by rw [cWd, eb]; exact ((if_neg (c0)).trans ((if_neg ((fun q => q ha))).trans (if_pos (c2)))).symm, hp_at ht hP⟩, hS.F ht⟩) hS.2.2 dX2_withdraw_29
    · have ha : ¬ isAcc acc p0 = true := fun q => absurd c1 (by rw [hra, if_pos q]; decide)
      refine lv_iconst (v := 1) hx hb dX2_withdraw_18 (by decide) ?_
      exact W.iret (v := 1) hx hb hr (fun t ht hW => ⟨⟨_, (N, x, z), rfl, by rw [cWd]; exact ((if_neg (c0)).trans (if_pos (ha))).symm, hp_at ht hP⟩, hS.F ht⟩) hS.2.2 dX2_withdraw_19
  · refine lv_bipush (v := 6) hx hb dX2_withdraw_7 (by decide) ?_
    exact W.iret (v := 6) hx hb hr (fun t ht hW => ⟨⟨_, (N, x, z), rfl, by rw [cWd]; exact (if_pos (c0)).symm, hp_at ht hP⟩, hS.F ht⟩) hS.2.2 dX2_withdraw_9
set_option maxHeartbeats 4000000 in
set_option maxRecDepth 100000 in
theorem c_transfer (l : Launch) (D : va_G) (ad : Nat → Nat) (cI cB cO : ClassId) (acc lm rm : Nat) (N : LN) (x : Nat → Nat) (z ob : Nat → Int32) (hok : lOk ad acc lm) (hNk : nOk lm N) (hx0 : x 0 < 2147483648 ^ (lm + 1)) (hx1 : x 1 < 2147483648 ^ (lm + 1)) (hx2 : x 2 < 33554432) (hrm : rm ≤ 25) (p0 p1 : Int32) (hadd : ∀ b, b ≤ acc → sv N x b + x 0 < 2147483648 ^ (lm + 1)) : Met l yX2_transfer wsX2_transfer ({ frames := 3, cells := 0, slots := 0, locals := 68 }) (lPc [.ref (ad 0), .int (p0), .int (p1)] D (lW ad cI cB cO acc lm rm N x z ob) [(cI, .int), (cB, .byte), (cO, .object "BigLedger$Natural")]) (va_Qi (fun (r : Int32) (u : DS) => (r, u) = cTr acc lm rm p0 p1 (N, x, z)) (fun u t => va_P D vwCl (lW ad cI cB cO acc lm rm u.1 u.2.1 u.2.2 ob) t.heap) (lA ad acc)) 0 0 (lA ad acc) := by
  refine Met.ofW (cc := cX2_transfer) (maxL := 3) (ret := (some .int)) (by decide) rfl ?_
  intro p e s m args below meth c s₁ B hml hv
  obtain ⟨rfl, hP, hK, hN⟩ := hv
  have hx := B.exec
  have hb := B.bytes
  have hr := B.returns
  have hts := atoms_spec (ws := wsX2_transfer) B.pre
  have hown : s.vm.findClass RX2 = some m.cls := findClass_of_methodNamed B.named
  have hlocks := B.notSynchronized
  have hi2 : ∀ w ∈ wsX20, w ∈ wsX2_transfer := by decide +kernel
  have hok1 := hok.2.1
  have hok2 := hok.2.2.1
  have hok3 := hok.2.2.2
  have hS : va_S (lA ad acc) s.heap s.heap [] := va_S.rf
  have hD : va_D (lA ad acc) (lW ad cI cB cO acc lm rm N x z ob) := wlD hok
  have hl := lv_entry ([.ref (ad 0), .int (p0), .int (p1)]) (n := 3) (Nat.le_of_ble_eq_true rfl)
  rw [lg_entry_eq]
  generalize (lg_sl ([.ref (ad 0), .int (p0), .int (p1)]) ++ List.replicate (3 - (lg_sl ([.ref (ad 0), .int (p0), .int (p1)])).length) Slot.unset).toArray = ls at hl ⊢
  have hl : lv_has ls 3 [(0, .ref (ad 0)), (1, .int (p0)), (2, .int (p1))] := hl
  refine lv_aload_n hx hb dX2_transfer_0 rfl (lv_at hl 0 rfl) ?_
  refine va_get (D := D) (ci := 2) (v := .int (z 0)) (C := RX2) (T := TX2) (N := 11) hx hb hts hi2 hown hK hP 0 (wl_at (by omega)) rfl 7 (by decide) (hts (.fieldLink RX2 71 "BigLedger" "up" "Z") (by decide +kernel)) (fun _ h9 => h9) rfl dX2_transfer_1 ?_
  refine lv_if_ne (tgt := 10) hx hb dX2_transfer_4 (by decide) (fun c0 => ?_) (fun c0 => ?_)
  · refine lv_aload_n hx hb dX2_transfer_10 rfl (lv_at hl 0 rfl) ?_
    refine lv_iload_n hx hb dX2_transfer_11 rfl (lv_at hl 1 rfl) ?_
    refine vp_callSi (W.runV (As := [.int (p0)]) (rest := []) ⟨hx, hb, hml, hown, hts⟩ (c_isAccount l D ad cI cB cO acc lm rm N x z ob hok p0) (cwV 1 hts gX2_transfer_X2_isAccount rfl rfl rfl (by decide +kernel) ⟨Nat.le_of_ble_eq_true rfl, Nat.le_of_ble_eq_true rfl⟩) ⟨lPc_blind, va_recv hK hP (ci := 2) (q0 := 0) rfl (wl_at (by omega)), lPc_use (hP) ⟨hK, hN⟩⟩ rfl rfl hl.1 rfl (lv_room (Nat.le_of_ble_eq_true rfl)) dX2_transfer_12 ⟨Nat.le_of_ble_eq_true rfl, Nat.le_of_ble_eq_true rfl⟩) (fun ra hra => ?_)
    refine lv_if_eq (tgt := 26) hx hb dX2_transfer_15 (by decide) (fun c1 => ?_) (fun c1 => ?_)
    · have ha : ¬ isAcc acc p0 = true := fun q => absurd c1 (by rw [hra, if_pos q]; decide)
      refine lv_iconst (v := 1) hx hb dX2_transfer_26 (by decide) ?_
      exact W.iret (v := 1) hx hb hr (fun t ht hW => ⟨⟨_, (N, x, z), rfl, by rw [cTr]; exact ((if_neg (c0)).trans (if_pos ((fun q => ha q.1)))).symm, hp_at ht hP⟩, hS.F ht⟩) hS.2.2 dX2_transfer_27
    · have ha : isAcc acc p0 = true := Classical.byContradiction (fun q => c1 (by rw [hra, if_neg q]))
      obtain ⟨b, hqb, rfl⟩ := isAcc_t (by omega) ha
      have eb : (nI b).toNatClampNeg = b := nI_clamp (by omega)
      refine lv_aload_n hx hb dX2_transfer_18 rfl (lv_at hl 0 rfl) ?_
      refine lv_iload_n hx hb dX2_transfer_19 rfl (lv_at hl 2 rfl) ?_
      refine vp_callSi (W.runV (As := [.int (p1)]) (rest := []) ⟨hx, hb, hml, hown, hts⟩ (c_isAccount l D ad cI cB cO acc lm rm N x z ob hok p1) (cwV 1 hts gX2_transfer_X2_isAccount rfl rfl rfl (by decide +kernel) ⟨Nat.le_of_ble_eq_true rfl, Nat.le_of_ble_eq_true rfl⟩) ⟨lPc_blind, va_recv hK hP (ci := 2) (q0 := 0) rfl (wl_at (by omega)), lPc_use (hP) ⟨hK, hN⟩⟩ rfl rfl hl.1 rfl (lv_room (Nat.le_of_ble_eq_true rfl)) dX2_transfer_20 ⟨Nat.le_of_ble_eq_true rfl, Nat.le_of_ble_eq_true rfl⟩) (fun ra2 hra2 => ?_)
      refine lv_if_ne (tgt := 28) hx hb dX2_transfer_23 (by decide) (fun c12 => ?_) (fun c12 => ?_)
      · have ha2 : isAcc acc p1 = true := Classical.byContradiction (fun q => c12 (by rw [hra2, if_neg q]))
        obtain ⟨d, hqd, rfl⟩ := isAcc_t (by omega) ha2
        have ed : (nI d).toNatClampNeg = d := nI_clamp (by omega)
        refine lv_aload_n hx hb dX2_transfer_28 rfl (lv_at hl 0 rfl) ?_
        refine lv_iload_n hx hb dX2_transfer_29 rfl (lv_at hl 1 rfl) ?_
        refine vp_callSi (W.runV (As := [.int (nI b)]) (rest := []) ⟨hx, hb, hml, hown, hts⟩ (c_isAmountAbove l D ad cI cB cO acc lm rm N x z ob hok hNk hx0 b (by omega)) (cwV 1 hts gX2_transfer_X2_isAmountAbove rfl rfl rfl (by decide +kernel) ⟨Nat.le_of_ble_eq_true rfl, Nat.le_of_ble_eq_true rfl⟩) ⟨lPc_blind, va_recv hK hP (ci := 2) (q0 := 0) rfl (wl_at (by omega)), lPc_use (hP) ⟨hK, hN⟩⟩ rfl rfl hl.1 rfl (lv_room (Nat.le_of_ble_eq_true rfl)) dX2_transfer_30 ⟨Nat.le_of_ble_eq_true rfl, Nat.le_of_ble_eq_true rfl⟩) (fun rg hrg => ?_)
        refine lv_if_eq (tgt := 38) hx hb dX2_transfer_33 (by decide) (fun c2 => ?_) (fun c2 => ?_)
        · replace c2 : ¬ sv N x b < x 0 := fun q => absurd (c2.symm.trans (hrg.trans (if_pos q))) (by decide)
          refine lv_iload_n hx hb dX2_transfer_38 rfl (lv_at hl 1 rfl) ?_
          refine lv_iload_n hx hb dX2_transfer_39 rfl (lv_at hl 2 rfl) ?_
          refine lv_icmp_eq (tgt := 53) hx hb dX2_transfer_40 (by decide) (fun c22 => ?_) (fun c22 => ?_)
          · have hX : cTrX (nI b) (nI d) (N, x, z) = x := if_pos c22
            have hX0 : x 0 = x 0 := rfl
            have hX2 : x 2 = x 2 := rfl
            have hsvX : ∀ i, sv N x i = sv N x i := fun _ => rfl
            refine lv_aload_n hx hb dX2_transfer_53 rfl (lv_at hl 0 rfl) ?_
            refine lv_iload_n hx hb dX2_transfer_54 rfl (lv_at hl 1 rfl) ?_
            refine lv_iload_n hx hb dX2_transfer_55 rfl (lv_at hl 2 rfl) ?_
            refine vp_callSi (W.runV (As := [.int (nI b), .int (nI d)]) (rest := []) ⟨hx, hb, hml, hown, hts⟩ (c_hasRoomFor l D ad cI cB cO acc lm rm N x z ob hok b d (by omega) (by omega) hx2 hrm) (cwV 2 hts gX2_transfer_X2_hasRoomFor rfl rfl rfl (by decide +kernel) ⟨Nat.le_of_ble_eq_true rfl, Nat.le_of_ble_eq_true rfl⟩) ⟨lPc_blind, va_recv hK hP (ci := 2) (q0 := 0) rfl (wl_at (by omega)), lPc_use (hP) ⟨hK, hN⟩⟩ rfl rfl hl.1 rfl (lv_room (Nat.le_of_ble_eq_true rfl)) dX2_transfer_56 ⟨Nat.le_of_ble_eq_true rfl, Nat.le_of_ble_eq_true rfl⟩) (fun rr hrr => ?_)
            refine lv_if_ne (tgt := 64) hx hb dX2_transfer_59 (by decide) (fun c3 => ?_) (fun c3 => ?_)
            · replace c3 : ctb (x 2 ||| 2 ^ b ||| 2 ^ d) ≤ rm := Classical.byContradiction (fun q => c3 (hrr.trans (if_neg q)))
              refine lv_aload_n hx hb dX2_transfer_64 rfl (lv_at hl 0 rfl) ?_
              refine lv_iload_n hx hb dX2_transfer_65 rfl (lv_at hl 1 rfl) ?_
              refine va_callr (va_runV (As := [.int (nI b)]) (rest := []) ⟨hx, hb, hml, hown, hts⟩ (c_touch l D ad cI cB cO acc lm rm N x z ob hok hNk b (by omega)) (cwV 1 hts gX2_transfer_X2_touch rfl rfl rfl (by decide +kernel) ⟨Nat.le_of_ble_eq_true rfl, Nat.le_of_ble_eq_true rfl⟩) ⟨lPc_blind, va_recv hK hP (ci := 2) (q0 := 0) rfl (wl_at (by omega)), lPc_use (hP) ⟨hK, hN⟩⟩ rfl rfl hl.1 rfl (lv_room (Nat.le_of_ble_eq_true rfl)) dX2_transfer_66 ⟨Nat.le_of_ble_eq_true rfl, Nat.le_of_ble_eq_true rfl⟩) hS (fun q _ h => (fun _ h => h) q h) (fun _ h => h) (fun _u ra t H1 locs ht hvm hw hB hz1 hk9 hS => ?_)
              obtain ⟨hra, hB⟩ := hB
              subst hra
              generalize H1 = H at ht hz1 hk9 hS ⊢
              have hP : va_P D vwCl (lW ad cI cB cO acc lm rm (tN N x b) (tX x b) z ob) H := pB_at ht hB
              have hD : va_D (lA ad acc) (lW ad cI cB cO acc lm rm (tN N x b) (tX x b) z ob) := wlD hok
              refine lv_aload_n hx hb dX2_transfer_69 rfl (lv_at hl 0 rfl) ?_
              refine va_get (D := D) (ci := 2) (v := .ref (ad 6)) (C := RX2) (T := TX2) (N := 11) hx hb hts hi2 hown hK hP 0 (wl_at (by omega)) rfl 6 (by decide) (hts (.fieldLink RX2 45 "BigLedger" "amount" "LBigLedger$Natural;") (by decide +kernel)) (fun _ h9 => h9) rfl dX2_transfer_70 ?_
              have hs1 : tX x b 0 ≤ tN N x b 0 b := by rw [tN_at, tX_ne _ _ (by decide), hsvX, hX0]; omega
              have hs2 : tX x b 0 < 2147483648 ^ (lm + 1) := by rw [tX_ne _ _ (by decide)]; exact hx0
              have hk1 := nOk_tN hNk x b
              have hn27 := ln_p hP 0 b (by decide) (by omega)
              have hn27u := va_P.app hn27 (ln_am hP)
              refine va_callv (va_runV (As := [.ref (ad 6)]) (rest := []) ⟨hx, hb, hml, hown, hts⟩ (c_decrease l D cI (lm + 1) (ad (6 * b + 2 * 0 + 10)) (ad (6 * b + 2 * 0 + 11)) ((tN N x b) 0 b) (by omega) (ln_oa (i := 6 * b + 2 * 0 + 10) hok (by omega)) (hk1 _ _) (ad 6) (ad 7) ((tX x b) 0) (ln_ne (i := 6 * b + 2 * 0 + 10) hok (by omega) (by omega) (by omega) (by omega)) (ln_ne (i := 6 * b + 2 * 0 + 10) hok (by omega) (by omega) (by omega) (by omega)) (hs2) (hs1)) (cwV 1 hts gX2_transfer_X1_decrease rfl rfl rfl (by decide +kernel) ⟨Nat.le_of_ble_eq_true rfl, Nat.le_of_ble_eq_true rfl⟩) ⟨nPc_blind, va_recv hK hn27 (ci := 1) (q0 := 0) rfl rfl, nPc_use (hn27u) (hK.sub [0] rfl)⟩ rfl rfl hl.1 rfl (lv_room (Nat.le_of_ble_eq_true rfl)) dX2_transfer_73 ⟨Nat.le_of_ble_eq_true rfl, Nat.le_of_ble_eq_true rfl⟩) hS (fun q _ h => (fun q h => lA_n (i := 6 * b + 2 * 0 + 10) (by omega) h) q h) (fun q h => lA_n (i := 6 * b + 2 * 0 + 10) (by omega) h) (fun _u t H1 locs ht hvm hw hB hz1 hk9 hS => ?_)
              have hP9 := lk_p (k := 0) (b := b) hok (by decide) (by omega) hP hk9 (pB_at ht hB)
              generalize H1 = H at ht hz1 hk9 hS hP9 ⊢
              have hP : va_P D vwCl (lW ad cI cB cO acc lm rm (eN N x b) (tX x b) z ob) H := hP9
              have hD : va_D (lA ad acc) (lW ad cI cB cO acc lm rm (eN N x b) (tX x b) z ob) := wlD hok
              have hk2 : nOk lm (eN N x b) := nOk_up hk1 (Nat.lt_of_le_of_lt (Nat.sub_le _ _) (hk1 _ _))
              have hs3 : tX (tX x b) d 0 < 2147483648 ^ (lm + 1) := by rw [tX_ne _ _ (by decide)]; exact hs2
              have hs4 : tN (eN N x b) (tX x b) d 0 d + tX (tX x b) d 0 < 2147483648 ^ (lm + 1) := by
                rw [tN_at, tX_ne _ _ (by decide), tX_ne _ _ (by decide)]
                by_cases hbd : d = b
                · subst hbd; rw [sv_eN, hsvX, hX0]; have := hadd d (by omega); omega
                · rw [sv_eN_ne _ _ hbd]; exact hadd d (by omega)
              refine lv_aload_n hx hb dX2_transfer_76 rfl (lv_at hl 0 rfl) ?_
              refine lv_iload_n hx hb dX2_transfer_77 rfl (lv_at hl 2 rfl) ?_
              refine va_callr (va_runV (As := [.int (nI d)]) (rest := []) ⟨hx, hb, hml, hown, hts⟩ (c_touch l D ad cI cB cO acc lm rm (eN N x b) (tX x b) z ob hok hk2 d (by omega)) (cwV 1 hts gX2_transfer_X2_touch rfl rfl rfl (by decide +kernel) ⟨Nat.le_of_ble_eq_true rfl, Nat.le_of_ble_eq_true rfl⟩) ⟨lPc_blind, va_recv hK hP (ci := 2) (q0 := 0) rfl (wl_at (by omega)), lPc_use (hP) ⟨hK, hN⟩⟩ rfl rfl hl.1 rfl (lv_room (Nat.le_of_ble_eq_true rfl)) dX2_transfer_78 ⟨Nat.le_of_ble_eq_true rfl, Nat.le_of_ble_eq_true rfl⟩) hS (fun q _ h => (fun _ h => h) q h) (fun _ h => h) (fun _u ra t H1 locs ht hvm hw hB hz1 hk9 hS => ?_)
              obtain ⟨hra, hB⟩ := hB
              subst hra
              generalize H1 = H at ht hz1 hk9 hS ⊢
              have hP : va_P D vwCl (lW ad cI cB cO acc lm rm (tN (eN N x b) (tX x b) d) (tX (tX x b) d) z ob) H := pB_at ht hB
              have hD : va_D (lA ad acc) (lW ad cI cB cO acc lm rm (tN (eN N x b) (tX x b) d) (tX (tX x b) d) z ob) := wlD hok
              refine lv_aload_n hx hb dX2_transfer_81 rfl (lv_at hl 0 rfl) ?_
              refine va_get (D := D) (ci := 2) (v := .ref (ad 6)) (C := RX2) (T := TX2) (N := 11) hx hb hts hi2 hown hK hP 0 (wl_at (by omega)) rfl 6 (by decide) (hts (.fieldLink RX2 45 "BigLedger" "amount" "LBigLedger$Natural;") (by decide +kernel)) (fun _ h9 => h9) rfl dX2_transfer_82 ?_
              have hk3 := nOk_tN hk2 (tX x b) d
              have hn28 := ln_p hP 0 d (by decide) (by omega)
              have hn28u := va_P.app hn28 (ln_am hP)
              refine va_callv (va_runV (As := [.ref (ad 6)]) (rest := []) ⟨hx, hb, hml, hown, hts⟩ (c_increase l D cI (lm + 1) (ad (6 * d + 2 * 0 + 10)) (ad (6 * d + 2 * 0 + 11)) ((tN (eN N x b) (tX x b) d) 0 d) (by omega) (ln_oa (i := 6 * d + 2 * 0 + 10) hok (by omega)) (hk3 _ _) (ad 6) (ad 7) ((tX (tX x b) d) 0) (ln_ne (i := 6 * d + 2 * 0 + 10) hok (by omega) (by omega) (by omega) (by omega)) (ln_ne (i := 6 * d + 2 * 0 + 10) hok (by omega) (by omega) (by omega) (by omega)) (hs3) (hs4)) (cwV 1 hts gX2_transfer_X1_increase rfl rfl rfl (by decide +kernel) ⟨Nat.le_of_ble_eq_true rfl, Nat.le_of_ble_eq_true rfl⟩) ⟨nPc_blind, va_recv hK hn28 (ci := 1) (q0 := 0) rfl rfl, nPc_use (hn28u) (hK.sub [0] rfl)⟩ rfl rfl hl.1 rfl (lv_room (Nat.le_of_ble_eq_true rfl)) dX2_transfer_85 ⟨Nat.le_of_ble_eq_true rfl, Nat.le_of_ble_eq_true rfl⟩) hS (fun q _ h => (fun q h => lA_n (i := 6 * d + 2 * 0 + 10) (by omega) h) q h) (fun q h => lA_n (i := 6 * d + 2 * 0 + 10) (by omega) h) (fun _u t H1 locs ht hvm hw hB hz1 hk9 hS => ?_)
              have hP9 := lk_p (k := 0) (b := d) hok (by decide) (by omega) hP hk9 (pB_at ht hB)
              generalize H1 = H at ht hz1 hk9 hS hP9 ⊢
              have hP : va_P D vwCl (lW ad cI cB cO acc lm rm (iN (eN N x b) (tX x b) d) (tX (tX x b) d) z ob) H := hP9
              have hD : va_D (lA ad acc) (lW ad cI cB cO acc lm rm (iN (eN N x b) (tX x b) d) (tX (tX x b) d) z ob) := wlD hok
              refine lv_iconst (v := 0) hx hb dX2_transfer_88 (by decide) ?_
              exact W.iret (v := 0) hx hb hr (fun t ht hW => ⟨⟨_, (iN (eN N x b) (tX x b) d, tX (tX x b) d, z), rfl, by rw [cTr, hX, eb, ed]; exact ((if_neg (c0)).trans ((if_neg ((fun q => q ⟨ha, ha2⟩))).trans ((if_neg (c2)).trans ((if_neg ((fun q => q.1 c22))).trans (if_neg ((fun q => q c3))))))).symm, hp_at ht hP⟩, hS.F ht⟩) hS.2.2 dX2_transfer_89
            · replace c3 : ¬ ctb (x 2 ||| 2 ^ b ||| 2 ^ d) ≤ rm := fun q => absurd (c3.symm.trans (hrr.trans (if_pos q))) (by decide)
              refine lv_iconst (v := 4) hx hb dX2_transfer_62 (by decide) ?_
              exact W.iret (v := 4) hx hb hr (fun t ht hW => ⟨⟨_, (N, x, z), rfl, by rw [cTr, hX, eb, ed]; exact ((if_neg (c0)).trans ((if_neg ((fun q => q ⟨ha, ha2⟩))).trans ((if_neg (c2)).trans ((if_neg ((fun q => q.1 c22))).trans (if_pos (c3)))))).symm, hp_at ht hP⟩, hS.F ht⟩) hS.2.2 dX2_transfer_63
          · refine lv_aload_n hx hb dX2_transfer_43 rfl (lv_at hl 0 rfl) ?_
            refine lv_iload_n hx hb dX2_transfer_44 rfl (lv_at hl 2 rfl) ?_
            refine va_calli (va_runV (As := [.int (nI d)]) (rest := []) ⟨hx, hb, hml, hown, hts⟩ (c_wouldBeTooGreat l D ad cI cB cO acc lm rm N x z ob hok hNk hx0 hx1 d (by omega) (hadd d (by omega))) (cwV 1 hts gX2_transfer_X2_wouldBeTooGreat rfl rfl rfl (by decide +kernel) ⟨Nat.le_of_ble_eq_true rfl, Nat.le_of_ble_eq_true rfl⟩) ⟨lPc_blind, va_recv hK hP (ci := 2) (q0 := 0) rfl (wl_at (by omega)), lPc_use (hP) ⟨hK, hN⟩⟩ rfl rfl hl.1 rfl (lv_room (Nat.le_of_ble_eq_true rfl)) dX2_transfer_45 ⟨Nat.le_of_ble_eq_true rfl, Nat.le_of_ble_eq_true rfl⟩) hS (fun q _ h => (fun _ h => h) q h) (fun _ h => h) (fun rg2 _u t H1 locs ht hvm hwg hB hz1 hk9 hS => ?_)
            generalize H1 = H at ht hz1 hk9 hS ⊢
            have hP : va_P D vwCl (lW ad cI cB cO acc lm rm N (va_up x 1 (sv N x d + x 0)) z ob) H := pB_at ht hB
            have hD : va_D (lA ad acc) (lW ad cI cB cO acc lm rm N (va_up x 1 (sv N x d + x 0)) z ob) := wlD hok
            refine lv_if_eq (tgt := 53) hx hb dX2_transfer_48 (by decide) (fun c23 => ?_) (fun c23 => ?_)
            · replace c23 : ¬ lm < szF (sv N x d + x 0) (lm + 1) := fun q => absurd (c23.symm.trans (hwg.trans (if_pos q))) (by decide)
              have hX : cTrX (nI b) (nI d) (N, x, z) = (va_up x 1 (sv N x d + x 0)) := (if_neg c22).trans (by rw [ed])
              have hX0 : (va_up x 1 (sv N x d + x 0)) 0 = x 0 := rfl
              have hX2 : (va_up x 1 (sv N x d + x 0)) 2 = x 2 := rfl
              have hsvX : ∀ i, sv N (va_up x 1 (sv N x d + x 0)) i = sv N x i := fun _ => rfl
              refine lv_aload_n hx hb dX2_transfer_53 rfl (lv_at hl 0 rfl) ?_
              refine lv_iload_n hx hb dX2_transfer_54 rfl (lv_at hl 1 rfl) ?_
              refine lv_iload_n hx hb dX2_transfer_55 rfl (lv_at hl 2 rfl) ?_
              refine vp_callSi (W.runV (As := [.int (nI b), .int (nI d)]) (rest := []) ⟨hx, hb, hml, hown, hts⟩ (c_hasRoomFor l D ad cI cB cO acc lm rm N (va_up x 1 (sv N x d + x 0)) z ob hok b d (by omega) (by omega) hx2 hrm) (cwV 2 hts gX2_transfer_X2_hasRoomFor rfl rfl rfl (by decide +kernel) ⟨Nat.le_of_ble_eq_true rfl, Nat.le_of_ble_eq_true rfl⟩) ⟨lPc_blind, va_recv hK hP (ci := 2) (q0 := 0) rfl (wl_at (by omega)), lPc_use (hP) ⟨hK, hN⟩⟩ rfl rfl hl.1 rfl (lv_room (Nat.le_of_ble_eq_true rfl)) dX2_transfer_56 ⟨Nat.le_of_ble_eq_true rfl, Nat.le_of_ble_eq_true rfl⟩) (fun rr hrr => ?_)
              refine lv_if_ne (tgt := 64) hx hb dX2_transfer_59 (by decide) (fun c3 => ?_) (fun c3 => ?_)
              · replace c3 : ctb (x 2 ||| 2 ^ b ||| 2 ^ d) ≤ rm := Classical.byContradiction (fun q => c3 (hrr.trans (if_neg q)))
                refine lv_aload_n hx hb dX2_transfer_64 rfl (lv_at hl 0 rfl) ?_
                refine lv_iload_n hx hb dX2_transfer_65 rfl (lv_at hl 1 rfl) ?_
                refine va_callr (va_runV (As := [.int (nI b)]) (rest := []) ⟨hx, hb, hml, hown, hts⟩ (c_touch l D ad cI cB cO acc lm rm N (va_up x 1 (sv N x d + x 0)) z ob hok hNk b (by omega)) (cwV 1 hts gX2_transfer_X2_touch rfl rfl rfl (by decide +kernel) ⟨Nat.le_of_ble_eq_true rfl, Nat.le_of_ble_eq_true rfl⟩) ⟨lPc_blind, va_recv hK hP (ci := 2) (q0 := 0) rfl (wl_at (by omega)), lPc_use (hP) ⟨hK, hN⟩⟩ rfl rfl hl.1 rfl (lv_room (Nat.le_of_ble_eq_true rfl)) dX2_transfer_66 ⟨Nat.le_of_ble_eq_true rfl, Nat.le_of_ble_eq_true rfl⟩) hS (fun q _ h => (fun _ h => h) q h) (fun _ h => h) (fun _u ra t H1 locs ht hvm hw hB hz1 hk9 hS => ?_)
                obtain ⟨hra, hB⟩ := hB
                subst hra
                generalize H1 = H at ht hz1 hk9 hS ⊢
                have hP : va_P D vwCl (lW ad cI cB cO acc lm rm (tN N (va_up x 1 (sv N x d + x 0)) b) (tX (va_up x 1 (sv N x d + x 0)) b) z ob) H := pB_at ht hB
                have hD : va_D (lA ad acc) (lW ad cI cB cO acc lm rm (tN N (va_up x 1 (sv N x d + x 0)) b) (tX (va_up x 1 (sv N x d + x 0)) b) z ob) := wlD hok
                refine lv_aload_n hx hb dX2_transfer_69 rfl (lv_at hl 0 rfl) ?_
                refine va_get (D := D) (ci := 2) (v := .ref (ad 6)) (C := RX2) (T := TX2) (N := 11) hx hb hts hi2 hown hK hP 0 (wl_at (by omega)) rfl 6 (by decide) (hts (.fieldLink RX2 45 "BigLedger" "amount" "LBigLedger$Natural;") (by decide +kernel)) (fun _ h9 => h9) rfl dX2_transfer_70 ?_
                have hs1 : tX (va_up x 1 (sv N x d + x 0)) b 0 ≤ tN N (va_up x 1 (sv N x d + x 0)) b 0 b := by rw [tN_at, tX_ne _ _ (by decide), hsvX, hX0]; omega
                have hs2 : tX (va_up x 1 (sv N x d + x 0)) b 0 < 2147483648 ^ (lm + 1) := by rw [tX_ne _ _ (by decide)]; exact hx0
                have hk1 := nOk_tN hNk (va_up x 1 (sv N x d + x 0)) b
                have hn29 := ln_p hP 0 b (by decide) (by omega)
                have hn29u := va_P.app hn29 (ln_am hP)
                refine va_callv (va_runV (As := [.ref (ad 6)]) (rest := []) ⟨hx, hb, hml, hown, hts⟩ (c_decrease l D cI (lm + 1) (ad (6 * b + 2 * 0 + 10)) (ad (6 * b + 2 * 0 + 11)) ((tN N (va_up x 1 (sv N x d + x 0)) b) 0 b) (by omega) (ln_oa (i := 6 * b + 2 * 0 + 10) hok (by omega)) (hk1 _ _) (ad 6) (ad 7) ((tX (va_up x 1 (sv N x d + x 0)) b) 0) (ln_ne (i := 6 * b + 2 * 0 + 10) hok (by omega) (by omega) (by omega) (by omega)) (ln_ne (i := 6 * b + 2 * 0 + 10) hok (by omega) (by omega) (by omega) (by omega)) (hs2) (hs1)) (cwV 1 hts gX2_transfer_X1_decrease rfl rfl rfl (by decide +kernel) ⟨Nat.le_of_ble_eq_true rfl, Nat.le_of_ble_eq_true rfl⟩) ⟨nPc_blind, va_recv hK hn29 (ci := 1) (q0 := 0) rfl rfl, nPc_use (hn29u) (hK.sub [0] rfl)⟩ rfl rfl hl.1 rfl (lv_room (Nat.le_of_ble_eq_true rfl)) dX2_transfer_73 ⟨Nat.le_of_ble_eq_true rfl, Nat.le_of_ble_eq_true rfl⟩) hS (fun q _ h => (fun q h => lA_n (i := 6 * b + 2 * 0 + 10) (by omega) h) q h) (fun q h => lA_n (i := 6 * b + 2 * 0 + 10) (by omega) h) (fun _u t H1 locs ht hvm hw hB hz1 hk9 hS => ?_)
                have hP9 := lk_p (k := 0) (b := b) hok (by decide) (by omega) hP hk9 (pB_at ht hB)
                generalize H1 = H at ht hz1 hk9 hS hP9 ⊢
                have hP : va_P D vwCl (lW ad cI cB cO acc lm rm (eN N (va_up x 1 (sv N x d + x 0)) b) (tX (va_up x 1 (sv N x d + x 0)) b) z ob) H := hP9
                have hD : va_D (lA ad acc) (lW ad cI cB cO acc lm rm (eN N (va_up x 1 (sv N x d + x 0)) b) (tX (va_up x 1 (sv N x d + x 0)) b) z ob) := wlD hok
                have hk2 : nOk lm (eN N (va_up x 1 (sv N x d + x 0)) b) := nOk_up hk1 (Nat.lt_of_le_of_lt (Nat.sub_le _ _) (hk1 _ _))
                have hs3 : tX (tX (va_up x 1 (sv N x d + x 0)) b) d 0 < 2147483648 ^ (lm + 1) := by rw [tX_ne _ _ (by decide)]; exact hs2
                have hs4 : tN (eN N (va_up x 1 (sv N x d + x 0)) b) (tX (va_up x 1 (sv N x d + x 0)) b) d 0 d + tX (tX (va_up x 1 (sv N x d + x 0)) b) d 0 < 2147483648 ^ (lm + 1) := by
                  rw [tN_at, tX_ne _ _ (by decide), tX_ne _ _ (by decide)]
                  by_cases hbd : d = b
                  · subst hbd; rw [sv_eN, hsvX, hX0]; have := hadd d (by omega); omega
                  · rw [sv_eN_ne _ _ hbd]; exact hadd d (by omega)
                refine lv_aload_n hx hb dX2_transfer_76 rfl (lv_at hl 0 rfl) ?_
                refine lv_iload_n hx hb dX2_transfer_77 rfl (lv_at hl 2 rfl) ?_
                refine va_callr (va_runV (As := [.int (nI d)]) (rest := []) ⟨hx, hb, hml, hown, hts⟩ (c_touch l D ad cI cB cO acc lm rm (eN N (va_up x 1 (sv N x d + x 0)) b) (tX (va_up x 1 (sv N x d + x 0)) b) z ob hok hk2 d (by omega)) (cwV 1 hts gX2_transfer_X2_touch rfl rfl rfl (by decide +kernel) ⟨Nat.le_of_ble_eq_true rfl, Nat.le_of_ble_eq_true rfl⟩) ⟨lPc_blind, va_recv hK hP (ci := 2) (q0 := 0) rfl (wl_at (by omega)), lPc_use (hP) ⟨hK, hN⟩⟩ rfl rfl hl.1 rfl (lv_room (Nat.le_of_ble_eq_true rfl)) dX2_transfer_78 ⟨Nat.le_of_ble_eq_true rfl, Nat.le_of_ble_eq_true rfl⟩) hS (fun q _ h => (fun _ h => h) q h) (fun _ h => h) (fun _u ra t H1 locs ht hvm hw hB hz1 hk9 hS => ?_)
                obtain ⟨hra, hB⟩ := hB
                subst hra
                generalize H1 = H at ht hz1 hk9 hS ⊢
                have hP : va_P D vwCl (lW ad cI cB cO acc lm rm (tN (eN N (va_up x 1 (sv N x d + x 0)) b) (tX (va_up x 1 (sv N x d + x 0)) b) d) (tX (tX (va_up x 1 (sv N x d + x 0)) b) d) z ob) H := pB_at ht hB
                have hD : va_D (lA ad acc) (lW ad cI cB cO acc lm rm (tN (eN N (va_up x 1 (sv N x d + x 0)) b) (tX (va_up x 1 (sv N x d + x 0)) b) d) (tX (tX (va_up x 1 (sv N x d + x 0)) b) d) z ob) := wlD hok
                refine lv_aload_n hx hb dX2_transfer_81 rfl (lv_at hl 0 rfl) ?_
                refine va_get (D := D) (ci := 2) (v := .ref (ad 6)) (C := RX2) (T := TX2) (N := 11) hx hb hts hi2 hown hK hP 0 (wl_at (by omega)) rfl 6 (by decide) (hts (.fieldLink RX2 45 "BigLedger" "amount" "LBigLedger$Natural;") (by decide +kernel)) (fun _ h9 => h9) rfl dX2_transfer_82 ?_
                have hk3 := nOk_tN hk2 (tX (va_up x 1 (sv N x d + x 0)) b) d
                have hn30 := ln_p hP 0 d (by decide) (by omega)
                have hn30u := va_P.app hn30 (ln_am hP)
                refine va_callv (va_runV (As := [.ref (ad 6)]) (rest := []) ⟨hx, hb, hml, hown, hts⟩ (c_increase l D cI (lm + 1) (ad (6 * d + 2 * 0 + 10)) (ad (6 * d + 2 * 0 + 11)) ((tN (eN N (va_up x 1 (sv N x d + x 0)) b) (tX (va_up x 1 (sv N x d + x 0)) b) d) 0 d) (by omega) (ln_oa (i := 6 * d + 2 * 0 + 10) hok (by omega)) (hk3 _ _) (ad 6) (ad 7) ((tX (tX (va_up x 1 (sv N x d + x 0)) b) d) 0) (ln_ne (i := 6 * d + 2 * 0 + 10) hok (by omega) (by omega) (by omega) (by omega)) (ln_ne (i := 6 * d + 2 * 0 + 10) hok (by omega) (by omega) (by omega) (by omega)) (hs3) (hs4)) (cwV 1 hts gX2_transfer_X1_increase rfl rfl rfl (by decide +kernel) ⟨Nat.le_of_ble_eq_true rfl, Nat.le_of_ble_eq_true rfl⟩) ⟨nPc_blind, va_recv hK hn30 (ci := 1) (q0 := 0) rfl rfl, nPc_use (hn30u) (hK.sub [0] rfl)⟩ rfl rfl hl.1 rfl (lv_room (Nat.le_of_ble_eq_true rfl)) dX2_transfer_85 ⟨Nat.le_of_ble_eq_true rfl, Nat.le_of_ble_eq_true rfl⟩) hS (fun q _ h => (fun q h => lA_n (i := 6 * d + 2 * 0 + 10) (by omega) h) q h) (fun q h => lA_n (i := 6 * d + 2 * 0 + 10) (by omega) h) (fun _u t H1 locs ht hvm hw hB hz1 hk9 hS => ?_)
                have hP9 := lk_p (k := 0) (b := d) hok (by decide) (by omega) hP hk9 (pB_at ht hB)
                generalize H1 = H at ht hz1 hk9 hS hP9 ⊢
                have hP : va_P D vwCl (lW ad cI cB cO acc lm rm (iN (eN N (va_up x 1 (sv N x d + x 0)) b) (tX (va_up x 1 (sv N x d + x 0)) b) d) (tX (tX (va_up x 1 (sv N x d + x 0)) b) d) z ob) H := hP9
                have hD : va_D (lA ad acc) (lW ad cI cB cO acc lm rm (iN (eN N (va_up x 1 (sv N x d + x 0)) b) (tX (va_up x 1 (sv N x d + x 0)) b) d) (tX (tX (va_up x 1 (sv N x d + x 0)) b) d) z ob) := wlD hok
                refine lv_iconst (v := 0) hx hb dX2_transfer_88 (by decide) ?_
                exact W.iret (v := 0) hx hb hr (fun t ht hW => ⟨⟨_, (iN (eN N (va_up x 1 (sv N x d + x 0)) b) (tX (va_up x 1 (sv N x d + x 0)) b) d, tX (tX (va_up x 1 (sv N x d + x 0)) b) d, z), rfl, by rw [cTr, hX, eb, ed]; exact ((if_neg (c0)).trans ((if_neg ((fun q => q ⟨ha, ha2⟩))).trans ((if_neg (c2)).trans ((if_neg ((fun q => c23 q.2))).trans (if_neg ((fun q => q c3))))))).symm, hp_at ht hP⟩, hS.F ht⟩) hS.2.2 dX2_transfer_89
              · replace c3 : ¬ ctb (x 2 ||| 2 ^ b ||| 2 ^ d) ≤ rm := fun q => absurd (c3.symm.trans (hrr.trans (if_pos q))) (by decide)
                refine lv_iconst (v := 4) hx hb dX2_transfer_62 (by decide) ?_
                exact W.iret (v := 4) hx hb hr (fun t ht hW => ⟨⟨_, (N, va_up x 1 (sv N x d + x 0), z), rfl, by rw [cTr, hX, eb, ed]; exact ((if_neg (c0)).trans ((if_neg ((fun q => q ⟨ha, ha2⟩))).trans ((if_neg (c2)).trans ((if_neg ((fun q => c23 q.2))).trans (if_pos (c3)))))).symm, hp_at ht hP⟩, hS.F ht⟩) hS.2.2 dX2_transfer_63
            · replace c23 : lm < szF (sv N x d + x 0) (lm + 1) := Classical.byContradiction (fun q => c23 (hwg.trans (if_neg q)))
              refine lv_iconst (v := 3) hx hb dX2_transfer_51 (by decide) ?_
              have hX : cTrX (nI b) (nI d) (N, x, z) = (va_up x 1 (sv N x d + x 0)) := (if_neg c22).trans (by rw [ed])
              exact W.iret (v := 3) hx hb hr (fun t ht hW => ⟨⟨_, (N, va_up x 1 (sv N x d + x 0), z), rfl, by rw [cTr, hX, eb, ed]; exact ((if_neg (c0)).trans ((if_neg ((fun q => q ⟨ha, ha2⟩))).trans ((if_neg (c2)).trans (if_pos (⟨c22, c23⟩))))).symm, hp_at ht hP⟩, hS.F ht⟩) hS.2.2 dX2_transfer_52
        · replace c2 : sv N x b < x 0 := Classical.byContradiction (fun q => c2 (hrg.trans (if_neg q)))
          refine lv_iconst (v := 2) hx hb dX2_transfer_36 (by decide) ?_
          exact W.iret (v := 2) hx hb hr (fun t ht hW => ⟨⟨_, (N, x, z), rfl, by rw [cTr, eb]; exact ((if_neg (c0)).trans ((if_neg ((fun q => q ⟨ha, ha2⟩))).trans (if_pos (c2)))).symm, hp_at ht hP⟩, hS.F ht⟩) hS.2.2 dX2_transfer_37
      · have ha2 : ¬ isAcc acc p1 = true := fun q => absurd c12 (by rw [hra2, if_pos q]; decide)
        refine lv_iconst (v := 1) hx hb dX2_transfer_26 (by decide) ?_
        exact W.iret (v := 1) hx hb hr (fun t ht hW => ⟨⟨_, (N, x, z), rfl, by rw [cTr]; exact ((if_neg (c0)).trans (if_pos ((fun q => ha2 q.2)))).symm, hp_at ht hP⟩, hS.F ht⟩) hS.2.2 dX2_transfer_27
  · refine lv_bipush (v := 6) hx hb dX2_transfer_7 (by decide) ?_
    exact W.iret (v := 6) hx hb hr (fun t ht hW => ⟨⟨_, (N, x, z), rfl, by rw [cTr]; exact (if_pos (c0)).symm, hp_at ht hP⟩, hS.F ht⟩) hS.2.2 dX2_transfer_9
end
section
/-! decimals -/
def isNd (v n : Nat) : Prop := 1 ≤ n ∧ v / 10 ^ n = 0 ∧ ∀ j, 1 ≤ j → j < n → v / 10 ^ j ≠ 0
def dgI (v : Nat) : Nat → Int32 := fun i => nI (48 + v / 10 ^ i % 10)
theorem isNd_one {v n m : Nat} (h1 : isNd v n) (h2 : isNd v m) : n = m := by
  rcases Nat.lt_trichotomy n m with q | q | q
  · exact absurd h1.2.1 (h2.2.2 n h1.1 q)
  · exact q
  · exact absurd h2.2.1 (h1.2.2 m h2.1 q)
theorem dec_bound {v lm : Nat} (h : v < 2147483648 ^ lm) : v / 10 ^ (lm * 10) = 0 := by
  apply Nat.div_eq_of_lt
  refine Nat.lt_of_lt_of_le h ?_
  rw [Nat.mul_comm, Nat.pow_mul]
  exact Nat.pow_le_pow_left (by decide) lm
theorem dec_step (v i : Nat) : v / 10 ^ i / 10 = v / 10 ^ (i + 1) := by rw [Nat.div_div_eq_div_mul, Nat.pow_succ]
theorem dg_byte (v i : Nat) : (nI (48 + v / 10 ^ i % 10)).toInt8.toInt32 = nI (48 + v / 10 ^ i % 10) := fa_byte_small (by omega)
theorem dg_nar (v i : Nat) : vp_nar .byte (nI (48 + v / 10 ^ i % 10)) = dgI v i := by rw [vp_nar_byte]; exact dg_byte v i
abbrev WS : Type := (Nat → Nat) × (Nat → Int32) × (Nat → Int32)
def cWr (acc lm : Nat) (p : Int32) (N : LN) (x : Nat → Nat) (z ob : Nat → Int32) (r : Int32) (u : WS) : Prop :=
  if z 0 = 0 ∨ ¬ isAcc acc p = true then r = -1 ∧ u = (x, z, ob) else
  ∃ n, isNd (sv N x p.toNatClampNeg) n ∧ n ≤ lm * 10 ∧ r = nI n ∧ u = (va_up x 1 (sv N x p.toNatClampNeg / 10 ^ n), va_up z 4 (nI n), fl (dgI (sv N x p.toNatClampNeg)) ob n)
def cmpI (a b : Nat) : Int32 := if a < b then -1 else if a = b then 0 else 1
def cCount (acc lm rm : Nat) (p : Int32) (S : DS) : Int32 :=
  if p = 0 then nI acc else if p = 1 then nI lm else if p = 2 then nI rm else if p = 3 then S.2.2 2 else if p = 4 then (if S.2.2 0 = 0 then 0 else 1) else if p = 5 then nI (ctb (S.2.1 2)) else if p = 6 then S.2.2 3 else
  if p = 7 then (if S.2.2 0 = 0 then 0 else nI (szF (sv S.1 S.2.1 acc) (lm + 1))) else if p = 8 then nI (szF (S.2.1 0) (lm + 1)) else -1
theorem szF_pos {v w : Nat} (h : v < 2147483648 ^ w) (hw : w < 2 ^ 31) : nI (szF v w) ≤ 0 ↔ v = 0 := by
  have := szF_le v w
  rw [nI_le0 (by omega)]
  exact szF_0 v w h
theorem sw_out {p : Int32} (h0 : ¬ p = 0) (h1 : ¬ p = 1) (h2 : ¬ p = 2) (h3 : ¬ p = 3) (h4 : ¬ p = 4) (h5 : ¬ p = 5) (h6 : ¬ p = 6) (h7 : ¬ p = 7) (h8 : ¬ p = 8) : p.toInt < 0 ∨ 8 < p.toInt := by
  rw [fa_eq] at h0 h1 h2 h3 h4 h5 h6 h7 h8
  have e0 : (0 : Int32).toInt = 0 := by decide
  have e1 : (1 : Int32).toInt = 1 := by decide
  have e2 : (2 : Int32).toInt = 2 := by decide
  have e3 : (3 : Int32).toInt = 3 := by decide
  have e4 : (4 : Int32).toInt = 4 := by decide
  have e5 : (5 : Int32).toInt = 5 := by decide
  have e6 : (6 : Int32).toInt = 6 := by decide
  have e7 : (7 : Int32).toInt = 7 := by decide
  have e8 : (8 : Int32).toInt = 8 := by decide
  omega
theorem cWr_no {acc lm : Nat} {p : Int32} {N : LN} {x : Nat → Nat} {z ob : Nat → Int32} (h : z 0 = 0 ∨ ¬ isAcc acc p = true) : cWr acc lm p N x z ob (-1) (x, z, ob) := by
  unfold cWr
  rw [if_pos h]
  exact ⟨rfl, rfl⟩
theorem cWr_yes {acc lm b v n : Nat} {N : LN} {x : Nat → Nat} {z ob : Nat → Int32} (h0 : ¬ z 0 = 0) (ha : isAcc acc (nI b) = true) (eb : (nI b).toNatClampNeg = b) (hv : sv N x b = v) (hn : isNd v n) (hl : n ≤ lm * 10) : cWr acc lm (nI b) N x z ob (nI n) (va_up x 1 (v / 10 ^ n), va_up z 4 (nI n), fl (dgI v) ob n) := by
  unfold cWr
  rw [if_neg (by rintro (q | q); exact h0 q; exact q ha), eb, hv]
  exact ⟨n, hn, hl, rfl, rfl⟩
end
section
set_option maxHeartbeats 4000000 in
set_option maxRecDepth 100000 in
theorem c_part (l : Launch) (D : va_G) (ad : Nat → Nat) (cI cB cO : ClassId) (acc lm rm : Nat) (N : LN) (x : Nat → Nat) (z ob : Nat → Int32) (hok : lOk ad acc lm) (hNk : nOk lm N) (hx0 : x 0 < 2147483648 ^ (lm + 1)) (p0 p1 p2 : Int32) (hbal : ∀ b, b < acc → sv N x b < 2147483648 ^ lm) : Met l yX2_part wsX2_part ({ frames := 2, cells := 0, slots := 0, locals := 46 }) (lPc [.ref (ad 0), .int (p0), .int (p1), .int (p2)] D (lW ad cI cB cO acc lm rm N x z ob) [(cI, .int), (cB, .byte), (cO, .object "BigLedger$Natural")]) (va_Qi (fun (r : Int32) (u : DS) => (r, u) = cPart acc p0 p1 p2 (N, x, z)) (fun u t => va_P D vwCl (lW ad cI cB cO acc lm rm u.1 u.2.1 u.2.2 ob) t.heap) (lA ad acc)) 0 0 (lA ad acc) := by
  refine Met.ofW (cc := cX2_part) (maxL := 4) (ret := (some .int)) (by decide) rfl ?_
  intro p e s m args below meth c s₁ B hml hv
  obtain ⟨rfl, hP, hK, hN⟩ := hv
  have hx := B.exec
  have hb := B.bytes
  have hr := B.returns
  have hts := atoms_spec (ws := wsX2_part) B.pre
  have hown : s.vm.findClass RX2 = some m.cls := findClass_of_methodNamed B.named
  have hlocks := B.notSynchronized
  have hi2 : ∀ w ∈ wsX20, w ∈ wsX2_part := by decide +kernel
  have hok1 := hok.2.1
  have hok2 := hok.2.2.1
  have hok3 := hok.2.2.2
  have hS : va_S (lA ad acc) s.heap s.heap [] := va_S.rf
  have hD : va_D (lA ad acc) (lW ad cI cB cO acc lm rm N x z ob) := wlD hok
  have hl := lv_entry ([.ref (ad 0), .int (p0), .int (p1), .int (p2)]) (n := 4) (Nat.le_of_ble_eq_true rfl)
  rw [lg_entry_eq]
  generalize (lg_sl ([.ref (ad 0), .int (p0), .int (p1), .int (p2)]) ++ List.replicate (4 - (lg_sl ([.ref (ad 0), .int (p0), .int (p1), .int (p2)])).length) Slot.unset).toArray = ls at hl ⊢
  have hl : lv_has ls 4 [(0, .ref (ad 0)), (1, .int (p0)), (2, .int (p1)), (3, .int (p2))] := hl
  refine lv_aload_n hx hb dX2_part_0 rfl (lv_at hl 0 rfl) ?_
  refine va_get (D := D) (ci := 2) (v := .int (z 0)) (C := RX2) (T := TX2) (N := 11) hx hb hts hi2 hown hK hP 0 (wl_at (by omega)) rfl 7 (by decide) (hts (.fieldLink RX2 71 "BigLedger" "up" "Z") (by decide +kernel)) (fun _ h9 => h9) rfl dX2_part_1 ?_
  refine lv_if_ne (tgt := 10) hx hb dX2_part_4 (by decide) (fun c0 => ?_) (fun c0 => ?_)
  · refine lv_aload_n hx hb dX2_part_10 rfl (lv_at hl 0 rfl) ?_
    refine lv_iload_n hx hb dX2_part_11 rfl (lv_at hl 1 rfl) ?_
    refine vp_callSi (W.runV (As := [.int (p0)]) (rest := []) ⟨hx, hb, hml, hown, hts⟩ (c_isAccount l D ad cI cB cO acc lm rm N x z ob hok p0) (cwV 1 hts gX2_part_X2_isAccount rfl rfl rfl (by decide +kernel) ⟨Nat.le_of_ble_eq_true rfl, Nat.le_of_ble_eq_true rfl⟩) ⟨lPc_blind, va_recv hK hP (ci := 2) (q0 := 0) rfl (wl_at (by omega)), lPc_use (hP) ⟨hK, hN⟩⟩ rfl rfl hl.1 rfl (lv_room (Nat.le_of_ble_eq_true rfl)) dX2_part_12 ⟨Nat.le_of_ble_eq_true rfl, Nat.le_of_ble_eq_true rfl⟩) (fun ra hra => ?_)
    refine lv_if_ne (tgt := 20) hx hb dX2_part_15 (by decide) (fun c1 => ?_) (fun c1 => ?_)
    · have ha : isAcc acc p0 = true := Classical.byContradiction (fun q => c1 (by rw [hra, if_neg q]))
      obtain ⟨b, hqb, rfl⟩ := isAcc_t (by omega) ha
      have eb : (nI b).toNatClampNeg = b := nI_clamp (by omega)
      refine lv_iload_n hx hb dX2_part_20 rfl (lv_at hl 2 rfl) ?_
      refine lv_if_lt (tgt := 34) hx hb dX2_part_21 (by decide) (fun c2 => ?_) (fun c2 => ?_)
      · refine lv_iconst (v := 5) hx hb dX2_part_34 (by decide) ?_
        exact W.iret (v := 5) hx hb hr (fun t ht hW => ⟨⟨_, (N, x, z), rfl, by rw [cPart]; exact ((if_neg (c0)).trans ((if_neg ((fun q => q ha))).trans (if_pos (Or.inl c2)))).symm, hp_at ht hP⟩, hS.F ht⟩) hS.2.2 dX2_part_35
      · refine lv_iload_n hx hb dX2_part_24 rfl (lv_at hl 2 rfl) ?_
        refine lv_iload_n hx hb dX2_part_25 rfl (lv_at hl 3 rfl) ?_
        refine lv_icmp_gt (tgt := 34) hx hb dX2_part_26 (by decide) (fun c3 => ?_) (fun c3 => ?_)
        · refine lv_iconst (v := 5) hx hb dX2_part_34 (by decide) ?_
          exact W.iret (v := 5) hx hb hr (fun t ht hW => ⟨⟨_, (N, x, z), rfl, by rw [cPart]; exact ((if_neg (c0)).trans ((if_neg ((fun q => q ha))).trans (if_pos (Or.inr (Or.inl c3))))).symm, hp_at ht hP⟩, hS.F ht⟩) hS.2.2 dX2_part_35
        · refine lv_iload_n hx hb dX2_part_29 rfl (lv_at hl 3 rfl) ?_
          refine lv_iconst (v := 1) hx hb dX2_part_30 (by decide) ?_
          refine lv_icmp_ge (tgt := 36) hx hb dX2_part_31 (by decide) (fun c4 => ?_) (fun c4 => ?_)
          · obtain ⟨k, hk, rfl⟩ := nI_of c2
            obtain ⟨j, hj, rfl⟩ := nI_of (x := p2) (fun q => (fa_of_lt (fa_trans q (show (0 : Int32) ≤ 1 by decide))).2.1 c4)
            have hj1 : 1 ≤ j := (nI_leI (a := 1) (by omega) hj).mp c4
            have ek : (nI k).toNatClampNeg = k := nI_clamp hk
            have ej : (nI j).toNatClampNeg = j := nI_clamp hj
            have hsk := sk_lt x b
            refine lv_aload_n hx hb dX2_part_36 rfl (lv_at hl 0 rfl) ?_
            refine va_get (D := D) (ci := 2) (v := .ref (ad 6)) (C := RX2) (T := TX2) (N := 11) hx hb hts hi2 hown hK hP 0 (wl_at (by omega)) rfl 6 (by decide) (hts (.fieldLink RX2 45 "BigLedger" "amount" "LBigLedger$Natural;") (by decide +kernel)) (fun _ h9 => h9) rfl dX2_part_37 ?_
            refine lv_aload_n hx hb dX2_part_40 rfl (lv_at hl 0 rfl) ?_
            refine lv_iload_n hx hb dX2_part_41 rfl (lv_at hl 1 rfl) ?_
            refine va_csr (W.runV (As := [.int (nI b)]) (rest := [.ref (ad 6)]) ⟨hx, hb, hml, hown, hts⟩ (c_seen l D ad cI cB cO acc lm rm N x z ob hok b (by omega)) (cwV 1 hts gX2_part_X2_seen rfl rfl rfl (by decide +kernel) ⟨Nat.le_of_ble_eq_true rfl, Nat.le_of_ble_eq_true rfl⟩) ⟨lPc_blind, va_recv hK hP (ci := 2) (q0 := 0) rfl (wl_at (by omega)), lPc_use (hP) ⟨hK, hN⟩⟩ rfl rfl hl.1 rfl (lv_room (Nat.le_of_ble_eq_true rfl)) dX2_part_42 ⟨Nat.le_of_ble_eq_true rfl, Nat.le_of_ble_eq_true rfl⟩) (fun ks hks => ?_)
            subst hks
            have hn31 := ln_am hP
            have hn31u := va_P.app hn31 (ln_p hP (sk x b) b (by omega) (by omega))
            refine va_callv (va_runV (As := [.ref (ad (6 * b + 2 * sk x b + 10))]) (rest := []) ⟨hx, hb, hml, hown, hts⟩ (c_setTo l D cI (lm + 1) (ad 6) (ad 7) (x 0) (by omega) (ln_oa (i := 6) hok (by omega)) hx0 (ad (6 * b + 2 * sk x b + 10)) (ad (6 * b + 2 * sk x b + 11)) (N (sk x b) b) (ln_ne (i := 6) hok (by omega) (by omega) (by omega) (by omega)) (ln_ne (i := 6) hok (by omega) (by omega) (by omega) (by omega)) (hNk _ _)) (cwV 1 hts gX2_part_X1_setTo rfl rfl rfl (by decide +kernel) ⟨Nat.le_of_ble_eq_true rfl, Nat.le_of_ble_eq_true rfl⟩) ⟨nPc_blind, va_recv hK hn31 (ci := 1) (q0 := 0) rfl rfl, nPc_use (hn31u) (hK.sub [0] rfl)⟩ rfl rfl hl.1 rfl (lv_room (Nat.le_of_ble_eq_true rfl)) dX2_part_45 ⟨Nat.le_of_ble_eq_true rfl, Nat.le_of_ble_eq_true rfl⟩) hS (fun q _ h => (fun q h => lA_n (i := 6) (by omega) h) q h) (fun q h => lA_n (i := 6) (by omega) h) (fun _u t H1 locs ht hvm hw hB hz1 hk9 hS => ?_)
            have hP9 := lk_am hok hP hk9 (pB_at ht hB)
            generalize H1 = H at ht hz1 hk9 hS hP9 ⊢
            have hP : va_P D vwCl (lW ad cI cB cO acc lm rm N (va_up x 0 (sv N x b)) z ob) H := hP9
            have hD : va_D (lA ad acc) (lW ad cI cB cO acc lm rm N (va_up x 0 (sv N x b)) z ob) := wlD hok
            have hm1 : sv N x b * k < 2147483648 ^ (lm + 1) := by
              rw [Nat.pow_succ]
              exact Nat.mul_lt_mul_of_lt_of_lt (hbal b hqb) hk
            refine lv_aload_n hx hb dX2_part_48 rfl (lv_at hl 0 rfl) ?_
            refine va_get (D := D) (ci := 2) (v := .ref (ad 6)) (C := RX2) (T := TX2) (N := 11) hx hb hts hi2 hown hK hP 0 (wl_at (by omega)) rfl 6 (by decide) (hts (.fieldLink RX2 45 "BigLedger" "amount" "LBigLedger$Natural;") (by decide +kernel)) (fun _ h9 => h9) rfl dX2_part_49 ?_
            refine lv_iload_n hx hb dX2_part_52 rfl (lv_at hl 2 rfl) ?_
            have hn32 := ln_am hP
            refine va_callv (va_runV (As := [.int (nI k)]) (rest := []) ⟨hx, hb, hml, hown, hts⟩ (c_multiply l D cI (lm + 1) (ad 6) (ad 7) (sv N x b) (by omega) (ln_oa (i := 6) hok (by omega)) (hNk _ _) k hk hm1) (cwV 1 hts gX2_part_X1_multiply rfl rfl rfl (by decide +kernel) ⟨Nat.le_of_ble_eq_true rfl, Nat.le_of_ble_eq_true rfl⟩) ⟨nPc_blind, va_recv hK hn32 (ci := 1) (q0 := 0) rfl rfl, nPc_use (hn32) (hK.sub [0] rfl)⟩ rfl rfl hl.1 rfl (lv_room (Nat.le_of_ble_eq_true rfl)) dX2_part_53 ⟨Nat.le_of_ble_eq_true rfl, Nat.le_of_ble_eq_true rfl⟩) hS (fun q _ h => (fun q h => lA_n (i := 6) (by omega) h) q h) (fun q h => lA_n (i := 6) (by omega) h) (fun _u t H1 locs ht hvm hw hB hz1 hk9 hS => ?_)
            have hP9 := cv (by rw [bx_uu]) (lk_am hok hP hk9 (pB_at ht hB))
            generalize H1 = H at ht hz1 hk9 hS hP9 ⊢
            have hP : va_P D vwCl (lW ad cI cB cO acc lm rm N (va_up x 0 (sv N x b * k)) z ob) H := hP9
            have hD : va_D (lA ad acc) (lW ad cI cB cO acc lm rm N (va_up x 0 (sv N x b * k)) z ob) := wlD hok
            refine lv_aload_n hx hb dX2_part_56 rfl (lv_at hl 0 rfl) ?_
            refine va_get (D := D) (ci := 2) (v := .ref (ad 6)) (C := RX2) (T := TX2) (N := 11) hx hb hts hi2 hown hK hP 0 (wl_at (by omega)) rfl 6 (by decide) (hts (.fieldLink RX2 45 "BigLedger" "amount" "LBigLedger$Natural;") (by decide +kernel)) (fun _ h9 => h9) rfl dX2_part_57 ?_
            refine lv_iload_n hx hb dX2_part_60 rfl (lv_at hl 3 rfl) ?_
            have hn33 := ln_am hP
            refine va_calli (va_runV (As := [.int (nI j)]) (rest := []) ⟨hx, hb, hml, hown, hts⟩ (c_divide l D cI (lm + 1) (ad 6) (ad 7) (sv N x b * k) (by omega) (ln_oa (i := 6) hok (by omega)) hm1 j hj1 hj) (cwV 1 hts gX2_part_X1_divide rfl rfl rfl (by decide +kernel) ⟨Nat.le_of_ble_eq_true rfl, Nat.le_of_ble_eq_true rfl⟩) ⟨nPc_blind, va_recv hK hn33 (ci := 1) (q0 := 0) rfl rfl, nPc_use (hn33) (hK.sub [0] rfl)⟩ rfl rfl hl.1 rfl (lv_room (Nat.le_of_ble_eq_true rfl)) dX2_part_61 ⟨Nat.le_of_ble_eq_true rfl, Nat.le_of_ble_eq_true rfl⟩) hS (fun q _ h => (fun q h => lA_n (i := 6) (by omega) h) q h) (fun q h => lA_n (i := 6) (by omega) h) (fun r _u t H1 locs ht hvm hw hB hz1 hk9 hS => ?_)
            have hP9 := cv (by rw [bx_uu]) (lk_am hok hP hk9 (pB_at ht hB))
            generalize H1 = H at ht hz1 hk9 hS hP9 ⊢
            have hP : va_P D vwCl (lW ad cI cB cO acc lm rm N (va_up x 0 (sv N x b * k / j)) z ob) H := hP9
            have hD : va_D (lA ad acc) (lW ad cI cB cO acc lm rm N (va_up x 0 (sv N x b * k / j)) z ob) := wlD hok
            refine lv_pop hx hb dX2_part_64 rfl ?_
            refine lv_iconst (v := 0) hx hb dX2_part_65 (by decide) ?_
            have hc9 : ¬ (nI k < 0 ∨ nI j < nI k ∨ nI j < 1) := by
              rintro (q | q | q)
              · exact c2 q
              · exact c3 q
              · exact (fa_of_lt q).2.1 c4
            exact W.iret (v := 0) hx hb hr (fun t ht hW => ⟨⟨_, (N, va_up x 0 (sv N x b * k / j), z), rfl, by rw [cPart, eb, ek, ej]; exact ((if_neg (c0)).trans ((if_neg ((fun q => q ha))).trans (if_neg (hc9)))).symm, hp_at ht hP⟩, hS.F ht⟩) hS.2.2 dX2_part_66
          · refine lv_iconst (v := 5) hx hb dX2_part_34 (by decide) ?_
            exact W.iret (v := 5) hx hb hr (fun t ht hW => ⟨⟨_, (N, x, z), rfl, by rw [cPart]; exact ((if_neg (c0)).trans ((if_neg ((fun q => q ha))).trans (if_pos (Or.inr (Or.inr (fa_of_nle c4)))))).symm, hp_at ht hP⟩, hS.F ht⟩) hS.2.2 dX2_part_35
    · have ha : ¬ isAcc acc p0 = true := fun q => absurd c1 (by rw [hra, if_pos q]; decide)
      refine lv_iconst (v := 1) hx hb dX2_part_18 (by decide) ?_
      exact W.iret (v := 1) hx hb hr (fun t ht hW => ⟨⟨_, (N, x, z), rfl, by rw [cPart]; exact ((if_neg (c0)).trans (if_pos (ha))).symm, hp_at ht hP⟩, hS.F ht⟩) hS.2.2 dX2_part_19
  · refine lv_bipush (v := 6) hx hb dX2_part_7 (by decide) ?_
    exact W.iret (v := 6) hx hb hr (fun t ht hW => ⟨⟨_, (N, x, z), rfl, by rw [cPart]; exact (if_pos (c0)).symm, hp_at ht hP⟩, hS.F ht⟩) hS.2.2 dX2_part_9
set_option maxHeartbeats 4000000 in
set_option maxRecDepth 100000 in
theorem c_commit (l : Launch) (D : va_G) (ad : Nat → Nat) (cI cB cO : ClassId) (acc lm rm : Nat) (N : LN) (x : Nat → Nat) (z ob : Nat → Int32) (hok : lOk ad acc lm) (hNk : nOk lm N) (hx2 : x 2 < 33554432) : Met l yX2_commit wsX2_commit ({ frames := 5, cells := 0, slots := 0, locals := 109 }) (lPc [.ref (ad 0)] D (lW ad cI cB cO acc lm rm N x z ob) [(cI, .int), (cB, .byte), (cO, .object "BigLedger$Natural")]) (va_Qi (fun (r : Int32) (u : DS) => (r, u) = cCommit acc (N, x, z)) (fun u t => va_P D vwCl (lW ad cI cB cO acc lm rm u.1 u.2.1 u.2.2 ob) t.heap) (lA ad acc)) 0 0 (lA ad acc) := by
  refine Met.ofW (cc := cX2_commit) (maxL := 1) (ret := (some .int)) (by decide) rfl ?_
  intro p e s m args below meth c s₁ B hml hv
  obtain ⟨rfl, hP, hK, hN⟩ := hv
  have hx := B.exec
  have hb := B.bytes
  have hr := B.returns
  have hts := atoms_spec (ws := wsX2_commit) B.pre
  have hown : s.vm.findClass RX2 = some m.cls := findClass_of_methodNamed B.named
  have hlocks := B.notSynchronized
  have hi2 : ∀ w ∈ wsX20, w ∈ wsX2_commit := by decide +kernel
  have hok1 := hok.2.1
  have hok2 := hok.2.2.1
  have hok3 := hok.2.2.2
  have hS : va_S (lA ad acc) s.heap s.heap [] := va_S.rf
  have hD : va_D (lA ad acc) (lW ad cI cB cO acc lm rm N x z ob) := wlD hok
  have hl := lv_entry ([.ref (ad 0)]) (n := 1) (Nat.le_of_ble_eq_true rfl)
  rw [lg_entry_eq]
  generalize (lg_sl ([.ref (ad 0)]) ++ List.replicate (1 - (lg_sl ([.ref (ad 0)])).length) Slot.unset).toArray = ls at hl ⊢
  have hl : lv_has ls 1 [(0, .ref (ad 0))] := hl
  refine lv_aload_n hx hb dX2_commit_0 rfl (lv_at hl 0 rfl) ?_
  refine va_get (D := D) (ci := 2) (v := .int (z 0)) (C := RX2) (T := TX2) (N := 11) hx hb hts hi2 hown hK hP 0 (wl_at (by omega)) rfl 7 (by decide) (hts (.fieldLink RX2 71 "BigLedger" "up" "Z") (by decide +kernel)) (fun _ h9 => h9) rfl dX2_commit_1 ?_
  refine lv_if_ne (tgt := 10) hx hb dX2_commit_4 (by decide) (fun c0 => ?_) (fun c0 => ?_)
  · refine lv_aload_n hx hb dX2_commit_10 rfl (lv_at hl 0 rfl) ?_
    refine va_get (D := D) (ci := 2) (v := .ref (ad 1)) (C := RX2) (T := TX2) (N := 11) hx hb hts hi2 hown hK hP 0 (wl_at (by omega)) rfl 3 (by decide) (hts (.fieldLink RX2 28 "BigLedger" "disk" "LBigLedger$Disk;") (by decide +kernel)) (fun _ h9 => h9) rfl dX2_commit_11 ?_
    refine lv_aload_n hx hb dX2_commit_14 rfl (lv_at hl 0 rfl) ?_
    refine va_get (D := D) (ci := 2) (v := .int (nI (x 2))) (C := RX2) (T := TX2) (N := 11) hx hb hts hi2 hown hK hP 0 (wl_at (by omega)) rfl 5 (by decide) (hts (.fieldLink RX2 126 "BigLedger" "touched" "I") (by decide +kernel)) (fun _ h9 => h9) rfl dX2_commit_15 ?_
    refine lv_aload_n hx hb dX2_commit_18 rfl (lv_at hl 0 rfl) ?_
    refine va_get (D := D) (ci := 2) (v := .ref (ad 2)) (C := RX2) (T := TX2) (N := 11) hx hb hts hi2 hown hK hP 0 (wl_at (by omega)) rfl 4 (by decide) (hts (.fieldLink RX2 36 "BigLedger" "pending" "[LBigLedger$Natural;") (by decide +kernel)) (fun _ h9 => h9) rfl dX2_commit_19 ?_
    refine va_calli (va_runV (As := [.int (nI (x 2)), .ref (ad 2)]) (rest := []) ⟨hx, hb, hml, hown, hts⟩ (c_bringThroughLog l D ad cI cB cO acc lm rm N x z ob hok (x 2) hx2 hNk) (cwV 2 hts gX2_commit_X0_bringThroughLog rfl rfl rfl (by decide +kernel) ⟨Nat.le_of_ble_eq_true rfl, Nat.le_of_ble_eq_true rfl⟩) ⟨lPc_blind, va_recv hK hP (ci := 0) (q0 := 1) rfl (wl_at (by omega)), lPc_use (hP) ⟨hK, hN⟩⟩ rfl rfl hl.1 rfl (lv_room (Nat.le_of_ble_eq_true rfl)) dX2_commit_22 ⟨Nat.le_of_ble_eq_true rfl, Nat.le_of_ble_eq_true rfl⟩) hS (fun q _ h => (fun _ h => h) q h) (fun _ h => h) (fun r1 u1 t H1 locs ht hvm hw1 hB hz1 hk9 hS => ?_)
    generalize H1 = H at ht hz1 hk9 hS ⊢
    have hP : va_P D vwCl (lW ad cI cB cO acc lm rm u1.1 u1.2.1 u1.2.2 ob) H := pB_at ht hB
    have hD : va_D (lA ad acc) (lW ad cI cB cO acc lm rm u1.1 u1.2.1 u1.2.2 ob) := wlD hok
    refine lv_if_ne (tgt := 40) hx hb dX2_commit_25 (by decide) (fun c1 => ?_) (fun c1 => ?_)
    · refine lv_aload_n hx hb dX2_commit_40 rfl (lv_at hl 0 rfl) ?_
      refine va_callv (va_runV (As := []) (rest := []) ⟨hx, hb, hml, hown, hts⟩ (c_dropPending l D ad cI cB cO acc lm rm u1.1 u1.2.1 u1.2.2 ob hok) (cwV 0 hts gX2_commit_X2_dropPending rfl rfl rfl (by decide +kernel) ⟨Nat.le_of_ble_eq_true rfl, Nat.le_of_ble_eq_true rfl⟩) ⟨lPc_blind, va_recv hK hP (ci := 2) (q0 := 0) rfl (wl_at (by omega)), lPc_use (hP) ⟨hK, hN⟩⟩ rfl rfl hl.1 rfl (lv_room (Nat.le_of_ble_eq_true rfl)) dX2_commit_41 ⟨Nat.le_of_ble_eq_true rfl, Nat.le_of_ble_eq_true rfl⟩) hS (fun q _ h => (fun _ h => h) q h) (fun _ h => h) (fun _u t H1 locs ht hvm hw hB hz1 hk9 hS => ?_)
      generalize H1 = H at ht hz1 hk9 hS ⊢
      have hP : va_P D vwCl (lW ad cI cB cO acc lm rm u1.1 (va_up u1.2.1 2 0) u1.2.2 ob) H := pB_at ht hB
      have hD : va_D (lA ad acc) (lW ad cI cB cO acc lm rm u1.1 (va_up u1.2.1 2 0) u1.2.2 ob) := wlD hok
      refine lv_iconst (v := 0) hx hb dX2_commit_44 (by decide) ?_
      exact W.iret (v := 0) hx hb hr (fun t ht hW => ⟨⟨_, (u1.1, va_up u1.2.1 2 0, u1.2.2), rfl, by
        rw [cCommit]
        refine Eq.symm ((if_neg c0).trans ?_)
        rw [← hw1]
        exact if_neg c1, hp_at ht hP⟩, hS.F ht⟩) hS.2.2 dX2_commit_45
    · refine lv_aload_n hx hb dX2_commit_28 rfl (lv_at hl 0 rfl) ?_
      refine lv_iconst (v := 0) hx hb dX2_commit_29 (by decide) ?_
      refine va_put (D := D) (ci := 2) (v := .int ((0 : Int32))) (ty := .boolean) (C := RX2) (T := TX2) (N := 11) hx hb hts hi2 tyX2 tyX2_ok nmX2 hown hK hP hD hS 0 (wl_at (by omega)) rfl 7 (by decide) (hts (.fieldLink RX2 71 "BigLedger" "up" "Z") (by decide +kernel)) (fun _ h9 => h9) rfl (by decide +kernel) (rfl) (rfl) (Nat.le_of_ble_eq_true rfl) dX2_commit_30 (fun H locs hP hD hS => ?_)
      have hP : va_P D vwCl (lW ad cI cB cO acc lm rm u1.1 u1.2.1 (va_up u1.2.2 0 (0 : Int32)) ob) H := cv (ls_up (0 : Int32)) hP
      have hD : va_D (lA ad acc) (lW ad cI cB cO acc lm rm u1.1 u1.2.1 (va_up u1.2.2 0 (0 : Int32)) ob) := wlD hok
      refine lv_aload_n hx hb dX2_commit_33 rfl (lv_at hl 0 rfl) ?_
      refine va_callv (va_runV (As := []) (rest := []) ⟨hx, hb, hml, hown, hts⟩ (c_loseMemory l D ad cI cB cO acc lm rm u1.1 u1.2.1 (va_up u1.2.2 0 (0 : Int32)) ob hok) (cwV 0 hts gX2_commit_X2_loseMemory rfl rfl rfl (by decide +kernel) ⟨Nat.le_of_ble_eq_true rfl, Nat.le_of_ble_eq_true rfl⟩) ⟨lPc_blind, va_recv hK hP (ci := 2) (q0 := 0) rfl (wl_at (by omega)), lPc_use (hP) ⟨hK, hN⟩⟩ rfl rfl hl.1 rfl (lv_room (Nat.le_of_ble_eq_true rfl)) dX2_commit_34 ⟨Nat.le_of_ble_eq_true rfl, Nat.le_of_ble_eq_true rfl⟩) hS (fun q _ h => (fun _ h => h) q h) (fun _ h => h) (fun _u t H1 locs ht hvm hw hB hz1 hk9 hS => ?_)
      generalize H1 = H at ht hz1 hk9 hS ⊢
      have hP : va_P D vwCl (lW ad cI cB cO acc lm rm u1.1 (cLose u1.2.1) (va_up u1.2.2 0 (0 : Int32)) ob) H := pB_at ht hB
      have hD : va_D (lA ad acc) (lW ad cI cB cO acc lm rm u1.1 (cLose u1.2.1) (va_up u1.2.2 0 (0 : Int32)) ob) := wlD hok
      refine lv_bipush (v := 6) hx hb dX2_commit_37 (by decide) ?_
      exact W.iret (v := 6) hx hb hr (fun t ht hW => ⟨⟨_, (u1.1, cLose u1.2.1, va_up u1.2.2 0 (0 : Int32)), rfl, by
        rw [cCommit]
        refine Eq.symm ((if_neg c0).trans ?_)
        rw [← hw1]
        exact if_pos c1, hp_at ht hP⟩, hS.F ht⟩) hS.2.2 dX2_commit_39
  · refine lv_bipush (v := 6) hx hb dX2_commit_7 (by decide) ?_
    exact W.iret (v := 6) hx hb hr (fun t ht hW => ⟨⟨_, (N, x, z), rfl, by rw [cCommit]; exact (if_pos (c0)).symm, hp_at ht hP⟩, hS.F ht⟩) hS.2.2 dX2_commit_9
set_option maxHeartbeats 4000000 in
set_option maxRecDepth 100000 in
theorem c_abort (l : Launch) (D : va_G) (ad : Nat → Nat) (cI cB cO : ClassId) (acc lm rm : Nat) (N : LN) (x : Nat → Nat) (z ob : Nat → Int32) (hok : lOk ad acc lm) : Met l yX2_abort wsX2_abort ({ frames := 1, cells := 0, slots := 0, locals := 20 }) (lPc [.ref (ad 0)] D (lW ad cI cB cO acc lm rm N x z ob) [(cI, .int), (cB, .byte), (cO, .object "BigLedger$Natural")]) (va_Qi (fun (r : Int32) (u : DS) => (r, u) = cAbort (N, x, z)) (fun u t => va_P D vwCl (lW ad cI cB cO acc lm rm u.1 u.2.1 u.2.2 ob) t.heap) (lA ad acc)) 0 0 (lA ad acc) := by
  refine Met.ofW (cc := cX2_abort) (maxL := 1) (ret := (some .boolean)) (by decide) rfl ?_
  intro p e s m args below meth c s₁ B hml hv
  obtain ⟨rfl, hP, hK, hN⟩ := hv
  have hx := B.exec
  have hb := B.bytes
  have hr := B.returns
  have hts := atoms_spec (ws := wsX2_abort) B.pre
  have hown : s.vm.findClass RX2 = some m.cls := findClass_of_methodNamed B.named
  have hlocks := B.notSynchronized
  have hi2 : ∀ w ∈ wsX20, w ∈ wsX2_abort := by decide +kernel
  have hok1 := hok.2.1
  have hok2 := hok.2.2.1
  have hok3 := hok.2.2.2
  have hS : va_S (lA ad acc) s.heap s.heap [] := va_S.rf
  have hD : va_D (lA ad acc) (lW ad cI cB cO acc lm rm N x z ob) := wlD hok
  have hl := lv_entry ([.ref (ad 0)]) (n := 1) (Nat.le_of_ble_eq_true rfl)
  rw [lg_entry_eq]
  generalize (lg_sl ([.ref (ad 0)]) ++ List.replicate (1 - (lg_sl ([.ref (ad 0)])).length) Slot.unset).toArray = ls at hl ⊢
  have hl : lv_has ls 1 [(0, .ref (ad 0))] := hl
  refine lv_aload_n hx hb dX2_abort_0 rfl (lv_at hl 0 rfl) ?_
  refine va_get (D := D) (ci := 2) (v := .int (z 0)) (C := RX2) (T := TX2) (N := 11) hx hb hts hi2 hown hK hP 0 (wl_at (by omega)) rfl 7 (by decide) (hts (.fieldLink RX2 71 "BigLedger" "up" "Z") (by decide +kernel)) (fun _ h9 => h9) rfl dX2_abort_1 ?_
  refine lv_if_ne (tgt := 9) hx hb dX2_abort_4 (by decide) (fun c0 => ?_) (fun c0 => ?_)
  · refine lv_aload_n hx hb dX2_abort_9 rfl (lv_at hl 0 rfl) ?_
    refine va_callv (va_runV (As := []) (rest := []) ⟨hx, hb, hml, hown, hts⟩ (c_dropPending l D ad cI cB cO acc lm rm N x z ob hok) (cwV 0 hts gX2_abort_X2_dropPending rfl rfl rfl (by decide +kernel) ⟨Nat.le_of_ble_eq_true rfl, Nat.le_of_ble_eq_true rfl⟩) ⟨lPc_blind, va_recv hK hP (ci := 2) (q0 := 0) rfl (wl_at (by omega)), lPc_use (hP) ⟨hK, hN⟩⟩ rfl rfl hl.1 rfl (lv_room (Nat.le_of_ble_eq_true rfl)) dX2_abort_10 ⟨Nat.le_of_ble_eq_true rfl, Nat.le_of_ble_eq_true rfl⟩) hS (fun q _ h => (fun _ h => h) q h) (fun _ h => h) (fun _u t H1 locs ht hvm hw hB hz1 hk9 hS => ?_)
    generalize H1 = H at ht hz1 hk9 hS ⊢
    have hP : va_P D vwCl (lW ad cI cB cO acc lm rm N (va_up x 2 0) z ob) H := pB_at ht hB
    have hD : va_D (lA ad acc) (lW ad cI cB cO acc lm rm N (va_up x 2 0) z ob) := wlD hok
    refine lv_iconst (v := 1) hx hb dX2_abort_13 (by decide) ?_
    exact W.zret (v := 1) (ty := .boolean) hx hb hr (rfl) (fun t ht hW => ⟨⟨_, (N, va_up x 2 0, z), rfl, by rw [cAbort]; exact (if_neg (c0)).symm, hp_at ht hP⟩, hS.F ht⟩) hS.2.2 dX2_abort_14
  · refine lv_iconst (v := 0) hx hb dX2_abort_7 (by decide) ?_
    exact W.zret (v := 0) (ty := .boolean) hx hb hr (rfl) (fun t ht hW => ⟨⟨_, (N, x, z), rfl, by rw [cAbort]; exact (if_pos (c0)).symm, hp_at ht hP⟩, hS.F ht⟩) hS.2.2 dX2_abort_8
set_option maxHeartbeats 4000000 in
set_option maxRecDepth 100000 in
theorem c_clearAmount (l : Launch) (D : va_G) (ad : Nat → Nat) (cI cB cO : ClassId) (acc lm rm : Nat) (N : LN) (x : Nat → Nat) (z ob : Nat → Int32) (hok : lOk ad acc lm) : Met l yX2_clearAmount wsX2_clearAmount ({ frames := 1, cells := 0, slots := 0, locals := 21 }) (lPc [.ref (ad 0)] D (lW ad cI cB cO acc lm rm N x z ob) [(cI, .int), (cB, .byte), (cO, .object "BigLedger$Natural")]) (va_Qi (fun (r : Int32) (u : DS) => (r, u) = cClear (N, x, z)) (fun u t => va_P D vwCl (lW ad cI cB cO acc lm rm u.1 u.2.1 u.2.2 ob) t.heap) (lA ad acc)) 0 0 (lA ad acc) := by
  refine Met.ofW (cc := cX2_clearAmount) (maxL := 1) (ret := (some .boolean)) (by decide) rfl ?_
  intro p e s m args below meth c s₁ B hml hv
  obtain ⟨rfl, hP, hK, hN⟩ := hv
  have hx := B.exec
  have hb := B.bytes
  have hr := B.returns
  have hts := atoms_spec (ws := wsX2_clearAmount) B.pre
  have hown : s.vm.findClass RX2 = some m.cls := findClass_of_methodNamed B.named
  have hlocks := B.notSynchronized
  have hi2 : ∀ w ∈ wsX20, w ∈ wsX2_clearAmount := by decide +kernel
  have hok1 := hok.2.1
  have hok2 := hok.2.2.1
  have hok3 := hok.2.2.2
  have hS : va_S (lA ad acc) s.heap s.heap [] := va_S.rf
  have hD : va_D (lA ad acc) (lW ad cI cB cO acc lm rm N x z ob) := wlD hok
  have hl := lv_entry ([.ref (ad 0)]) (n := 1) (Nat.le_of_ble_eq_true rfl)
  rw [lg_entry_eq]
  generalize (lg_sl ([.ref (ad 0)]) ++ List.replicate (1 - (lg_sl ([.ref (ad 0)])).length) Slot.unset).toArray = ls at hl ⊢
  have hl : lv_has ls 1 [(0, .ref (ad 0))] := hl
  refine lv_aload_n hx hb dX2_clearAmount_0 rfl (lv_at hl 0 rfl) ?_
  refine va_get (D := D) (ci := 2) (v := .int (z 0)) (C := RX2) (T := TX2) (N := 11) hx hb hts hi2 hown hK hP 0 (wl_at (by omega)) rfl 7 (by decide) (hts (.fieldLink RX2 71 "BigLedger" "up" "Z") (by decide +kernel)) (fun _ h9 => h9) rfl dX2_clearAmount_1 ?_
  refine lv_if_ne (tgt := 9) hx hb dX2_clearAmount_4 (by decide) (fun c0 => ?_) (fun c0 => ?_)
  · refine lv_aload_n hx hb dX2_clearAmount_9 rfl (lv_at hl 0 rfl) ?_
    refine va_get (D := D) (ci := 2) (v := .ref (ad 6)) (C := RX2) (T := TX2) (N := 11) hx hb hts hi2 hown hK hP 0 (wl_at (by omega)) rfl 6 (by decide) (hts (.fieldLink RX2 45 "BigLedger" "amount" "LBigLedger$Natural;") (by decide +kernel)) (fun _ h9 => h9) rfl dX2_clearAmount_10 ?_
    have hn34 := ln_am hP
    refine va_callv (va_runV (As := []) (rest := []) ⟨hx, hb, hml, hown, hts⟩ (c_setZero l D cI (lm + 1) (ad 6) (ad 7) (x 0) (by omega) (ln_oa (i := 6) hok (by omega))) (cwV 0 hts gX2_clearAmount_X1_setZero rfl rfl rfl (by decide +kernel) ⟨Nat.le_of_ble_eq_true rfl, Nat.le_of_ble_eq_true rfl⟩) ⟨nPc_blind, va_recv hK hn34 (ci := 1) (q0 := 0) rfl rfl, nPc_use (hn34) (hK.sub [0] rfl)⟩ rfl rfl hl.1 rfl (lv_room (Nat.le_of_ble_eq_true rfl)) dX2_clearAmount_13 ⟨Nat.le_of_ble_eq_true rfl, Nat.le_of_ble_eq_true rfl⟩) hS (fun q _ h => (fun q h => lA_n (i := 6) (by omega) h) q h) (fun q h => lA_n (i := 6) (by omega) h) (fun _u t H1 locs ht hvm hw hB hz1 hk9 hS => ?_)
    have hP9 := lk_am hok hP hk9 (pB_at ht hB)
    generalize H1 = H at ht hz1 hk9 hS hP9 ⊢
    have hP : va_P D vwCl (lW ad cI cB cO acc lm rm N (va_up x 0 0) z ob) H := hP9
    have hD : va_D (lA ad acc) (lW ad cI cB cO acc lm rm N (va_up x 0 0) z ob) := wlD hok
    refine lv_iconst (v := 1) hx hb dX2_clearAmount_16 (by decide) ?_
    exact W.zret (v := 1) (ty := .boolean) hx hb hr (rfl) (fun t ht hW => ⟨⟨_, (N, va_up x 0 0, z), rfl, by rw [cClear]; exact (if_neg (c0)).symm, hp_at ht hP⟩, hS.F ht⟩) hS.2.2 dX2_clearAmount_17
  · refine lv_iconst (v := 0) hx hb dX2_clearAmount_7 (by decide) ?_
    exact W.zret (v := 0) (ty := .boolean) hx hb hr (rfl) (fun t ht hW => ⟨⟨_, (N, x, z), rfl, by rw [cClear]; exact (if_pos (c0)).symm, hp_at ht hP⟩, hS.F ht⟩) hS.2.2 dX2_clearAmount_8
set_option maxHeartbeats 4000000 in
set_option maxRecDepth 100000 in
theorem c_amountLimb (l : Launch) (D : va_G) (ad : Nat → Nat) (cI cB cO : ClassId) (acc lm rm : Nat) (N : LN) (x : Nat → Nat) (z ob : Nat → Int32) (hok : lOk ad acc lm) (hx0 : x 0 < 2147483648 ^ (lm + 1)) (p0 : Int32) : Met l yX2_amountLimb wsX2_amountLimb ({ frames := 2, cells := 0, slots := 0, locals := 42 }) (lPc [.ref (ad 0), .int (p0)] D (lW ad cI cB cO acc lm rm N x z ob) [(cI, .int), (cB, .byte), (cO, .object "BigLedger$Natural")]) (va_Qi (fun (r : Int32) (u : DS) => (r, u) = cAmLimb lm p0 (N, x, z)) (fun u t => va_P D vwCl (lW ad cI cB cO acc lm rm u.1 u.2.1 u.2.2 ob) t.heap) (lA ad acc)) 0 0 (lA ad acc) := by
  refine Met.ofW (cc := cX2_amountLimb) (maxL := 2) (ret := (some .boolean)) (by decide) rfl ?_
  intro p e s m args below meth c s₁ B hml hv
  obtain ⟨rfl, hP, hK, hN⟩ := hv
  have hx := B.exec
  have hb := B.bytes
  have hr := B.returns
  have hts := atoms_spec (ws := wsX2_amountLimb) B.pre
  have hown : s.vm.findClass RX2 = some m.cls := findClass_of_methodNamed B.named
  have hlocks := B.notSynchronized
  have hi1 : ∀ w ∈ wsX10, w ∈ wsX2_amountLimb := by decide +kernel
  have hi2 : ∀ w ∈ wsX20, w ∈ wsX2_amountLimb := by decide +kernel
  have hok1 := hok.2.1
  have hok2 := hok.2.2.1
  have hok3 := hok.2.2.2
  have hS : va_S (lA ad acc) s.heap s.heap [] := va_S.rf
  have hD : va_D (lA ad acc) (lW ad cI cB cO acc lm rm N x z ob) := wlD hok
  have hl := lv_entry ([.ref (ad 0), .int (p0)]) (n := 2) (Nat.le_of_ble_eq_true rfl)
  rw [lg_entry_eq]
  generalize (lg_sl ([.ref (ad 0), .int (p0)]) ++ List.replicate (2 - (lg_sl ([.ref (ad 0), .int (p0)])).length) Slot.unset).toArray = ls at hl ⊢
  have hl : lv_has ls 2 [(0, .ref (ad 0)), (1, .int (p0))] := hl
  refine lv_aload_n hx hb dX2_amountLimb_0 rfl (lv_at hl 0 rfl) ?_
  refine va_get (D := D) (ci := 2) (v := .int (z 0)) (C := RX2) (T := TX2) (N := 11) hx hb hts hi2 hown hK hP 0 (wl_at (by omega)) rfl 7 (by decide) (hts (.fieldLink RX2 71 "BigLedger" "up" "Z") (by decide +kernel)) (fun _ h9 => h9) rfl dX2_amountLimb_1 ?_
  refine lv_if_eq (tgt := 25) hx hb dX2_amountLimb_4 (by decide) (fun c0 => ?_) (fun c0 => ?_)
  · refine lv_iconst (v := 0) hx hb dX2_amountLimb_25 (by decide) ?_
    exact W.zret (v := 0) (ty := .boolean) hx hb hr (rfl) (fun t ht hW => ⟨⟨_, (N, x, z), rfl, by rw [cAmLimb]; exact (if_pos (c0)).symm, hp_at ht hP⟩, hS.F ht⟩) hS.2.2 dX2_amountLimb_26
  · refine lv_iload_n hx hb dX2_amountLimb_7 rfl (lv_at hl 1 rfl) ?_
    refine lv_if_lt (tgt := 25) hx hb dX2_amountLimb_8 (by decide) (fun c1 => ?_) (fun c1 => ?_)
    · refine lv_iconst (v := 0) hx hb dX2_amountLimb_25 (by decide) ?_
      exact W.zret (v := 0) (ty := .boolean) hx hb hr (rfl) (fun t ht hW => ⟨⟨_, (N, x, z), rfl, by rw [cAmLimb]; exact ((if_neg (c0)).trans (if_pos (c1))).symm, hp_at ht hP⟩, hS.F ht⟩) hS.2.2 dX2_amountLimb_26
    · have hsz := szF_le (x 0) (lm + 1)
      refine lv_aload_n hx hb dX2_amountLimb_11 rfl (lv_at hl 0 rfl) ?_
      refine va_get (D := D) (ci := 2) (v := .ref (ad 6)) (C := RX2) (T := TX2) (N := 11) hx hb hts hi2 hown hK hP 0 (wl_at (by omega)) rfl 6 (by decide) (hts (.fieldLink RX2 45 "BigLedger" "amount" "LBigLedger$Natural;") (by decide +kernel)) (fun _ h9 => h9) rfl dX2_amountLimb_12 ?_
      refine va_getN (D := D) (ci := 1) (host := RX2) (v := .int (nI (szF (x 0) (lm + 1)))) (C := RX1) (T := TX1) (N := 2) hx hb hts hi1 hown hK hP 6 (wl_at (by omega)) rfl 1 (by decide) (va_Nw.use rfl (hN.2.2.2.2.1)) (fun _ h9 => h9) rfl dX2_amountLimb_15 ?_
      refine lv_aload_n hx hb dX2_amountLimb_18 rfl (lv_at hl 0 rfl) ?_
      refine va_get (D := D) (ci := 2) (v := .int (nI lm)) (C := RX2) (T := TX2) (N := 11) hx hb hts hi2 hown hK hP 0 (wl_at (by omega)) rfl 1 (by decide) (hts (.fieldLink RX2 17 "BigLedger" "limbs" "I") (by decide +kernel)) (fun _ h9 => h9) rfl dX2_amountLimb_19 ?_
      refine lv_icmp_lt (tgt := 27) hx hb dX2_amountLimb_22 (by decide) (fun c2 => ?_) (fun c2 => ?_)
      · replace c2 : szF (x 0) (lm + 1) < lm := (nI_ltI (by omega) (by omega)).mp c2
        obtain ⟨k, hk, rfl⟩ := nI_of c1
        have ek : (nI k).toNatClampNeg = k := nI_clamp hk
        refine lv_aload_n hx hb dX2_amountLimb_27 rfl (lv_at hl 0 rfl) ?_
        refine va_get (D := D) (ci := 2) (v := .ref (ad 6)) (C := RX2) (T := TX2) (N := 11) hx hb hts hi2 hown hK hP 0 (wl_at (by omega)) rfl 6 (by decide) (hts (.fieldLink RX2 45 "BigLedger" "amount" "LBigLedger$Natural;") (by decide +kernel)) (fun _ h9 => h9) rfl dX2_amountLimb_28 ?_
        refine lv_iload_n hx hb dX2_amountLimb_31 rfl (lv_at hl 1 rfl) ?_
        have hn35 := ln_am hP
        refine va_callv (va_runV (As := [.int (nI k)]) (rest := []) ⟨hx, hb, hml, hown, hts⟩ (c_append l D cI (lm + 1) (ad 6) (ad 7) (x 0) k hk (by omega) (by omega) (ln_oa (i := 6) hok (by omega)) hx0) (cwV 1 hts gX2_amountLimb_X1_append rfl rfl rfl (by decide +kernel) ⟨Nat.le_of_ble_eq_true rfl, Nat.le_of_ble_eq_true rfl⟩) ⟨nPc_blind, va_recv hK hn35 (ci := 1) (q0 := 0) rfl rfl, nPc_use (hn35) (hK.sub [0] rfl)⟩ rfl rfl hl.1 rfl (lv_room (Nat.le_of_ble_eq_true rfl)) dX2_amountLimb_32 ⟨Nat.le_of_ble_eq_true rfl, Nat.le_of_ble_eq_true rfl⟩) hS (fun q _ h => (fun q h => lA_n (i := 6) (by omega) h) q h) (fun q h => lA_n (i := 6) (by omega) h) (fun _u t H1 locs ht hvm hw hB hz1 hk9 hS => ?_)
        have hP9 := lk_am hok hP hk9 (pB_at ht hB)
        generalize H1 = H at ht hz1 hk9 hS hP9 ⊢
        have hP : va_P D vwCl (lW ad cI cB cO acc lm rm N (va_up x 0 (x 0 * 2147483648 + k)) z ob) H := hP9
        have hD : va_D (lA ad acc) (lW ad cI cB cO acc lm rm N (va_up x 0 (x 0 * 2147483648 + k)) z ob) := wlD hok
        refine lv_iconst (v := 1) hx hb dX2_amountLimb_35 (by decide) ?_
        exact W.zret (v := 1) (ty := .boolean) hx hb hr (rfl) (fun t ht hW => ⟨⟨_, (N, va_up x 0 (x 0 * 2147483648 + k), z), rfl, by rw [cAmLimb, ek]; exact ((if_neg (c0)).trans ((if_neg (c1)).trans (if_pos (c2)))).symm, hp_at ht hP⟩, hS.F ht⟩) hS.2.2 dX2_amountLimb_36
      · refine lv_iconst (v := 0) hx hb dX2_amountLimb_25 (by decide) ?_
        exact W.zret (v := 0) (ty := .boolean) hx hb hr (rfl) (fun t ht hW => ⟨⟨_, (N, x, z), rfl, by rw [cAmLimb]; exact ((if_neg (c0)).trans ((if_neg (c1)).trans (if_neg ((fun q => c2 ((nI_ltI (by omega) (by omega)).mpr q)))))).symm, hp_at ht hP⟩, hS.F ht⟩) hS.2.2 dX2_amountLimb_26
set_option maxHeartbeats 4000000 in
set_option maxRecDepth 100000 in
theorem c_format (l : Launch) (D : va_G) (ad : Nat → Nat) (cI cB cO : ClassId) (acc lm rm : Nat) (N : LN) (x : Nat → Nat) (z ob : Nat → Int32) (hok : lOk ad acc lm) (hNk : nOk lm N) : Met l yX2_format wsX2_format ({ frames := 3, cells := 0, slots := 0, locals := 62 }) (lPc [.ref (ad 0)] D (lW ad cI cB cO acc lm rm N x z ob) [(cI, .int), (cB, .byte), (cO, .object "BigLedger$Natural")]) (va_Qi (fun (r : Int32) (u : DS) => (r, u) = cFormat acc (N, x, z)) (fun u t => va_P D vwCl (lW ad cI cB cO acc lm rm u.1 u.2.1 u.2.2 ob) t.heap) (lA ad acc)) 0 0 (lA ad acc) := by
  refine Met.ofW (cc := cX2_format) (maxL := 1) (ret := (some .boolean)) (by decide) rfl ?_
  intro p e s m args below meth c s₁ B hml hv
  obtain ⟨rfl, hP, hK, hN⟩ := hv
  have hx := B.exec
  have hb := B.bytes
  have hr := B.returns
  have hts := atoms_spec (ws := wsX2_format) B.pre
  have hown : s.vm.findClass RX2 = some m.cls := findClass_of_methodNamed B.named
  have hlocks := B.notSynchronized
  have hi2 : ∀ w ∈ wsX20, w ∈ wsX2_format := by decide +kernel
  have hok1 := hok.2.1
  have hok2 := hok.2.2.1
  have hok3 := hok.2.2.2
  have hS : va_S (lA ad acc) s.heap s.heap [] := va_S.rf
  have hD : va_D (lA ad acc) (lW ad cI cB cO acc lm rm N x z ob) := wlD hok
  have hl := lv_entry ([.ref (ad 0)]) (n := 1) (Nat.le_of_ble_eq_true rfl)
  rw [lg_entry_eq]
  generalize (lg_sl ([.ref (ad 0)]) ++ List.replicate (1 - (lg_sl ([.ref (ad 0)])).length) Slot.unset).toArray = ls at hl ⊢
  have hl : lv_has ls 1 [(0, .ref (ad 0))] := hl
  refine lv_aload_n hx hb dX2_format_0 rfl (lv_at hl 0 rfl) ?_
  refine va_callv (va_runV (As := []) (rest := []) ⟨hx, hb, hml, hown, hts⟩ (c_loseMemory l D ad cI cB cO acc lm rm N x z ob hok) (cwV 0 hts gX2_format_X2_loseMemory rfl rfl rfl (by decide +kernel) ⟨Nat.le_of_ble_eq_true rfl, Nat.le_of_ble_eq_true rfl⟩) ⟨lPc_blind, va_recv hK hP (ci := 2) (q0 := 0) rfl (wl_at (by omega)), lPc_use (hP) ⟨hK, hN⟩⟩ rfl rfl hl.1 rfl (lv_room (Nat.le_of_ble_eq_true rfl)) dX2_format_1 ⟨Nat.le_of_ble_eq_true rfl, Nat.le_of_ble_eq_true rfl⟩) hS (fun q _ h => (fun _ h => h) q h) (fun _ h => h) (fun _u t H1 locs ht hvm hw hB hz1 hk9 hS => ?_)
  generalize H1 = H at ht hz1 hk9 hS ⊢
  have hP : va_P D vwCl (lW ad cI cB cO acc lm rm N (cLose x) z ob) H := pB_at ht hB
  have hD : va_D (lA ad acc) (lW ad cI cB cO acc lm rm N (cLose x) z ob) := wlD hok
  refine lv_aload_n hx hb dX2_format_4 rfl (lv_at hl 0 rfl) ?_
  refine lv_aload_n hx hb dX2_format_5 rfl (lv_at hl 0 rfl) ?_
  refine va_get (D := D) (ci := 2) (v := .ref (ad 1)) (C := RX2) (T := TX2) (N := 11) hx hb hts hi2 hown hK hP 0 (wl_at (by omega)) rfl 3 (by decide) (hts (.fieldLink RX2 28 "BigLedger" "disk" "LBigLedger$Disk;") (by decide +kernel)) (fun _ h9 => h9) rfl dX2_format_6 ?_
  refine va_calli (va_runV (As := []) (rest := [.ref (ad 0)]) ⟨hx, hb, hml, hown, hts⟩ (c_layOut l D ad cI cB cO acc lm rm N (cLose x) z ob hok hNk) (cwV 0 hts gX2_format_X0_layOut rfl rfl rfl (by decide +kernel) ⟨Nat.le_of_ble_eq_true rfl, Nat.le_of_ble_eq_true rfl⟩) ⟨lPc_blind, va_recv hK hP (ci := 0) (q0 := 1) rfl (wl_at (by omega)), lPc_use (hP) ⟨hK, hN⟩⟩ rfl rfl hl.1 rfl (lv_room (Nat.le_of_ble_eq_true rfl)) dX2_format_9 ⟨Nat.le_of_ble_eq_true rfl, Nat.le_of_ble_eq_true rfl⟩) hS (fun q _ h => (fun _ h => h) q h) (fun _ h => h) (fun r1 u1 t H1 locs ht hvm hw1 hB hz1 hk9 hS => ?_)
  generalize H1 = H at ht hz1 hk9 hS ⊢
  have hP : va_P D vwCl (lW ad cI cB cO acc lm rm u1.1 u1.2.1 u1.2.2 ob) H := pB_at ht hB
  have hD : va_D (lA ad acc) (lW ad cI cB cO acc lm rm u1.1 u1.2.1 u1.2.2 ob) := wlD hok
  have hb1 : r1 = 0 ∨ r1 = 1 := by have h9 := dLay_b acc (N, cLose x, z); rw [← hw1] at h9; exact h9
  refine va_put (D := D) (ci := 2) (v := .int (r1)) (ty := .boolean) (C := RX2) (T := TX2) (N := 11) hx hb hts hi2 tyX2 tyX2_ok nmX2 hown hK hP hD hS 0 (wl_at (by omega)) rfl 7 (by decide) (hts (.fieldLink RX2 71 "BigLedger" "up" "Z") (by decide +kernel)) (fun _ h9 => h9) rfl (by decide +kernel) ((bo hb1).1) ((bo hb1).2) (Nat.le_of_ble_eq_true rfl) dX2_format_12 (fun H locs hP hD hS => ?_)
  have hP : va_P D vwCl (lW ad cI cB cO acc lm rm u1.1 u1.2.1 (va_up u1.2.2 0 r1) ob) H := cv (ls_up r1) hP
  have hD : va_D (lA ad acc) (lW ad cI cB cO acc lm rm u1.1 u1.2.1 (va_up u1.2.2 0 r1) ob) := wlD hok
  refine lv_aload_n hx hb dX2_format_15 rfl (lv_at hl 0 rfl) ?_
  refine va_get (D := D) (ci := 2) (v := .int ((va_up u1.2.2 0 r1) 0)) (C := RX2) (T := TX2) (N := 11) hx hb hts hi2 hown hK hP 0 (wl_at (by omega)) rfl 7 (by decide) (hts (.fieldLink RX2 71 "BigLedger" "up" "Z") (by decide +kernel)) (fun _ h9 => h9) rfl dX2_format_16 ?_
  refine lv_topv (y := .int (r1)) (congrArg Value.int (va_up_self _ _ _)) ?_
  exact W.zret (v := r1) (ty := .boolean) hx hb hr ((bo hb1).1) (fun t ht hW => ⟨⟨_, (u1.1, u1.2.1, va_up u1.2.2 0 r1), rfl, by rw [cFormat]; dsimp only; rw [← hw1], hp_at ht hP⟩, hS.F ht⟩) hS.2.2 dX2_format_19
set_option maxHeartbeats 4000000 in
set_option maxRecDepth 100000 in
theorem c_recover (l : Launch) (D : va_G) (ad : Nat → Nat) (cI cB cO : ClassId) (acc lm rm : Nat) (N : LN) (x : Nat → Nat) (z ob : Nat → Int32) (hok : lOk ad acc lm) (hNk : nOk lm N) (hx3 : x 3 < 33554432) : Met l yX2_recover wsX2_recover ({ frames := 4, cells := 0, slots := 0, locals := 87 }) (lPc [.ref (ad 0)] D (lW ad cI cB cO acc lm rm N x z ob) [(cI, .int), (cB, .byte), (cO, .object "BigLedger$Natural")]) (va_Qi (fun (r : Int32) (u : DS) => (r, u) = cRecover acc (N, x, z)) (fun u t => va_P D vwCl (lW ad cI cB cO acc lm rm u.1 u.2.1 u.2.2 ob) t.heap) (lA ad acc)) 0 0 (lA ad acc) := by
  refine Met.ofW (cc := cX2_recover) (maxL := 1) (ret := (some .boolean)) (by decide) rfl ?_
  intro p e s m args below meth c s₁ B hml hv
  obtain ⟨rfl, hP, hK, hN⟩ := hv
  have hx := B.exec
  have hb := B.bytes
  have hr := B.returns
  have hts := atoms_spec (ws := wsX2_recover) B.pre
  have hown : s.vm.findClass RX2 = some m.cls := findClass_of_methodNamed B.named
  have hlocks := B.notSynchronized
  have hi0 : ∀ w ∈ wsX00, w ∈ wsX2_recover := by decide +kernel
  have hi2 : ∀ w ∈ wsX20, w ∈ wsX2_recover := by decide +kernel
  have hok1 := hok.2.1
  have hok2 := hok.2.2.1
  have hok3 := hok.2.2.2
  have hS : va_S (lA ad acc) s.heap s.heap [] := va_S.rf
  have hD : va_D (lA ad acc) (lW ad cI cB cO acc lm rm N x z ob) := wlD hok
  have hl := lv_entry ([.ref (ad 0)]) (n := 1) (Nat.le_of_ble_eq_true rfl)
  rw [lg_entry_eq]
  generalize (lg_sl ([.ref (ad 0)]) ++ List.replicate (1 - (lg_sl ([.ref (ad 0)])).length) Slot.unset).toArray = ls at hl ⊢
  have hl : lv_has ls 1 [(0, .ref (ad 0))] := hl
  refine lv_aload_n hx hb dX2_recover_0 rfl (lv_at hl 0 rfl) ?_
  refine va_callv (va_runV (As := []) (rest := []) ⟨hx, hb, hml, hown, hts⟩ (c_loseMemory l D ad cI cB cO acc lm rm N x z ob hok) (cwV 0 hts gX2_recover_X2_loseMemory rfl rfl rfl (by decide +kernel) ⟨Nat.le_of_ble_eq_true rfl, Nat.le_of_ble_eq_true rfl⟩) ⟨lPc_blind, va_recv hK hP (ci := 2) (q0 := 0) rfl (wl_at (by omega)), lPc_use (hP) ⟨hK, hN⟩⟩ rfl rfl hl.1 rfl (lv_room (Nat.le_of_ble_eq_true rfl)) dX2_recover_1 ⟨Nat.le_of_ble_eq_true rfl, Nat.le_of_ble_eq_true rfl⟩) hS (fun q _ h => (fun _ h => h) q h) (fun _ h => h) (fun _u t H1 locs ht hvm hw hB hz1 hk9 hS => ?_)
  generalize H1 = H at ht hz1 hk9 hS ⊢
  have hP : va_P D vwCl (lW ad cI cB cO acc lm rm N (cLose x) z ob) H := pB_at ht hB
  have hD : va_D (lA ad acc) (lW ad cI cB cO acc lm rm N (cLose x) z ob) := wlD hok
  refine lv_aload_n hx hb dX2_recover_4 rfl (lv_at hl 0 rfl) ?_
  refine lv_aload_n hx hb dX2_recover_5 rfl (lv_at hl 0 rfl) ?_
  refine va_get (D := D) (ci := 2) (v := .ref (ad 1)) (C := RX2) (T := TX2) (N := 11) hx hb hts hi2 hown hK hP 0 (wl_at (by omega)) rfl 3 (by decide) (hts (.fieldLink RX2 28 "BigLedger" "disk" "LBigLedger$Disk;") (by decide +kernel)) (fun _ h9 => h9) rfl dX2_recover_6 ?_
  refine va_getN (D := D) (ci := 0) (host := RX2) (v := .int (z 1)) (C := RX0) (T := TX0) (N := 6) hx hb hts hi0 hown hK hP 1 (wl_at (by omega)) rfl 3 (by decide) (va_Nw.use rfl (hN.2.1)) (fun _ h9 => h9) rfl dX2_recover_9 ?_
  refine lv_if_eq (tgt := 29) hx hb dX2_recover_12 (by decide) (fun c0 => ?_) (fun c0 => ?_)
  · refine lv_iconst (v := 0) hx hb dX2_recover_29 (by decide) ?_
    refine va_put (D := D) (ci := 2) (v := .int ((0 : Int32))) (ty := .boolean) (C := RX2) (T := TX2) (N := 11) hx hb hts hi2 tyX2 tyX2_ok nmX2 hown hK hP hD hS 0 (wl_at (by omega)) rfl 7 (by decide) (hts (.fieldLink RX2 71 "BigLedger" "up" "Z") (by decide +kernel)) (fun _ h9 => h9) rfl (by decide +kernel) (rfl) (rfl) (Nat.le_of_ble_eq_true rfl) dX2_recover_30 (fun H locs hP hD hS => ?_)
    have hP : va_P D vwCl (lW ad cI cB cO acc lm rm N (cLose x) (va_up z 0 (0 : Int32)) ob) H := cv (ls_up (0 : Int32)) hP
    have hD : va_D (lA ad acc) (lW ad cI cB cO acc lm rm N (cLose x) (va_up z 0 (0 : Int32)) ob) := wlD hok
    refine lv_aload_n hx hb dX2_recover_33 rfl (lv_at hl 0 rfl) ?_
    refine va_get (D := D) (ci := 2) (v := .int ((va_up z 0 (0 : Int32)) 0)) (C := RX2) (T := TX2) (N := 11) hx hb hts hi2 hown hK hP 0 (wl_at (by omega)) rfl 7 (by decide) (hts (.fieldLink RX2 71 "BigLedger" "up" "Z") (by decide +kernel)) (fun _ h9 => h9) rfl dX2_recover_34 ?_
    refine lv_topi (fun y36 ey36 => ?_)
    replace ey36 : y36 = 0 := ey36.trans (va_up_self _ _ _)
    subst ey36
    exact W.zret (v := 0) (ty := .boolean) hx hb hr (rfl) (fun t ht hW => ⟨⟨_, (N, cLose x, va_up z 0 (0 : Int32)), rfl, by rw [cRecover]; exact (if_pos (c0)).symm, hp_at ht hP⟩, hS.F ht⟩) hS.2.2 dX2_recover_37
  · refine lv_aload_n hx hb dX2_recover_15 rfl (lv_at hl 0 rfl) ?_
    refine va_get (D := D) (ci := 2) (v := .ref (ad 1)) (C := RX2) (T := TX2) (N := 11) hx hb hts hi2 hown hK hP 0 (wl_at (by omega)) rfl 3 (by decide) (hts (.fieldLink RX2 28 "BigLedger" "disk" "LBigLedger$Disk;") (by decide +kernel)) (fun _ h9 => h9) rfl dX2_recover_16 ?_
    refine va_calli (va_runV (As := []) (rest := [.ref (ad 0)]) ⟨hx, hb, hml, hown, hts⟩ (c_bringLogHome l D ad cI cB cO acc lm rm N (cLose x) z ob hok hNk hx3) (cwV 0 hts gX2_recover_X0_bringLogHome rfl rfl rfl (by decide +kernel) ⟨Nat.le_of_ble_eq_true rfl, Nat.le_of_ble_eq_true rfl⟩) ⟨lPc_blind, va_recv hK hP (ci := 0) (q0 := 1) rfl (wl_at (by omega)), lPc_use (hP) ⟨hK, hN⟩⟩ rfl rfl hl.1 rfl (lv_room (Nat.le_of_ble_eq_true rfl)) dX2_recover_19 ⟨Nat.le_of_ble_eq_true rfl, Nat.le_of_ble_eq_true rfl⟩) hS (fun q _ h => (fun _ h => h) q h) (fun _ h => h) (fun r1 u1 t H1 locs ht hvm hw1 hB hz1 hk9 hS => ?_)
    generalize H1 = H at ht hz1 hk9 hS ⊢
    have hP : va_P D vwCl (lW ad cI cB cO acc lm rm u1.1 u1.2.1 u1.2.2 ob) H := pB_at ht hB
    have hD : va_D (lA ad acc) (lW ad cI cB cO acc lm rm u1.1 u1.2.1 u1.2.2 ob) := wlD hok
    have hb1 : r1 = 0 ∨ r1 = 1 := by have h9 := dHome_b acc (N, cLose x, z); rw [← hw1] at h9; exact h9
    refine lv_if_eq (tgt := 29) hx hb dX2_recover_22 (by decide) (fun c1 => ?_) (fun c1 => ?_)
    · refine lv_iconst (v := 0) hx hb dX2_recover_29 (by decide) ?_
      refine va_put (D := D) (ci := 2) (v := .int ((0 : Int32))) (ty := .boolean) (C := RX2) (T := TX2) (N := 11) hx hb hts hi2 tyX2 tyX2_ok nmX2 hown hK hP hD hS 0 (wl_at (by omega)) rfl 7 (by decide) (hts (.fieldLink RX2 71 "BigLedger" "up" "Z") (by decide +kernel)) (fun _ h9 => h9) rfl (by decide +kernel) (rfl) (rfl) (Nat.le_of_ble_eq_true rfl) dX2_recover_30 (fun H locs hP hD hS => ?_)
      have hP : va_P D vwCl (lW ad cI cB cO acc lm rm u1.1 u1.2.1 (va_up u1.2.2 0 (0 : Int32)) ob) H := cv (ls_up (0 : Int32)) hP
      have hD : va_D (lA ad acc) (lW ad cI cB cO acc lm rm u1.1 u1.2.1 (va_up u1.2.2 0 (0 : Int32)) ob) := wlD hok
      refine lv_aload_n hx hb dX2_recover_33 rfl (lv_at hl 0 rfl) ?_
      refine va_get (D := D) (ci := 2) (v := .int ((va_up u1.2.2 0 (0 : Int32)) 0)) (C := RX2) (T := TX2) (N := 11) hx hb hts hi2 hown hK hP 0 (wl_at (by omega)) rfl 7 (by decide) (hts (.fieldLink RX2 71 "BigLedger" "up" "Z") (by decide +kernel)) (fun _ h9 => h9) rfl dX2_recover_34 ?_
      refine lv_topi (fun y37 ey37 => ?_)
      replace ey37 : y37 = 0 := ey37.trans (va_up_self _ _ _)
      subst ey37
      exact W.zret (v := 0) (ty := .boolean) hx hb hr (rfl) (fun t ht hW => ⟨⟨_, (u1.1, u1.2.1, va_up u1.2.2 0 (0 : Int32)), rfl, by
        rw [cRecover]
        refine Eq.symm ((if_neg c0).trans ?_)
        dsimp only
        rw [← hw1, c1], hp_at ht hP⟩, hS.F ht⟩) hS.2.2 dX2_recover_37
    · refine lv_iconst (v := 1) hx hb dX2_recover_25 (by decide) ?_
      refine lv_goto (tgt := 30) hx hb dX2_recover_26 (by decide) ?_
      refine va_put (D := D) (ci := 2) (v := .int ((1 : Int32))) (ty := .boolean) (C := RX2) (T := TX2) (N := 11) hx hb hts hi2 tyX2 tyX2_ok nmX2 hown hK hP hD hS 0 (wl_at (by omega)) rfl 7 (by decide) (hts (.fieldLink RX2 71 "BigLedger" "up" "Z") (by decide +kernel)) (fun _ h9 => h9) rfl (by decide +kernel) (rfl) (rfl) (Nat.le_of_ble_eq_true rfl) dX2_recover_30 (fun H locs hP hD hS => ?_)
      have hP : va_P D vwCl (lW ad cI cB cO acc lm rm u1.1 u1.2.1 (va_up u1.2.2 0 (1 : Int32)) ob) H := cv (ls_up (1 : Int32)) hP
      have hD : va_D (lA ad acc) (lW ad cI cB cO acc lm rm u1.1 u1.2.1 (va_up u1.2.2 0 (1 : Int32)) ob) := wlD hok
      refine lv_aload_n hx hb dX2_recover_33 rfl (lv_at hl 0 rfl) ?_
      refine va_get (D := D) (ci := 2) (v := .int ((va_up u1.2.2 0 (1 : Int32)) 0)) (C := RX2) (T := TX2) (N := 11) hx hb hts hi2 hown hK hP 0 (wl_at (by omega)) rfl 7 (by decide) (hts (.fieldLink RX2 71 "BigLedger" "up" "Z") (by decide +kernel)) (fun _ h9 => h9) rfl dX2_recover_34 ?_
      refine lv_topi (fun y38 ey38 => ?_)
      replace ey38 : y38 = 1 := ey38.trans (va_up_self _ _ _)
      subst ey38
      exact W.zret (v := 1) (ty := .boolean) hx hb hr (rfl) (fun t ht hW => ⟨⟨_, (u1.1, u1.2.1, va_up u1.2.2 0 (1 : Int32)), rfl, by
        rw [cRecover]
        refine Eq.symm ((if_neg c0).trans ?_)
        dsimp only
        rw [← hw1, bo_1 hb1 c1], hp_at ht hP⟩, hS.F ht⟩) hS.2.2 dX2_recover_37
set_option maxHeartbeats 4000000 in
set_option maxRecDepth 100000 in
theorem c_stopAfter (l : Launch) (D : va_G) (ad : Nat → Nat) (cI cB cO : ClassId) (acc lm rm : Nat) (N : LN) (x : Nat → Nat) (z ob : Nat → Int32) (hok : lOk ad acc lm) (p0 : Int32) : Met l yX2_stopAfter wsX2_stopAfter ({ frames := 0, cells := 0, slots := 0, locals := 0 }) (lPc [.ref (ad 0), .int (p0)] D (lW ad cI cB cO acc lm rm N x z ob) [(cI, .int), (cB, .byte), (cO, .object "BigLedger$Natural")]) (va_Qv (fun _ : Unit => True) (fun _ t => va_P D vwCl (lW ad cI cB cO acc lm rm N x (va_up z 3 (if p0 < 0 then -1 else p0)) ob) t.heap) (lA ad acc)) 0 0 (lA ad acc) := by
  refine Met.ofW (cc := cX2_stopAfter) (maxL := 2) (ret := none) (by decide) rfl ?_
  intro p e s m args below meth c s₁ B hml hv
  obtain ⟨rfl, hP, hK, hN⟩ := hv
  have hx := B.exec
  have hb := B.bytes
  have hr := B.returns
  have hts := atoms_spec (ws := wsX2_stopAfter) B.pre
  have hown : s.vm.findClass RX2 = some m.cls := findClass_of_methodNamed B.named
  have hlocks := B.notSynchronized
  have hi0 : ∀ w ∈ wsX00, w ∈ wsX2_stopAfter := by decide +kernel
  have hi2 : ∀ w ∈ wsX20, w ∈ wsX2_stopAfter := by decide +kernel
  have hok1 := hok.2.1
  have hok2 := hok.2.2.1
  have hok3 := hok.2.2.2
  have hS : va_S (lA ad acc) s.heap s.heap [] := va_S.rf
  have hD : va_D (lA ad acc) (lW ad cI cB cO acc lm rm N x z ob) := wlD hok
  have hl := lv_entry ([.ref (ad 0), .int (p0)]) (n := 2) (Nat.le_of_ble_eq_true rfl)
  rw [lg_entry_eq]
  generalize (lg_sl ([.ref (ad 0), .int (p0)]) ++ List.replicate (2 - (lg_sl ([.ref (ad 0), .int (p0)])).length) Slot.unset).toArray = ls at hl ⊢
  have hl : lv_has ls 2 [(0, .ref (ad 0)), (1, .int (p0))] := hl
  refine lv_aload_n hx hb dX2_stopAfter_0 rfl (lv_at hl 0 rfl) ?_
  refine va_get (D := D) (ci := 2) (v := .ref (ad 1)) (C := RX2) (T := TX2) (N := 11) hx hb hts hi2 hown hK hP 0 (wl_at (by omega)) rfl 3 (by decide) (hts (.fieldLink RX2 28 "BigLedger" "disk" "LBigLedger$Disk;") (by decide +kernel)) (fun _ h9 => h9) rfl dX2_stopAfter_1 ?_
  refine lv_iload_n hx hb dX2_stopAfter_4 rfl (lv_at hl 1 rfl) ?_
  refine lv_if_ge (tgt := 12) hx hb dX2_stopAfter_5 (by decide) (fun c1 => ?_) (fun c1 => ?_)
  · refine lv_iload_n hx hb dX2_stopAfter_12 rfl (lv_at hl 1 rfl) ?_
    refine va_putN (D := D) (ci := 0) (host := RX2) (v := .int (p0)) (ty := .int) (C := RX0) (T := TX0) (N := 6) hx hb hts hi0 tyX0 tyX0_ok nmX0 hown hK hP hD hS 1 (wl_at (by omega)) rfl 5 (by decide) (va_Nw.use rfl (hN.1)) (fun _ h9 => h9) rfl (by decide +kernel) (rfl) (rfl) (Nat.le_of_ble_eq_true rfl) dX2_stopAfter_13 (fun H locs hP hD hS => ?_)
    have hP : va_P D vwCl (lW ad cI cB cO acc lm rm N x (va_up z 3 p0) ob) H := cv (ls_writesUntilStop p0) hP
    have hD : va_D (lA ad acc) (lW ad cI cB cO acc lm rm N x (va_up z 3 p0) ob) := wlD hok
    rw [show va_up z 3 p0 = va_up z 3 (if p0 < 0 then -1 else p0) by rw [if_neg (fun q => (fa_of_lt q).2.1 c1)]] at hP
    exact W.vret hx hb hr (fun t ht hW => ⟨⟨(), rfl, trivial, hp_at ht hP⟩, hS.F ht⟩) hS.2.2 dX2_stopAfter_16
  · refine lv_iconst (v := (-1)) hx hb dX2_stopAfter_8 (by decide) ?_
    refine lv_goto (tgt := 13) hx hb dX2_stopAfter_9 (by decide) ?_
    refine va_putN (D := D) (ci := 0) (host := RX2) (v := .int ((-1 : Int32))) (ty := .int) (C := RX0) (T := TX0) (N := 6) hx hb hts hi0 tyX0 tyX0_ok nmX0 hown hK hP hD hS 1 (wl_at (by omega)) rfl 5 (by decide) (va_Nw.use rfl (hN.1)) (fun _ h9 => h9) rfl (by decide +kernel) (rfl) (rfl) (Nat.le_of_ble_eq_true rfl) dX2_stopAfter_13 (fun H locs hP hD hS => ?_)
    have hP : va_P D vwCl (lW ad cI cB cO acc lm rm N x (va_up z 3 (-1 : Int32)) ob) H := cv (ls_writesUntilStop (-1 : Int32)) hP
    have hD : va_D (lA ad acc) (lW ad cI cB cO acc lm rm N x (va_up z 3 (-1 : Int32)) ob) := wlD hok
    rw [show va_up z 3 (-1) = va_up z 3 (if p0 < 0 then -1 else p0) by rw [if_pos (fa_of_nle c1)]] at hP
    exact W.vret hx hb hr (fun t ht hW => ⟨⟨(), rfl, trivial, hp_at ht hP⟩, hS.F ht⟩) hS.2.2 dX2_stopAfter_16
end
section
set_option maxHeartbeats 4000000 in
set_option maxRecDepth 100000 in
theorem c_balanceSize (l : Launch) (D : va_G) (ad : Nat → Nat) (cI cB cO : ClassId) (acc lm rm : Nat) (N : LN) (x : Nat → Nat) (z ob : Nat → Int32) (hok : lOk ad acc lm) (p0 : Int32) : Met l yX2_balanceSize wsX2_balanceSize ({ frames := 2, cells := 0, slots := 0, locals := 42 }) (lPc [.ref (ad 0), .int (p0)] D (lW ad cI cB cO acc lm rm N x z ob) [(cI, .int), (cB, .byte), (cO, .object "BigLedger$Natural")]) (vp_Si (fun r => r = if z 0 = 0 then -1 else if ¬ isAcc acc p0 = true then -1 else nI (szF (sv N x p0.toNatClampNeg) (lm + 1)))) 0 0 (fun _ => False) := by
  refine Met.ofW (cc := cX2_balanceSize) (maxL := 2) (ret := (some .int)) (by decide) rfl ?_
  intro p e s m args below meth c s₁ B hml hv
  obtain ⟨rfl, hP, hK, hN⟩ := hv
  have hx := B.exec
  have hb := B.bytes
  have hr := B.returns
  have hts := atoms_spec (ws := wsX2_balanceSize) B.pre
  have hown : s.vm.findClass RX2 = some m.cls := findClass_of_methodNamed B.named
  have hlocks := B.notSynchronized
  have hi1 : ∀ w ∈ wsX10, w ∈ wsX2_balanceSize := by decide +kernel
  have hi2 : ∀ w ∈ wsX20, w ∈ wsX2_balanceSize := by decide +kernel
  have hok1 := hok.2.1
  have hok2 := hok.2.2.1
  have hok3 := hok.2.2.2
  generalize hH : s.heap = H at hP ⊢
  have hl := lv_entry ([.ref (ad 0), .int (p0)]) (n := 2) (Nat.le_of_ble_eq_true rfl)
  rw [lg_entry_eq]
  generalize (lg_sl ([.ref (ad 0), .int (p0)]) ++ List.replicate (2 - (lg_sl ([.ref (ad 0), .int (p0)])).length) Slot.unset).toArray = ls at hl ⊢
  have hl : lv_has ls 2 [(0, .ref (ad 0)), (1, .int (p0))] := hl
  refine lv_aload_n hx hb dX2_balanceSize_0 rfl (lv_at hl 0 rfl) ?_
  refine va_get (D := D) (ci := 2) (v := .int (z 0)) (C := RX2) (T := TX2) (N := 11) hx hb hts hi2 hown hK hP 0 (wl_at (by omega)) rfl 7 (by decide) (hts (.fieldLink RX2 71 "BigLedger" "up" "Z") (by decide +kernel)) (fun _ h9 => h9) rfl dX2_balanceSize_1 ?_
  refine lv_if_eq (tgt := 15) hx hb dX2_balanceSize_4 (by decide) (fun c0 => ?_) (fun c0 => ?_)
  · refine lv_iconst (v := (-1)) hx hb dX2_balanceSize_15 (by decide) ?_
    exact W.iret (v := -1) hx hb hr (fun t ht hW => ⟨_, rfl, (if_pos (c0)).symm, ht.trans hH.symm⟩) (fun _ h => by cases h) dX2_balanceSize_16
  · refine lv_aload_n hx hb dX2_balanceSize_7 rfl (lv_at hl 0 rfl) ?_
    refine lv_iload_n hx hb dX2_balanceSize_8 rfl (lv_at hl 1 rfl) ?_
    refine vp_callSi (W.runV (As := [.int (p0)]) (rest := []) ⟨hx, hb, hml, hown, hts⟩ (c_isAccount l D ad cI cB cO acc lm rm N x z ob hok p0) (cwV 1 hts gX2_balanceSize_X2_isAccount rfl rfl rfl (by decide +kernel) ⟨Nat.le_of_ble_eq_true rfl, Nat.le_of_ble_eq_true rfl⟩) ⟨lPc_blind, va_recv hK hP (ci := 2) (q0 := 0) rfl (wl_at (by omega)), lPc_use (hP) ⟨hK, hN⟩⟩ rfl rfl hl.1 rfl (lv_room (Nat.le_of_ble_eq_true rfl)) dX2_balanceSize_9 ⟨Nat.le_of_ble_eq_true rfl, Nat.le_of_ble_eq_true rfl⟩) (fun ra hra => ?_)
    refine lv_if_ne (tgt := 17) hx hb dX2_balanceSize_12 (by decide) (fun c1 => ?_) (fun c1 => ?_)
    · have ha : isAcc acc p0 = true := Classical.byContradiction (fun q => c1 (by rw [hra, if_neg q]))
      obtain ⟨b, hqb, rfl⟩ := isAcc_t (by omega) ha
      have eb : (nI b).toNatClampNeg = b := nI_clamp (by omega)
      refine lv_aload_n hx hb dX2_balanceSize_17 rfl (lv_at hl 0 rfl) ?_
      refine lv_iload_n hx hb dX2_balanceSize_18 rfl (lv_at hl 1 rfl) ?_
      refine va_csr (W.runV (As := [.int (nI b)]) (rest := []) ⟨hx, hb, hml, hown, hts⟩ (c_seen l D ad cI cB cO acc lm rm N x z ob hok b (by omega)) (cwV 1 hts gX2_balanceSize_X2_seen rfl rfl rfl (by decide +kernel) ⟨Nat.le_of_ble_eq_true rfl, Nat.le_of_ble_eq_true rfl⟩) ⟨lPc_blind, va_recv hK hP (ci := 2) (q0 := 0) rfl (wl_at (by omega)), lPc_use (hP) ⟨hK, hN⟩⟩ rfl rfl hl.1 rfl (lv_room (Nat.le_of_ble_eq_true rfl)) dX2_balanceSize_19 ⟨Nat.le_of_ble_eq_true rfl, Nat.le_of_ble_eq_true rfl⟩) (fun ks hks => ?_)
      subst hks
      have hsk := sk_lt x b
      have hn1 := ln_p hP (sk x b) b (by omega) (by omega)
      refine va_getN (D := D) (ci := 1) (host := RX2) (v := .int (nI (szF (N (sk x b) b) (lm + 1)))) (C := RX1) (T := TX1) (N := 2) hx hb hts hi1 hown hK hn1 0 rfl rfl 1 (by decide) (va_Nw.use rfl (hN.2.2.2.2.1)) (fun _ h9 => h9) rfl dX2_balanceSize_22 ?_
      exact W.iret (v := nI (szF (N (sk x b) b) (lm + 1))) hx hb hr (fun t ht hW => ⟨_, rfl, by rw [eb]; exact ((if_neg (c0)).trans (if_neg ((fun q => q ha)))).symm, ht.trans hH.symm⟩) (fun _ h => by cases h) dX2_balanceSize_25
    · have han : ¬ isAcc acc p0 = true := fun q => absurd c1 (by rw [hra, if_pos q]; decide)
      refine lv_iconst (v := (-1)) hx hb dX2_balanceSize_15 (by decide) ?_
      exact W.iret (v := -1) hx hb hr (fun t ht hW => ⟨_, rfl, ((if_neg (c0)).trans (if_pos (han))).symm, ht.trans hH.symm⟩) (fun _ h => by cases h) dX2_balanceSize_16
set_option maxHeartbeats 4000000 in
set_option maxRecDepth 100000 in
theorem c_balanceLimb (l : Launch) (D : va_G) (ad : Nat → Nat) (cI cB cO : ClassId) (acc lm rm : Nat) (N : LN) (x : Nat → Nat) (z ob : Nat → Int32) (hok : lOk ad acc lm) (hNk : nOk lm N) (p0 p1 : Int32) : Met l yX2_balanceLimb wsX2_balanceLimb ({ frames := 2, cells := 0, slots := 0, locals := 42 }) (lPc [.ref (ad 0), .int (p0), .int (p1)] D (lW ad cI cB cO acc lm rm N x z ob) [(cI, .int), (cB, .byte), (cO, .object "BigLedger$Natural")]) (vp_Si (fun r => r = if z 0 = 0 then -1 else if ¬ isAcc acc p0 = true then -1 else if p1 < 0 then -1 else lb (sv N x p0.toNatClampNeg) p1.toNatClampNeg)) 0 0 (fun _ => False) := by
  refine Met.ofW (cc := cX2_balanceLimb) (maxL := 3) (ret := (some .int)) (by decide) rfl ?_
  intro p e s m args below meth c s₁ B hml hv
  obtain ⟨rfl, hP, hK, hN⟩ := hv
  have hx := B.exec
  have hb := B.bytes
  have hr := B.returns
  have hts := atoms_spec (ws := wsX2_balanceLimb) B.pre
  have hown : s.vm.findClass RX2 = some m.cls := findClass_of_methodNamed B.named
  have hlocks := B.notSynchronized
  have hi2 : ∀ w ∈ wsX20, w ∈ wsX2_balanceLimb := by decide +kernel
  have hok1 := hok.2.1
  have hok2 := hok.2.2.1
  have hok3 := hok.2.2.2
  generalize hH : s.heap = H at hP ⊢
  have hl := lv_entry ([.ref (ad 0), .int (p0), .int (p1)]) (n := 3) (Nat.le_of_ble_eq_true rfl)
  rw [lg_entry_eq]
  generalize (lg_sl ([.ref (ad 0), .int (p0), .int (p1)]) ++ List.replicate (3 - (lg_sl ([.ref (ad 0), .int (p0), .int (p1)])).length) Slot.unset).toArray = ls at hl ⊢
  have hl : lv_has ls 3 [(0, .ref (ad 0)), (1, .int (p0)), (2, .int (p1))] := hl
  refine lv_aload_n hx hb dX2_balanceLimb_0 rfl (lv_at hl 0 rfl) ?_
  refine va_get (D := D) (ci := 2) (v := .int (z 0)) (C := RX2) (T := TX2) (N := 11) hx hb hts hi2 hown hK hP 0 (wl_at (by omega)) rfl 7 (by decide) (hts (.fieldLink RX2 71 "BigLedger" "up" "Z") (by decide +kernel)) (fun _ h9 => h9) rfl dX2_balanceLimb_1 ?_
  refine lv_if_eq (tgt := 19) hx hb dX2_balanceLimb_4 (by decide) (fun c0 => ?_) (fun c0 => ?_)
  · refine lv_iconst (v := (-1)) hx hb dX2_balanceLimb_19 (by decide) ?_
    exact W.iret (v := -1) hx hb hr (fun t ht hW => ⟨_, rfl, (if_pos (c0)).symm, ht.trans hH.symm⟩) (fun _ h => by cases h) dX2_balanceLimb_20
  · refine lv_aload_n hx hb dX2_balanceLimb_7 rfl (lv_at hl 0 rfl) ?_
    refine lv_iload_n hx hb dX2_balanceLimb_8 rfl (lv_at hl 1 rfl) ?_
    refine vp_callSi (W.runV (As := [.int (p0)]) (rest := []) ⟨hx, hb, hml, hown, hts⟩ (c_isAccount l D ad cI cB cO acc lm rm N x z ob hok p0) (cwV 1 hts gX2_balanceLimb_X2_isAccount rfl rfl rfl (by decide +kernel) ⟨Nat.le_of_ble_eq_true rfl, Nat.le_of_ble_eq_true rfl⟩) ⟨lPc_blind, va_recv hK hP (ci := 2) (q0 := 0) rfl (wl_at (by omega)), lPc_use (hP) ⟨hK, hN⟩⟩ rfl rfl hl.1 rfl (lv_room (Nat.le_of_ble_eq_true rfl)) dX2_balanceLimb_9 ⟨Nat.le_of_ble_eq_true rfl, Nat.le_of_ble_eq_true rfl⟩) (fun ra hra => ?_)
    refine lv_if_eq (tgt := 19) hx hb dX2_balanceLimb_12 (by decide) (fun c1 => ?_) (fun c1 => ?_)
    · have han : ¬ isAcc acc p0 = true := fun q => absurd c1 (by rw [hra, if_pos q]; decide)
      refine lv_iconst (v := (-1)) hx hb dX2_balanceLimb_19 (by decide) ?_
      exact W.iret (v := -1) hx hb hr (fun t ht hW => ⟨_, rfl, ((if_neg (c0)).trans (if_pos (han))).symm, ht.trans hH.symm⟩) (fun _ h => by cases h) dX2_balanceLimb_20
    · have ha : isAcc acc p0 = true := Classical.byContradiction (fun q => c1 (by rw [hra, if_neg q]))
      obtain ⟨b, hqb, rfl⟩ := isAcc_t (by omega) ha
      have eb : (nI b).toNatClampNeg = b := nI_clamp (by omega)
      refine lv_iload_n hx hb dX2_balanceLimb_15 rfl (lv_at hl 2 rfl) ?_
      refine lv_if_ge (tgt := 21) hx hb dX2_balanceLimb_16 (by decide) (fun c2 => ?_) (fun c2 => ?_)
      · have c3 : ¬ p1 < 0 := fun q => (fa_of_lt q).2.1 c2
        refine lv_aload_n hx hb dX2_balanceLimb_21 rfl (lv_at hl 0 rfl) ?_
        refine lv_iload_n hx hb dX2_balanceLimb_22 rfl (lv_at hl 1 rfl) ?_
        refine va_csr (W.runV (As := [.int (nI b)]) (rest := []) ⟨hx, hb, hml, hown, hts⟩ (c_seen l D ad cI cB cO acc lm rm N x z ob hok b (by omega)) (cwV 1 hts gX2_balanceLimb_X2_seen rfl rfl rfl (by decide +kernel) ⟨Nat.le_of_ble_eq_true rfl, Nat.le_of_ble_eq_true rfl⟩) ⟨lPc_blind, va_recv hK hP (ci := 2) (q0 := 0) rfl (wl_at (by omega)), lPc_use (hP) ⟨hK, hN⟩⟩ rfl rfl hl.1 rfl (lv_room (Nat.le_of_ble_eq_true rfl)) dX2_balanceLimb_23 ⟨Nat.le_of_ble_eq_true rfl, Nat.le_of_ble_eq_true rfl⟩) (fun ks hks => ?_)
        subst hks
        have hsk := sk_lt x b
        have hn1 := ln_p hP (sk x b) b (by omega) (by omega)
        refine lv_iload_n hx hb dX2_balanceLimb_26 rfl (lv_at hl 2 rfl) ?_
        refine vp_callSi (W.runV (As := [.int (p1)]) (rest := []) ⟨hx, hb, hml, hown, hts⟩ (c_limbAt l D cI (lm + 1) (ad (6 * b + 2 * sk x b + 10)) (ad (6 * b + 2 * sk x b + 11)) (N (sk x b) b) p1 (by omega) (hNk _ _)) (cwV 1 hts gX2_balanceLimb_X1_limbAt rfl rfl rfl (by decide +kernel) ⟨Nat.le_of_ble_eq_true rfl, Nat.le_of_ble_eq_true rfl⟩) ⟨nPc_blind, va_recv hK hn1 (ci := 1) (q0 := 0) rfl rfl, nPc_use (hn1) (hK.sub [0] rfl)⟩ rfl rfl hl.1 rfl (lv_room (Nat.le_of_ble_eq_true rfl)) dX2_balanceLimb_27 ⟨Nat.le_of_ble_eq_true rfl, Nat.le_of_ble_eq_true rfl⟩) (fun rl hrl => ?_)
        replace hrl := hrl.trans (if_neg c3)
        exact W.iret (v := rl) hx hb hr (fun t ht hW => ⟨_, rfl, by rw [eb]; exact hrl.trans ((if_neg (c0)).trans ((if_neg ((fun q => q ha))).trans (if_neg (c3)))).symm, ht.trans hH.symm⟩) (fun _ h => by cases h) dX2_balanceLimb_30
      · refine lv_iconst (v := (-1)) hx hb dX2_balanceLimb_19 (by decide) ?_
        exact W.iret (v := -1) hx hb hr (fun t ht hW => ⟨_, rfl, ((if_neg (c0)).trans ((if_neg ((fun q => q ha))).trans (if_pos (fa_of_nle c2)))).symm, ht.trans hH.symm⟩) (fun _ h => by cases h) dX2_balanceLimb_20
set_option maxHeartbeats 4000000 in
set_option maxRecDepth 100000 in
theorem c_totalLimb (l : Launch) (D : va_G) (ad : Nat → Nat) (cI cB cO : ClassId) (acc lm rm : Nat) (N : LN) (x : Nat → Nat) (z ob : Nat → Int32) (hok : lOk ad acc lm) (hNk : nOk lm N) (p0 : Int32) : Met l yX2_totalLimb wsX2_totalLimb ({ frames := 2, cells := 0, slots := 0, locals := 42 }) (lPc [.ref (ad 0), .int (p0)] D (lW ad cI cB cO acc lm rm N x z ob) [(cI, .int), (cB, .byte), (cO, .object "BigLedger$Natural")]) (vp_Si (fun r => r = if z 0 = 0 then -1 else if p0 < 0 then -1 else lb (sv N x acc) p0.toNatClampNeg)) 0 0 (fun _ => False) := by
  refine Met.ofW (cc := cX2_totalLimb) (maxL := 2) (ret := (some .int)) (by decide) rfl ?_
  intro p e s m args below meth c s₁ B hml hv
  obtain ⟨rfl, hP, hK, hN⟩ := hv
  have hx := B.exec
  have hb := B.bytes
  have hr := B.returns
  have hts := atoms_spec (ws := wsX2_totalLimb) B.pre
  have hown : s.vm.findClass RX2 = some m.cls := findClass_of_methodNamed B.named
  have hlocks := B.notSynchronized
  have hi2 : ∀ w ∈ wsX20, w ∈ wsX2_totalLimb := by decide +kernel
  have hok1 := hok.2.1
  have hok2 := hok.2.2.1
  have hok3 := hok.2.2.2
  generalize hH : s.heap = H at hP ⊢
  have hl := lv_entry ([.ref (ad 0), .int (p0)]) (n := 2) (Nat.le_of_ble_eq_true rfl)
  rw [lg_entry_eq]
  generalize (lg_sl ([.ref (ad 0), .int (p0)]) ++ List.replicate (2 - (lg_sl ([.ref (ad 0), .int (p0)])).length) Slot.unset).toArray = ls at hl ⊢
  have hl : lv_has ls 2 [(0, .ref (ad 0)), (1, .int (p0))] := hl
  refine lv_aload_n hx hb dX2_totalLimb_0 rfl (lv_at hl 0 rfl) ?_
  refine va_get (D := D) (ci := 2) (v := .int (z 0)) (C := RX2) (T := TX2) (N := 11) hx hb hts hi2 hown hK hP 0 (wl_at (by omega)) rfl 7 (by decide) (hts (.fieldLink RX2 71 "BigLedger" "up" "Z") (by decide +kernel)) (fun _ h9 => h9) rfl dX2_totalLimb_1 ?_
  refine lv_if_eq (tgt := 11) hx hb dX2_totalLimb_4 (by decide) (fun c0 => ?_) (fun c0 => ?_)
  · refine lv_iconst (v := (-1)) hx hb dX2_totalLimb_11 (by decide) ?_
    exact W.iret (v := -1) hx hb hr (fun t ht hW => ⟨_, rfl, (if_pos (c0)).symm, ht.trans hH.symm⟩) (fun _ h => by cases h) dX2_totalLimb_12
  · refine lv_iload_n hx hb dX2_totalLimb_7 rfl (lv_at hl 1 rfl) ?_
    refine lv_if_ge (tgt := 13) hx hb dX2_totalLimb_8 (by decide) (fun c2 => ?_) (fun c2 => ?_)
    · have c3 : ¬ p0 < 0 := fun q => (fa_of_lt q).2.1 c2
      refine lv_aload_n hx hb dX2_totalLimb_13 rfl (lv_at hl 0 rfl) ?_
      refine lv_aload_n hx hb dX2_totalLimb_14 rfl (lv_at hl 0 rfl) ?_
      refine vp_callSi (W.runV (As := []) (rest := [.ref (ad 0)]) ⟨hx, hb, hml, hown, hts⟩ (c_totalBlock l D ad cI cB cO acc lm rm N x z ob hok) (cwV 0 hts gX2_totalLimb_X2_totalBlock rfl rfl rfl (by decide +kernel) ⟨Nat.le_of_ble_eq_true rfl, Nat.le_of_ble_eq_true rfl⟩) ⟨lPc_blind, va_recv hK hP (ci := 2) (q0 := 0) rfl (wl_at (by omega)), lPc_use (hP) ⟨hK, hN⟩⟩ rfl rfl hl.1 rfl (lv_room (Nat.le_of_ble_eq_true rfl)) dX2_totalLimb_15 ⟨Nat.le_of_ble_eq_true rfl, Nat.le_of_ble_eq_true rfl⟩) (fun rt hrt => ?_)
      subst hrt
      refine va_csr (W.runV (As := [.int (nI acc)]) (rest := []) ⟨hx, hb, hml, hown, hts⟩ (c_seen l D ad cI cB cO acc lm rm N x z ob hok acc (by omega)) (cwV 1 hts gX2_totalLimb_X2_seen rfl rfl rfl (by decide +kernel) ⟨Nat.le_of_ble_eq_true rfl, Nat.le_of_ble_eq_true rfl⟩) ⟨lPc_blind, va_recv hK hP (ci := 2) (q0 := 0) rfl (wl_at (by omega)), lPc_use (hP) ⟨hK, hN⟩⟩ rfl rfl hl.1 rfl (lv_room (Nat.le_of_ble_eq_true rfl)) dX2_totalLimb_18 ⟨Nat.le_of_ble_eq_true rfl, Nat.le_of_ble_eq_true rfl⟩) (fun ks hks => ?_)
      subst hks
      have hsk := sk_lt x acc
      have hn1 := ln_p hP (sk x acc) acc (by omega) (by omega)
      refine lv_iload_n hx hb dX2_totalLimb_21 rfl (lv_at hl 1 rfl) ?_
      refine vp_callSi (W.runV (As := [.int (p0)]) (rest := []) ⟨hx, hb, hml, hown, hts⟩ (c_limbAt l D cI (lm + 1) (ad (6 * acc + 2 * sk x acc + 10)) (ad (6 * acc + 2 * sk x acc + 11)) (N (sk x acc) acc) p0 (by omega) (hNk _ _)) (cwV 1 hts gX2_totalLimb_X1_limbAt rfl rfl rfl (by decide +kernel) ⟨Nat.le_of_ble_eq_true rfl, Nat.le_of_ble_eq_true rfl⟩) ⟨nPc_blind, va_recv hK hn1 (ci := 1) (q0 := 0) rfl rfl, nPc_use (hn1) (hK.sub [0] rfl)⟩ rfl rfl hl.1 rfl (lv_room (Nat.le_of_ble_eq_true rfl)) dX2_totalLimb_22 ⟨Nat.le_of_ble_eq_true rfl, Nat.le_of_ble_eq_true rfl⟩) (fun rl hrl => ?_)
      replace hrl := hrl.trans (if_neg c3)
      exact W.iret (v := rl) hx hb hr (fun t ht hW => ⟨_, rfl, hrl.trans ((if_neg (c0)).trans (if_neg (c3))).symm, ht.trans hH.symm⟩) (fun _ h => by cases h) dX2_totalLimb_25
    · refine lv_iconst (v := (-1)) hx hb dX2_totalLimb_11 (by decide) ?_
      exact W.iret (v := -1) hx hb hr (fun t ht hW => ⟨_, rfl, ((if_neg (c0)).trans (if_pos (fa_of_nle c2))).symm, ht.trans hH.symm⟩) (fun _ h => by cases h) dX2_totalLimb_12
set_option maxHeartbeats 4000000 in
set_option maxRecDepth 100000 in
theorem c_amount (l : Launch) (D : va_G) (ad : Nat → Nat) (cI cB cO : ClassId) (acc lm rm : Nat) (N : LN) (x : Nat → Nat) (z ob : Nat → Int32) (hok : lOk ad acc lm) (hx0 : x 0 < 2147483648 ^ (lm + 1)) (p0 : Int32) : Met l yX2_amount wsX2_amount ({ frames := 1, cells := 0, slots := 0, locals := 21 }) (lPc [.ref (ad 0), .int (p0)] D (lW ad cI cB cO acc lm rm N x z ob) [(cI, .int), (cB, .byte), (cO, .object "BigLedger$Natural")]) (vp_Si (fun r => r = if z 0 = 0 then -1 else if p0 < 0 then -1 else lb (x 0) p0.toNatClampNeg)) 0 0 (fun _ => False) := by
  refine Met.ofW (cc := cX2_amount) (maxL := 2) (ret := (some .int)) (by decide) rfl ?_
  intro p e s m args below meth c s₁ B hml hv
  obtain ⟨rfl, hP, hK, hN⟩ := hv
  have hx := B.exec
  have hb := B.bytes
  have hr := B.returns
  have hts := atoms_spec (ws := wsX2_amount) B.pre
  have hown : s.vm.findClass RX2 = some m.cls := findClass_of_methodNamed B.named
  have hlocks := B.notSynchronized
  have hi2 : ∀ w ∈ wsX20, w ∈ wsX2_amount := by decide +kernel
  have hok1 := hok.2.1
  have hok2 := hok.2.2.1
  have hok3 := hok.2.2.2
  generalize hH : s.heap = H at hP ⊢
  have hl := lv_entry ([.ref (ad 0), .int (p0)]) (n := 2) (Nat.le_of_ble_eq_true rfl)
  rw [lg_entry_eq]
  generalize (lg_sl ([.ref (ad 0), .int (p0)]) ++ List.replicate (2 - (lg_sl ([.ref (ad 0), .int (p0)])).length) Slot.unset).toArray = ls at hl ⊢
  have hl : lv_has ls 2 [(0, .ref (ad 0)), (1, .int (p0))] := hl
  refine lv_aload_n hx hb dX2_amount_0 rfl (lv_at hl 0 rfl) ?_
  refine va_get (D := D) (ci := 2) (v := .int (z 0)) (C := RX2) (T := TX2) (N := 11) hx hb hts hi2 hown hK hP 0 (wl_at (by omega)) rfl 7 (by decide) (hts (.fieldLink RX2 71 "BigLedger" "up" "Z") (by decide +kernel)) (fun _ h9 => h9) rfl dX2_amount_1 ?_
  refine lv_if_eq (tgt := 11) hx hb dX2_amount_4 (by decide) (fun c0 => ?_) (fun c0 => ?_)
  · refine lv_iconst (v := (-1)) hx hb dX2_amount_11 (by decide) ?_
    exact W.iret (v := -1) hx hb hr (fun t ht hW => ⟨_, rfl, (if_pos (c0)).symm, ht.trans hH.symm⟩) (fun _ h => by cases h) dX2_amount_12
  · refine lv_iload_n hx hb dX2_amount_7 rfl (lv_at hl 1 rfl) ?_
    refine lv_if_ge (tgt := 13) hx hb dX2_amount_8 (by decide) (fun c2 => ?_) (fun c2 => ?_)
    · have c3 : ¬ p0 < 0 := fun q => (fa_of_lt q).2.1 c2
      have hn1 := ln_am hP
      refine lv_aload_n hx hb dX2_amount_13 rfl (lv_at hl 0 rfl) ?_
      refine va_get (D := D) (ci := 2) (v := .ref (ad 6)) (C := RX2) (T := TX2) (N := 11) hx hb hts hi2 hown hK hP 0 (wl_at (by omega)) rfl 6 (by decide) (hts (.fieldLink RX2 45 "BigLedger" "amount" "LBigLedger$Natural;") (by decide +kernel)) (fun _ h9 => h9) rfl dX2_amount_14 ?_
      refine lv_iload_n hx hb dX2_amount_17 rfl (lv_at hl 1 rfl) ?_
      refine vp_callSi (W.runV (As := [.int (p0)]) (rest := []) ⟨hx, hb, hml, hown, hts⟩ (c_limbAt l D cI (lm + 1) (ad 6) (ad 7) (x 0) p0 (by omega) (hx0)) (cwV 1 hts gX2_amount_X1_limbAt rfl rfl rfl (by decide +kernel) ⟨Nat.le_of_ble_eq_true rfl, Nat.le_of_ble_eq_true rfl⟩) ⟨nPc_blind, va_recv hK hn1 (ci := 1) (q0 := 0) rfl rfl, nPc_use (hn1) (hK.sub [0] rfl)⟩ rfl rfl hl.1 rfl (lv_room (Nat.le_of_ble_eq_true rfl)) dX2_amount_18 ⟨Nat.le_of_ble_eq_true rfl, Nat.le_of_ble_eq_true rfl⟩) (fun rl hrl => ?_)
      replace hrl := hrl.trans (if_neg c3)
      exact W.iret (v := rl) hx hb hr (fun t ht hW => ⟨_, rfl, hrl.trans ((if_neg (c0)).trans (if_neg (c3))).symm, ht.trans hH.symm⟩) (fun _ h => by cases h) dX2_amount_21
    · refine lv_iconst (v := (-1)) hx hb dX2_amount_11 (by decide) ?_
      exact W.iret (v := -1) hx hb hr (fun t ht hW => ⟨_, rfl, ((if_neg (c0)).trans (if_pos (fa_of_nle c2))).symm, ht.trans hH.symm⟩) (fun _ h => by cases h) dX2_amount_12
set_option maxHeartbeats 4000000 in
set_option maxRecDepth 100000 in
theorem c_compare (l : Launch) (D : va_G) (ad : Nat → Nat) (cI cB cO : ClassId) (acc lm rm : Nat) (N : LN) (x : Nat → Nat) (z ob : Nat → Int32) (hok : lOk ad acc lm) (hNk : nOk lm N) (p0 p1 : Int32) : Met l yX2_compare wsX2_compare ({ frames := 2, cells := 0, slots := 0, locals := 44 }) (lPc [.ref (ad 0), .int (p0), .int (p1)] D (lW ad cI cB cO acc lm rm N x z ob) [(cI, .int), (cB, .byte), (cO, .object "BigLedger$Natural")]) (vp_Si (fun r => r = if z 0 = 0 then -2 else if ¬ (isAcc acc p0 = true ∧ isAcc acc p1 = true) then -2 else cmpI (sv N x p0.toNatClampNeg) (sv N x p1.toNatClampNeg))) 0 0 (fun _ => False) := by
  refine Met.ofW (cc := cX2_compare) (maxL := 3) (ret := (some .int)) (by decide) rfl ?_
  intro p e s m args below meth c s₁ B hml hv
  obtain ⟨rfl, hP, hK, hN⟩ := hv
  have hx := B.exec
  have hb := B.bytes
  have hr := B.returns
  have hts := atoms_spec (ws := wsX2_compare) B.pre
  have hown : s.vm.findClass RX2 = some m.cls := findClass_of_methodNamed B.named
  have hlocks := B.notSynchronized
  have hi2 : ∀ w ∈ wsX20, w ∈ wsX2_compare := by decide +kernel
  have hok1 := hok.2.1
  have hok2 := hok.2.2.1
  have hok3 := hok.2.2.2
  generalize hH : s.heap = H at hP ⊢
  have hl := lv_entry ([.ref (ad 0), .int (p0), .int (p1)]) (n := 3) (Nat.le_of_ble_eq_true rfl)
  rw [lg_entry_eq]
  generalize (lg_sl ([.ref (ad 0), .int (p0), .int (p1)]) ++ List.replicate (3 - (lg_sl ([.ref (ad 0), .int (p0), .int (p1)])).length) Slot.unset).toArray = ls at hl ⊢
  have hl : lv_has ls 3 [(0, .ref (ad 0)), (1, .int (p0)), (2, .int (p1))] := hl
  refine lv_aload_n hx hb dX2_compare_0 rfl (lv_at hl 0 rfl) ?_
  refine va_get (D := D) (ci := 2) (v := .int (z 0)) (C := RX2) (T := TX2) (N := 11) hx hb hts hi2 hown hK hP 0 (wl_at (by omega)) rfl 7 (by decide) (hts (.fieldLink RX2 71 "BigLedger" "up" "Z") (by decide +kernel)) (fun _ h9 => h9) rfl dX2_compare_1 ?_
  refine lv_if_eq (tgt := 23) hx hb dX2_compare_4 (by decide) (fun c0 => ?_) (fun c0 => ?_)
  · refine lv_bipush (v := (-2)) hx hb dX2_compare_23 (by decide) ?_
    exact W.iret (v := -2) hx hb hr (fun t ht hW => ⟨_, rfl, (if_pos (c0)).symm, ht.trans hH.symm⟩) (fun _ h => by cases h) dX2_compare_25
  · refine lv_aload_n hx hb dX2_compare_7 rfl (lv_at hl 0 rfl) ?_
    refine lv_iload_n hx hb dX2_compare_8 rfl (lv_at hl 1 rfl) ?_
    refine vp_callSi (W.runV (As := [.int (p0)]) (rest := []) ⟨hx, hb, hml, hown, hts⟩ (c_isAccount l D ad cI cB cO acc lm rm N x z ob hok p0) (cwV 1 hts gX2_compare_X2_isAccount rfl rfl rfl (by decide +kernel) ⟨Nat.le_of_ble_eq_true rfl, Nat.le_of_ble_eq_true rfl⟩) ⟨lPc_blind, va_recv hK hP (ci := 2) (q0 := 0) rfl (wl_at (by omega)), lPc_use (hP) ⟨hK, hN⟩⟩ rfl rfl hl.1 rfl (lv_room (Nat.le_of_ble_eq_true rfl)) dX2_compare_9 ⟨Nat.le_of_ble_eq_true rfl, Nat.le_of_ble_eq_true rfl⟩) (fun ra hra => ?_)
    refine lv_if_eq (tgt := 23) hx hb dX2_compare_12 (by decide) (fun c1 => ?_) (fun c1 => ?_)
    · have han : ¬ isAcc acc p0 = true := fun q => absurd c1 (by rw [hra, if_pos q]; decide)
      refine lv_bipush (v := (-2)) hx hb dX2_compare_23 (by decide) ?_
      exact W.iret (v := -2) hx hb hr (fun t ht hW => ⟨_, rfl, ((if_neg (c0)).trans (if_pos ((fun q => han q.1)))).symm, ht.trans hH.symm⟩) (fun _ h => by cases h) dX2_compare_25
    · have ha : isAcc acc p0 = true := Classical.byContradiction (fun q => c1 (by rw [hra, if_neg q]))
      obtain ⟨b, hqb, rfl⟩ := isAcc_t (by omega) ha
      have eb : (nI b).toNatClampNeg = b := nI_clamp (by omega)
      refine lv_aload_n hx hb dX2_compare_15 rfl (lv_at hl 0 rfl) ?_
      refine lv_iload_n hx hb dX2_compare_16 rfl (lv_at hl 2 rfl) ?_
      refine vp_callSi (W.runV (As := [.int (p1)]) (rest := []) ⟨hx, hb, hml, hown, hts⟩ (c_isAccount l D ad cI cB cO acc lm rm N x z ob hok p1) (cwV 1 hts gX2_compare_X2_isAccount rfl rfl rfl (by decide +kernel) ⟨Nat.le_of_ble_eq_true rfl, Nat.le_of_ble_eq_true rfl⟩) ⟨lPc_blind, va_recv hK hP (ci := 2) (q0 := 0) rfl (wl_at (by omega)), lPc_use (hP) ⟨hK, hN⟩⟩ rfl rfl hl.1 rfl (lv_room (Nat.le_of_ble_eq_true rfl)) dX2_compare_17 ⟨Nat.le_of_ble_eq_true rfl, Nat.le_of_ble_eq_true rfl⟩) (fun ra2 hra2 => ?_)
      refine lv_if_ne (tgt := 26) hx hb dX2_compare_20 (by decide) (fun c12 => ?_) (fun c12 => ?_)
      · have ha2 : isAcc acc p1 = true := Classical.byContradiction (fun q => c12 (by rw [hra2, if_neg q]))
        obtain ⟨d, hqd, rfl⟩ := isAcc_t (by omega) ha2
        have ed : (nI d).toNatClampNeg = d := nI_clamp (by omega)
        have hsk := sk_lt x b
        have hsk2 := sk_lt x d
        refine lv_aload_n hx hb dX2_compare_26 rfl (lv_at hl 0 rfl) ?_
        refine lv_iload_n hx hb dX2_compare_27 rfl (lv_at hl 1 rfl) ?_
        refine va_csr (W.runV (As := [.int (nI b)]) (rest := []) ⟨hx, hb, hml, hown, hts⟩ (c_seen l D ad cI cB cO acc lm rm N x z ob hok b (by omega)) (cwV 1 hts gX2_compare_X2_seen rfl rfl rfl (by decide +kernel) ⟨Nat.le_of_ble_eq_true rfl, Nat.le_of_ble_eq_true rfl⟩) ⟨lPc_blind, va_recv hK hP (ci := 2) (q0 := 0) rfl (wl_at (by omega)), lPc_use (hP) ⟨hK, hN⟩⟩ rfl rfl hl.1 rfl (lv_room (Nat.le_of_ble_eq_true rfl)) dX2_compare_28 ⟨Nat.le_of_ble_eq_true rfl, Nat.le_of_ble_eq_true rfl⟩) (fun ks hks => ?_)
        subst hks
        refine lv_aload_n hx hb dX2_compare_31 rfl (lv_at hl 0 rfl) ?_
        refine lv_iload_n hx hb dX2_compare_32 rfl (lv_at hl 2 rfl) ?_
        refine va_csr (W.runV (As := [.int (nI d)]) (rest := [.ref (ad (6 * b + 2 * sk x b + 10))]) ⟨hx, hb, hml, hown, hts⟩ (c_seen l D ad cI cB cO acc lm rm N x z ob hok d (by omega)) (cwV 1 hts gX2_compare_X2_seen rfl rfl rfl (by decide +kernel) ⟨Nat.le_of_ble_eq_true rfl, Nat.le_of_ble_eq_true rfl⟩) ⟨lPc_blind, va_recv hK hP (ci := 2) (q0 := 0) rfl (wl_at (by omega)), lPc_use (hP) ⟨hK, hN⟩⟩ rfl rfl hl.1 rfl (lv_room (Nat.le_of_ble_eq_true rfl)) dX2_compare_33 ⟨Nat.le_of_ble_eq_true rfl, Nat.le_of_ble_eq_true rfl⟩) (fun ks hks => ?_)
        subst hks
        have hn1 := ln_p hP (sk x b) b (by omega) (by omega)
        have hn2 := va_P.app hn1 (ln_p hP (sk x d) d (by omega) (by omega))
        refine vp_callSi (W.runV (As := [.ref (ad (6 * d + 2 * sk x d + 10))]) (rest := []) ⟨hx, hb, hml, hown, hts⟩ (c_standingTo l D cI (lm + 1) (ad (6 * b + 2 * sk x b + 10)) (ad (6 * b + 2 * sk x b + 11)) (N (sk x b) b) (ad (6 * d + 2 * sk x d + 10)) (ad (6 * d + 2 * sk x d + 11)) (N (sk x d) d) (by omega) (hNk _ _) (hNk _ _)) (cwV 1 hts gX2_compare_X1_standingTo rfl rfl rfl (by decide +kernel) ⟨Nat.le_of_ble_eq_true rfl, Nat.le_of_ble_eq_true rfl⟩) ⟨nPc_blind, va_recv hK hn1 (ci := 1) (q0 := 0) rfl rfl, nPc_use (hn2) (hK.sub [0] rfl)⟩ rfl rfl hl.1 rfl (lv_room (Nat.le_of_ble_eq_true rfl)) dX2_compare_36 ⟨Nat.le_of_ble_eq_true rfl, Nat.le_of_ble_eq_true rfl⟩) (fun rb hrb => ?_)
        exact W.iret (v := rb) hx hb hr (fun t ht hW => ⟨_, rfl, by rw [eb, ed]; exact hrb.trans ((if_neg (c0)).trans (if_neg ((fun q => q ⟨ha, ha2⟩)))).symm, ht.trans hH.symm⟩) (fun _ h => by cases h) dX2_compare_39
      · have ha2n : ¬ isAcc acc p1 = true := fun q => absurd c12 (by rw [hra2, if_pos q]; decide)
        refine lv_bipush (v := (-2)) hx hb dX2_compare_23 (by decide) ?_
        exact W.iret (v := -2) hx hb hr (fun t ht hW => ⟨_, rfl, ((if_neg (c0)).trans (if_pos ((fun q => ha2n q.2)))).symm, ht.trans hH.symm⟩) (fun _ h => by cases h) dX2_compare_25
set_option maxHeartbeats 4000000 in
set_option maxRecDepth 100000 in
theorem c_count (l : Launch) (D : va_G) (ad : Nat → Nat) (cI cB cO : ClassId) (acc lm rm : Nat) (N : LN) (x : Nat → Nat) (z ob : Nat → Int32) (hok : lOk ad acc lm) (hx2 : x 2 < 33554432) (p0 : Int32) : Met l yX2_count wsX2_count ({ frames := 2, cells := 0, slots := 0, locals := 42 }) (lPc [.ref (ad 0), .int (p0)] D (lW ad cI cB cO acc lm rm N x z ob) [(cI, .int), (cB, .byte), (cO, .object "BigLedger$Natural")]) (vp_Si (fun r => r = cCount acc lm rm p0 (N, x, z))) 0 0 (fun _ => False) := by
  refine Met.ofW (cc := cX2_count) (maxL := 2) (ret := (some .int)) (by decide) rfl ?_
  intro p e s m args below meth c s₁ B hml hv
  obtain ⟨rfl, hP, hK, hN⟩ := hv
  have hx := B.exec
  have hb := B.bytes
  have hr := B.returns
  have hts := atoms_spec (ws := wsX2_count) B.pre
  have hown : s.vm.findClass RX2 = some m.cls := findClass_of_methodNamed B.named
  have hlocks := B.notSynchronized
  have hi0 : ∀ w ∈ wsX00, w ∈ wsX2_count := by decide +kernel
  have hi1 : ∀ w ∈ wsX10, w ∈ wsX2_count := by decide +kernel
  have hi2 : ∀ w ∈ wsX20, w ∈ wsX2_count := by decide +kernel
  have hok1 := hok.2.1
  have hok2 := hok.2.2.1
  have hok3 := hok.2.2.2
  generalize hH : s.heap = H at hP ⊢
  have hl := lv_entry ([.ref (ad 0), .int (p0)]) (n := 2) (Nat.le_of_ble_eq_true rfl)
  rw [lg_entry_eq]
  generalize (lg_sl ([.ref (ad 0), .int (p0)]) ++ List.replicate (2 - (lg_sl ([.ref (ad 0), .int (p0)])).length) Slot.unset).toArray = ls at hl ⊢
  have hl : lv_has ls 2 [(0, .ref (ad 0)), (1, .int (p0))] := hl
  refine lv_iload_n hx hb dX2_count_0 rfl (lv_at hl 1 rfl) ?_
  by_cases q0 : p0 = 0
  · subst q0
    refine lv_tableIn (tgt := 52) hx hb dX2_count_1 (by decide) (by decide) rfl (by decide) ?_
    refine lv_aload_n hx hb dX2_count_52 rfl (lv_at hl 0 rfl) ?_
    refine va_get (D := D) (ci := 2) (v := .int (nI acc)) (C := RX2) (T := TX2) (N := 11) hx hb hts hi2 hown hK hP 0 (wl_at (by omega)) rfl 0 (by decide) (hts (.fieldLink RX2 13 "BigLedger" "accounts" "I") (by decide +kernel)) (fun _ h9 => h9) rfl dX2_count_53 ?_
    exact W.iret (v := nI acc) hx hb hr (fun t ht hW => ⟨_, rfl, rfl, ht.trans hH.symm⟩) (fun _ h => by cases h) dX2_count_56
  · by_cases q1 : p0 = 1
    · subst q1
      refine lv_tableIn (tgt := 57) hx hb dX2_count_1 (by decide) (by decide) rfl (by decide) ?_
      refine lv_aload_n hx hb dX2_count_57 rfl (lv_at hl 0 rfl) ?_
      refine va_get (D := D) (ci := 2) (v := .int (nI lm)) (C := RX2) (T := TX2) (N := 11) hx hb hts hi2 hown hK hP 0 (wl_at (by omega)) rfl 1 (by decide) (hts (.fieldLink RX2 17 "BigLedger" "limbs" "I") (by decide +kernel)) (fun _ h9 => h9) rfl dX2_count_58 ?_
      exact W.iret (v := nI lm) hx hb hr (fun t ht hW => ⟨_, rfl, rfl, ht.trans hH.symm⟩) (fun _ h => by cases h) dX2_count_61
    · by_cases q2 : p0 = 2
      · subst q2
        refine lv_tableIn (tgt := 62) hx hb dX2_count_1 (by decide) (by decide) rfl (by decide) ?_
        refine lv_aload_n hx hb dX2_count_62 rfl (lv_at hl 0 rfl) ?_
        refine va_get (D := D) (ci := 2) (v := .int (nI rm)) (C := RX2) (T := TX2) (N := 11) hx hb hts hi2 hown hK hP 0 (wl_at (by omega)) rfl 2 (by decide) (hts (.fieldLink RX2 20 "BigLedger" "room" "I") (by decide +kernel)) (fun _ h9 => h9) rfl dX2_count_63 ?_
        exact W.iret (v := nI rm) hx hb hr (fun t ht hW => ⟨_, rfl, rfl, ht.trans hH.symm⟩) (fun _ h => by cases h) dX2_count_66
      · by_cases q3 : p0 = 3
        · subst q3
          refine lv_tableIn (tgt := 67) hx hb dX2_count_1 (by decide) (by decide) rfl (by decide) ?_
          refine lv_aload_n hx hb dX2_count_67 rfl (lv_at hl 0 rfl) ?_
          refine va_get (D := D) (ci := 2) (v := .ref (ad 1)) (C := RX2) (T := TX2) (N := 11) hx hb hts hi2 hown hK hP 0 (wl_at (by omega)) rfl 3 (by decide) (hts (.fieldLink RX2 28 "BigLedger" "disk" "LBigLedger$Disk;") (by decide +kernel)) (fun _ h9 => h9) rfl dX2_count_68 ?_
          refine va_getN (D := D) (ci := 0) (host := RX2) (v := .int (z 2)) (C := RX0) (T := TX0) (N := 6) hx hb hts hi0 hown hK hP 1 (wl_at (by omega)) rfl 4 (by decide) (va_Nw.use rfl (hN.2.2.1)) (fun _ h9 => h9) rfl dX2_count_71 ?_
          exact W.iret (v := z 2) hx hb hr (fun t ht hW => ⟨_, rfl, rfl, ht.trans hH.symm⟩) (fun _ h => by cases h) dX2_count_74
        · by_cases q4 : p0 = 4
          · subst q4
            refine lv_tableIn (tgt := 75) hx hb dX2_count_1 (by decide) (by decide) rfl (by decide) ?_
            refine lv_aload_n hx hb dX2_count_75 rfl (lv_at hl 0 rfl) ?_
            refine va_get (D := D) (ci := 2) (v := .int (z 0)) (C := RX2) (T := TX2) (N := 11) hx hb hts hi2 hown hK hP 0 (wl_at (by omega)) rfl 7 (by decide) (hts (.fieldLink RX2 71 "BigLedger" "up" "Z") (by decide +kernel)) (fun _ h9 => h9) rfl dX2_count_76 ?_
            refine lv_if_eq (tgt := 86) hx hb dX2_count_79 (by decide) (fun c0 => ?_) (fun c0 => ?_)
            · refine lv_iconst (v := 0) hx hb dX2_count_86 (by decide) ?_
              exact W.iret (v := 0) hx hb hr (fun t ht hW => ⟨_, rfl, (if_pos c0).symm, ht.trans hH.symm⟩) (fun _ h => by cases h) dX2_count_87
            · refine lv_iconst (v := 1) hx hb dX2_count_82 (by decide) ?_
              refine lv_goto (tgt := 87) hx hb dX2_count_83 (by decide) ?_
              exact W.iret (v := 1) hx hb hr (fun t ht hW => ⟨_, rfl, (if_neg c0).symm, ht.trans hH.symm⟩) (fun _ h => by cases h) dX2_count_87
          · by_cases q5 : p0 = 5
            · subst q5
              refine lv_tableIn (tgt := 88) hx hb dX2_count_1 (by decide) (by decide) rfl (by decide) ?_
              refine lv_aload_n hx hb dX2_count_88 rfl (lv_at hl 0 rfl) ?_
              refine va_get (D := D) (ci := 2) (v := .int (nI (x 2))) (C := RX2) (T := TX2) (N := 11) hx hb hts hi2 hown hK hP 0 (wl_at (by omega)) rfl 5 (by decide) (hts (.fieldLink RX2 126 "BigLedger" "touched" "I") (by decide +kernel)) (fun _ h9 => h9) rfl dX2_count_89 ?_
              refine vp_callSi (W.runS (As := [.int (nI (x 2))]) (rest := []) ⟨hx, hb, hml, hown, hts⟩ (c_bitCount l (x 2) (by omega)) (va_cwS 1 hts gX2_count_J6_bitCount_0f7a4 rfl rfl rfl (by decide +kernel) ⟨Nat.le_of_ble_eq_true rfl, Nat.le_of_ble_eq_true rfl⟩) preEq rfl rfl hl.1 rfl (lv_room (Nat.le_of_ble_eq_true rfl)) dX2_count_92 ⟨Nat.le_of_ble_eq_true rfl, Nat.le_of_ble_eq_true rfl⟩) (fun rb hrb => ?_)
              exact W.iret (v := rb) hx hb hr (fun t ht hW => ⟨_, rfl, hrb, ht.trans hH.symm⟩) (fun _ h => by cases h) dX2_count_95
            · by_cases q6 : p0 = 6
              · subst q6
                refine lv_tableIn (tgt := 96) hx hb dX2_count_1 (by decide) (by decide) rfl (by decide) ?_
                refine lv_aload_n hx hb dX2_count_96 rfl (lv_at hl 0 rfl) ?_
                refine va_get (D := D) (ci := 2) (v := .ref (ad 1)) (C := RX2) (T := TX2) (N := 11) hx hb hts hi2 hown hK hP 0 (wl_at (by omega)) rfl 3 (by decide) (hts (.fieldLink RX2 28 "BigLedger" "disk" "LBigLedger$Disk;") (by decide +kernel)) (fun _ h9 => h9) rfl dX2_count_97 ?_
                refine va_getN (D := D) (ci := 0) (host := RX2) (v := .int (z 3)) (C := RX0) (T := TX0) (N := 6) hx hb hts hi0 hown hK hP 1 (wl_at (by omega)) rfl 5 (by decide) (va_Nw.use rfl (hN.1)) (fun _ h9 => h9) rfl dX2_count_100 ?_
                exact W.iret (v := z 3) hx hb hr (fun t ht hW => ⟨_, rfl, rfl, ht.trans hH.symm⟩) (fun _ h => by cases h) dX2_count_103
              · by_cases q7 : p0 = 7
                · subst q7
                  refine lv_tableIn (tgt := 104) hx hb dX2_count_1 (by decide) (by decide) rfl (by decide) ?_
                  refine lv_aload_n hx hb dX2_count_104 rfl (lv_at hl 0 rfl) ?_
                  refine va_get (D := D) (ci := 2) (v := .int (z 0)) (C := RX2) (T := TX2) (N := 11) hx hb hts hi2 hown hK hP 0 (wl_at (by omega)) rfl 7 (by decide) (hts (.fieldLink RX2 71 "BigLedger" "up" "Z") (by decide +kernel)) (fun _ h9 => h9) rfl dX2_count_105 ?_
                  refine lv_if_eq (tgt := 125) hx hb dX2_count_108 (by decide) (fun c0 => ?_) (fun c0 => ?_)
                  · refine lv_iconst (v := 0) hx hb dX2_count_125 (by decide) ?_
                    exact W.iret (v := 0) hx hb hr (fun t ht hW => ⟨_, rfl, (if_pos c0).symm, ht.trans hH.symm⟩) (fun _ h => by cases h) dX2_count_126
                  · refine lv_aload_n hx hb dX2_count_111 rfl (lv_at hl 0 rfl) ?_
                    refine lv_aload_n hx hb dX2_count_112 rfl (lv_at hl 0 rfl) ?_
                    refine vp_callSi (W.runV (As := []) (rest := [.ref (ad 0)]) ⟨hx, hb, hml, hown, hts⟩ (c_totalBlock l D ad cI cB cO acc lm rm N x z ob hok) (cwV 0 hts gX2_count_X2_totalBlock rfl rfl rfl (by decide +kernel) ⟨Nat.le_of_ble_eq_true rfl, Nat.le_of_ble_eq_true rfl⟩) ⟨lPc_blind, va_recv hK hP (ci := 2) (q0 := 0) rfl (wl_at (by omega)), lPc_use (hP) ⟨hK, hN⟩⟩ rfl rfl hl.1 rfl (lv_room (Nat.le_of_ble_eq_true rfl)) dX2_count_113 ⟨Nat.le_of_ble_eq_true rfl, Nat.le_of_ble_eq_true rfl⟩) (fun rt hrt => ?_)
                    subst hrt
                    refine va_csr (W.runV (As := [.int (nI acc)]) (rest := []) ⟨hx, hb, hml, hown, hts⟩ (c_seen l D ad cI cB cO acc lm rm N x z ob hok acc (by omega)) (cwV 1 hts gX2_count_X2_seen rfl rfl rfl (by decide +kernel) ⟨Nat.le_of_ble_eq_true rfl, Nat.le_of_ble_eq_true rfl⟩) ⟨lPc_blind, va_recv hK hP (ci := 2) (q0 := 0) rfl (wl_at (by omega)), lPc_use (hP) ⟨hK, hN⟩⟩ rfl rfl hl.1 rfl (lv_room (Nat.le_of_ble_eq_true rfl)) dX2_count_116 ⟨Nat.le_of_ble_eq_true rfl, Nat.le_of_ble_eq_true rfl⟩) (fun ks hks => ?_)
                    subst hks
                    have hsk := sk_lt x acc
                    have hn1 := ln_p hP (sk x acc) acc (by omega) (by omega)
                    refine va_getN (D := D) (ci := 1) (host := RX2) (v := .int (nI (szF (N (sk x acc) acc) (lm + 1)))) (C := RX1) (T := TX1) (N := 2) hx hb hts hi1 hown hK hn1 0 rfl rfl 1 (by decide) (va_Nw.use rfl (hN.2.2.2.2.1)) (fun _ h9 => h9) rfl dX2_count_119 ?_
                    refine lv_goto (tgt := 126) hx hb dX2_count_122 (by decide) ?_
                    exact W.iret (v := nI (szF (N (sk x acc) acc) (lm + 1))) hx hb hr (fun t ht hW => ⟨_, rfl, (if_neg c0).symm, ht.trans hH.symm⟩) (fun _ h => by cases h) dX2_count_126
                · by_cases q8 : p0 = 8
                  · subst q8
                    refine lv_tableIn (tgt := 127) hx hb dX2_count_1 (by decide) (by decide) rfl (by decide) ?_
                    refine lv_aload_n hx hb dX2_count_127 rfl (lv_at hl 0 rfl) ?_
                    refine va_get (D := D) (ci := 2) (v := .ref (ad 6)) (C := RX2) (T := TX2) (N := 11) hx hb hts hi2 hown hK hP 0 (wl_at (by omega)) rfl 6 (by decide) (hts (.fieldLink RX2 45 "BigLedger" "amount" "LBigLedger$Natural;") (by decide +kernel)) (fun _ h9 => h9) rfl dX2_count_128 ?_
                    refine va_getN (D := D) (ci := 1) (host := RX2) (v := .int (nI (szF (x 0) (lm + 1)))) (C := RX1) (T := TX1) (N := 2) hx hb hts hi1 hown hK hP 6 (wl_at (by omega)) rfl 1 (by decide) (va_Nw.use rfl (hN.2.2.2.2.1)) (fun _ h9 => h9) rfl dX2_count_131 ?_
                    exact W.iret (v := nI (szF (x 0) (lm + 1))) hx hb hr (fun t ht hW => ⟨_, rfl, rfl, ht.trans hH.symm⟩) (fun _ h => by cases h) dX2_count_134
                  · refine lv_tableOut (tgt := 135) hx hb dX2_count_1 (sw_out q0 q1 q2 q3 q4 q5 q6 q7 q8) (by decide) ?_
                    refine lv_iconst (v := (-1)) hx hb dX2_count_135 (by decide) ?_
                    exact W.iret (v := -1) hx hb hr (fun t ht hW => ⟨_, rfl, by unfold cCount; rw [if_neg q0, if_neg q1, if_neg q2, if_neg q3, if_neg q4, if_neg q5, if_neg q6, if_neg q7, if_neg q8], ht.trans hH.symm⟩) (fun _ h => by cases h) dX2_count_136
set_option maxHeartbeats 4000000 in
set_option maxRecDepth 100000 in
theorem c_write (l : Launch) (D : va_G) (ad : Nat → Nat) (cI cB cO : ClassId) (acc lm rm : Nat) (N : LN) (x : Nat → Nat) (z ob : Nat → Int32) (hok : lOk ad acc lm) (hNk : nOk lm N) (hx1 : x 1 < 2147483648 ^ (lm + 1)) (p0 : Int32) (hbal : ∀ b, b < acc → sv N x b < 2147483648 ^ lm) : Met l yX2_write wsX2_write ({ frames := 2, cells := 0, slots := 0, locals := 46 }) (lPc [.ref (ad 0), .int (p0)] D (lW ad cI cB cO acc lm rm N x z ob) [(cI, .int), (cB, .byte), (cO, .object "BigLedger$Natural")]) (va_Qi (fun (r : Int32) (u : WS) => cWr acc lm p0 N x z ob r u) (fun u t => va_P D vwCl (lW ad cI cB cO acc lm rm N u.1 u.2.1 u.2.2) t.heap) (lA ad acc)) 0 0 (lA ad acc) := by
  refine Met.ofW (cc := cX2_write) (maxL := 3) (ret := (some .int)) (by decide) rfl ?_
  intro p e s m args below meth c s₁ B hml hv
  obtain ⟨rfl, hP, hK, hN⟩ := hv
  have hx := B.exec
  have hb := B.bytes
  have hr := B.returns
  have hts := atoms_spec (ws := wsX2_write) B.pre
  have hown : s.vm.findClass RX2 = some m.cls := findClass_of_methodNamed B.named
  have hlocks := B.notSynchronized
  have hi1 : ∀ w ∈ wsX10, w ∈ wsX2_write := by decide +kernel
  have hi2 : ∀ w ∈ wsX20, w ∈ wsX2_write := by decide +kernel
  have hok1 := hok.2.1
  have hok2 := hok.2.2.1
  have hok3 := hok.2.2.2
  have hS : va_S (lA ad acc) s.heap s.heap [] := va_S.rf
  have hD : va_D (lA ad acc) (lW ad cI cB cO acc lm rm N x z ob) := wlD hok
  have hl := lv_entry ([.ref (ad 0), .int (p0)]) (n := 3) (Nat.le_of_ble_eq_true rfl)
  rw [lg_entry_eq]
  generalize (lg_sl ([.ref (ad 0), .int (p0)]) ++ List.replicate (3 - (lg_sl ([.ref (ad 0), .int (p0)])).length) Slot.unset).toArray = ls at hl ⊢
  have hl : lv_has ls 3 [(0, .ref (ad 0)), (1, .int (p0))] := hl
  refine lv_aload_n hx hb dX2_write_0 rfl (lv_at hl 0 rfl) ?_
  refine va_get (D := D) (ci := 2) (v := .int (z 0)) (C := RX2) (T := TX2) (N := 11) hx hb hts hi2 hown hK hP 0 (wl_at (by omega)) rfl 7 (by decide) (hts (.fieldLink RX2 71 "BigLedger" "up" "Z") (by decide +kernel)) (fun _ h9 => h9) rfl dX2_write_1 ?_
  refine lv_if_eq (tgt := 15) hx hb dX2_write_4 (by decide) (fun c0 => ?_) (fun c0 => ?_)
  · refine lv_iconst (v := (-1)) hx hb dX2_write_15 (by decide) ?_
    exact W.iret (v := -1) hx hb hr (fun t ht hW => ⟨⟨_, (x, z, ob), rfl, cWr_no (Or.inl c0), hp_at ht hP⟩, hS.F ht⟩) hS.2.2 dX2_write_16
  · refine lv_aload_n hx hb dX2_write_7 rfl (lv_at hl 0 rfl) ?_
    refine lv_iload_n hx hb dX2_write_8 rfl (lv_at hl 1 rfl) ?_
    refine vp_callSi (W.runV (As := [.int (p0)]) (rest := []) ⟨hx, hb, hml, hown, hts⟩ (c_isAccount l D ad cI cB cO acc lm rm N x z ob hok p0) (cwV 1 hts gX2_write_X2_isAccount rfl rfl rfl (by decide +kernel) ⟨Nat.le_of_ble_eq_true rfl, Nat.le_of_ble_eq_true rfl⟩) ⟨lPc_blind, va_recv hK hP (ci := 2) (q0 := 0) rfl (wl_at (by omega)), lPc_use (hP) ⟨hK, hN⟩⟩ rfl rfl hl.1 rfl (lv_room (Nat.le_of_ble_eq_true rfl)) dX2_write_9 ⟨Nat.le_of_ble_eq_true rfl, Nat.le_of_ble_eq_true rfl⟩) (fun ra hra => ?_)
    refine lv_if_ne (tgt := 17) hx hb dX2_write_12 (by decide) (fun c1 => ?_) (fun c1 => ?_)
    · have ha : isAcc acc p0 = true := Classical.byContradiction (fun q => c1 (by rw [hra, if_neg q]))
      obtain ⟨b, hqb, rfl⟩ := isAcc_t (by omega) ha
      have eb : (nI b).toNatClampNeg = b := nI_clamp (by omega)
      have hsk := sk_lt x b
      have hvb := hbal b hqb
      have hvw : sv N x b < 2147483648 ^ (lm + 1) := hNk _ _
      refine lv_aload_n hx hb dX2_write_17 rfl (lv_at hl 0 rfl) ?_
      refine va_get (D := D) (ci := 2) (v := .ref (ad 8)) (C := RX2) (T := TX2) (N := 11) hx hb hts hi2 hown hK hP 0 (wl_at (by omega)) rfl 8 (by decide) (hts (.fieldLink RX2 49 "BigLedger" "scratch" "LBigLedger$Natural;") (by decide +kernel)) (fun _ h9 => h9) rfl dX2_write_18 ?_
      refine lv_aload_n hx hb dX2_write_21 rfl (lv_at hl 0 rfl) ?_
      refine lv_iload_n hx hb dX2_write_22 rfl (lv_at hl 1 rfl) ?_
      refine va_csr (W.runV (As := [.int (nI b)]) (rest := [.ref (ad 8)]) ⟨hx, hb, hml, hown, hts⟩ (c_seen l D ad cI cB cO acc lm rm N x z ob hok b (by omega)) (cwV 1 hts gX2_write_X2_seen rfl rfl rfl (by decide +kernel) ⟨Nat.le_of_ble_eq_true rfl, Nat.le_of_ble_eq_true rfl⟩) ⟨lPc_blind, va_recv hK hP (ci := 2) (q0 := 0) rfl (wl_at (by omega)), lPc_use (hP) ⟨hK, hN⟩⟩ rfl rfl hl.1 rfl (lv_room (Nat.le_of_ble_eq_true rfl)) dX2_write_23 ⟨Nat.le_of_ble_eq_true rfl, Nat.le_of_ble_eq_true rfl⟩) (fun ks hks => ?_)
      subst hks
      have hn39 := ln_sc hP
      have hn39u := va_P.app hn39 (ln_p hP (sk x b) b (by omega) (by omega))
      refine va_callv (va_runV (As := [.ref (ad (6 * b + 2 * sk x b + 10))]) (rest := []) ⟨hx, hb, hml, hown, hts⟩ (c_setTo l D cI (lm + 1) (ad 8) (ad 9) (x 1) (by omega) (ln_oa (i := 8) hok (by omega)) hx1 (ad (6 * b + 2 * sk x b + 10)) (ad (6 * b + 2 * sk x b + 11)) (N (sk x b) b) (ln_ne (i := 8) hok (by omega) (by omega) (by omega) (by omega)) (ln_ne (i := 8) hok (by omega) (by omega) (by omega) (by omega)) (hNk _ _)) (cwV 1 hts gX2_write_X1_setTo rfl rfl rfl (by decide +kernel) ⟨Nat.le_of_ble_eq_true rfl, Nat.le_of_ble_eq_true rfl⟩) ⟨nPc_blind, va_recv hK hn39 (ci := 1) (q0 := 0) rfl rfl, nPc_use (hn39u) (hK.sub [0] rfl)⟩ rfl rfl hl.1 rfl (lv_room (Nat.le_of_ble_eq_true rfl)) dX2_write_26 ⟨Nat.le_of_ble_eq_true rfl, Nat.le_of_ble_eq_true rfl⟩) hS (fun q _ h => (fun q h => lA_n (i := 8) (by omega) h) q h) (fun q h => lA_n (i := 8) (by omega) h) (fun _u t H1 locs ht hvm hw hB hz1 hk9 hS => ?_)
      have hP9 := lk_sc hok hP hk9 (pB_at ht hB)
      generalize H1 = H at ht hz1 hk9 hS hP9 ⊢
      have hP : va_P D vwCl (lW ad cI cB cO acc lm rm N (va_up x 1 (sv N x b)) z ob) H := hP9
      have hD : va_D (lA ad acc) (lW ad cI cB cO acc lm rm N (va_up x 1 (sv N x b)) z ob) := wlD hok
      refine lv_iconst (v := 0) hx hb dX2_write_29 (by decide) ?_
      refine lv_istore_n (lv' := [(2, .int ((0 : Int32))), (0, .ref (ad 0)), (1, .int (nI b))]) hx hb dX2_write_30 rfl hl (by decide) rfl (fun ls hl => ?_)
      generalize hvv : sv N x b = v at hP hvb hvw
      have loop : ∀ (n i : Nat) (H : Heap) (locs : List Loc) (ls : Array Slot), i + n = lm * 10 → (∀ j, 1 ≤ j → j < i → v / 10 ^ j ≠ 0) → va_P D vwCl (lW ad cI cB cO acc lm rm N (va_up x 1 (v / 10 ^ i)) z (fl (dgI v) ob i)) H → va_S (lA ad acc) s.heap H locs → lv_has ls 3 [(2, .int (nI i)), (0, .ref (ad 0)), (1, .int (nI b))] → W p l e (headSpec wsX2_write ({ frames := 2, cells := 0, slots := 0, locals := 46 })).room s m ([.ref (ad 0), .int (nI b)]).toArray below meth c H locs 0 0 (MQ below (va_Qi (fun (r : Int32) (u : WS) => cWr acc lm (nI b) N x z ob r u) (fun u t => va_P D vwCl (lW ad cI cB cO acc lm rm N u.1 u.2.1 u.2.2) t.heap) (lA ad acc)) ([.ref (ad 0), .int (nI b)]).toArray s 0 0 (lA ad acc)) (F0 m 31 ls []) := by
        intro n
        induction n with
        | zero =>
          intro i H locs ls hin hpr hP hS hl
          have hD : va_D (lA ad acc) (lW ad cI cB cO acc lm rm N (va_up x 1 (v / 10 ^ i)) z (fl (dgI v) ob i)) := wlD hok
          have hii : 1 ≤ i := by omega
          have hv0 : v / 10 ^ i = 0 := by rw [show i = lm * 10 by omega]; exact dec_bound hvb
          refine lv_iload_n hx hb dX2_write_31 rfl (lv_at hl 0 rfl) ?_
          refine lv_aload_n hx hb dX2_write_32 rfl (lv_at hl 1 rfl) ?_
          refine va_get (D := D) (ci := 2) (v := .ref (ad 5)) (C := RX2) (T := TX2) (N := 11) hx hb hts hi2 hown hK hP 0 (wl_at (by omega)) rfl 9 (by decide) (hts (.fieldLink RX2 52 "BigLedger" "outBackwards" "[B") (by decide +kernel)) (fun _ h9 => h9) rfl dX2_write_33 ?_
          refine va_alen (v := nI (lm * 10)) hx hb hK hP 5 1 (wl_at (by omega)) rfl (rfl) dX2_write_36 ?_
          refine lv_icmp_ge (tgt := 79) hx hb dX2_write_37 (by decide) (fun _ => ?_) (fun c9 => absurd (nI_le (by omega) (by omega)) c9)
          have hnd : isNd v i := ⟨hii, hv0, hpr⟩
          refine lv_aload_n hx hb dX2_write_79 rfl (lv_at hl 1 rfl) ?_
          refine lv_iload_n hx hb dX2_write_80 rfl (lv_at hl 0 rfl) ?_
          refine va_put (D := D) (ci := 2) (v := .int (nI i)) (ty := .int) (C := RX2) (T := TX2) (N := 11) hx hb hts hi2 tyX2 tyX2_ok nmX2 hown hK hP hD hS 0 (wl_at (by omega)) rfl 10 (by decide) (hts (.fieldLink RX2 152 "BigLedger" "outLength" "I") (by decide +kernel)) (fun _ h9 => h9) rfl (by decide +kernel) (rfl) (rfl) (Nat.le_of_ble_eq_true rfl) dX2_write_81 (fun H locs hP hD hS => ?_)
          have hP : va_P D vwCl (lW ad cI cB cO acc lm rm N (va_up x 1 (v / 10 ^ i)) (va_up z 4 (nI i)) (fl (dgI v) ob i)) H := cv (ls_outLength (nI i)) hP
          have hD : va_D (lA ad acc) (lW ad cI cB cO acc lm rm N (va_up x 1 (v / 10 ^ i)) (va_up z 4 (nI i)) (fl (dgI v) ob i)) := wlD hok
          refine lv_aload_n hx hb dX2_write_84 rfl (lv_at hl 1 rfl) ?_
          refine va_get (D := D) (ci := 2) (v := .int ((va_up z 4 (nI i)) 4)) (C := RX2) (T := TX2) (N := 11) hx hb hts hi2 hown hK hP 0 (wl_at (by omega)) rfl 10 (by decide) (hts (.fieldLink RX2 152 "BigLedger" "outLength" "I") (by decide +kernel)) (fun _ h9 => h9) rfl dX2_write_85 ?_
          refine lv_topi (fun y40 ey40 => ?_)
          replace ey40 : y40 = nI i := ey40.trans (va_up_self _ _ _)
          subst ey40
          exact W.iret (v := nI i) hx hb hr (fun t ht hW => ⟨⟨_, (va_up x 1 (v / 10 ^ i), va_up z 4 (nI i), fl (dgI v) ob i), rfl, cWr_yes c0 ha eb hvv hnd (by omega), hp_at ht hP⟩, hS.F ht⟩) hS.2.2 dX2_write_88
        | succ n ih =>
          intro i H locs ls hin hpr hP hS hl
          have hD : va_D (lA ad acc) (lW ad cI cB cO acc lm rm N (va_up x 1 (v / 10 ^ i)) z (fl (dgI v) ob i)) := wlD hok
          have hvi : v / 10 ^ i < 2147483648 ^ (lm + 1) := Nat.lt_of_le_of_lt (Nat.div_le_self _ _) hvw
          refine lv_iload_n hx hb dX2_write_31 rfl (lv_at hl 0 rfl) ?_
          refine lv_aload_n hx hb dX2_write_32 rfl (lv_at hl 1 rfl) ?_
          refine va_get (D := D) (ci := 2) (v := .ref (ad 5)) (C := RX2) (T := TX2) (N := 11) hx hb hts hi2 hown hK hP 0 (wl_at (by omega)) rfl 9 (by decide) (hts (.fieldLink RX2 52 "BigLedger" "outBackwards" "[B") (by decide +kernel)) (fun _ h9 => h9) rfl dX2_write_33 ?_
          refine va_alen (v := nI (lm * 10)) hx hb hK hP 5 1 (wl_at (by omega)) rfl (rfl) dX2_write_36 ?_
          refine lv_icmp_ge (tgt := 79) hx hb dX2_write_37 (by decide) (fun c9 => absurd c9 (nI_ge (by omega) (by omega))) (fun _ => ?_)
          refine lv_iload_n hx hb dX2_write_40 rfl (lv_at hl 0 rfl) ?_
          refine lv_if_eq (tgt := 54) hx hb dX2_write_41 (by decide) (fun c2 => ?_) (fun c2 => ?_)
          · have hi0 : i = 0 := (nI_eq0 (by omega)).mp c2
            have hpr2 : ∀ j, 1 ≤ j → j < i + 1 → v / 10 ^ j ≠ 0 := fun j h1 h2 => absurd h2 (by omega)
            have hD : va_D (lA ad acc) (lW ad cI cB cO acc lm rm N (va_up x 1 (v / 10 ^ i)) z (fl (dgI v) ob i)) := wlD hok
            have hvi : v / 10 ^ i < 2147483648 ^ (lm + 1) := Nat.lt_of_le_of_lt (Nat.div_le_self _ _) hvw
            refine lv_aload_n hx hb dX2_write_54 rfl (lv_at hl 1 rfl) ?_
            refine va_get (D := D) (ci := 2) (v := .ref (ad 5)) (C := RX2) (T := TX2) (N := 11) hx hb hts hi2 hown hK hP 0 (wl_at (by omega)) rfl 9 (by decide) (hts (.fieldLink RX2 52 "BigLedger" "outBackwards" "[B") (by decide +kernel)) (fun _ h9 => h9) rfl dX2_write_55 ?_
            refine lv_iload_n hx hb dX2_write_58 rfl (lv_at hl 0 rfl) ?_
            refine lv_bipush (v := 48) hx hb dX2_write_59 (by decide) ?_
            refine lv_aload_n hx hb dX2_write_61 rfl (lv_at hl 1 rfl) ?_
            refine va_get (D := D) (ci := 2) (v := .ref (ad 8)) (C := RX2) (T := TX2) (N := 11) hx hb hts hi2 hown hK hP 0 (wl_at (by omega)) rfl 8 (by decide) (hts (.fieldLink RX2 49 "BigLedger" "scratch" "LBigLedger$Natural;") (by decide +kernel)) (fun _ h9 => h9) rfl dX2_write_62 ?_
            refine lv_bipush (v := 10) hx hb dX2_write_65 (by decide) ?_
            have hn41 := ln_sc hP
            refine va_calli (va_runV (As := [.int ((10 : Int32))]) (rest := [.int ((48 : Int32)), .int (nI i), .ref (ad 5)]) ⟨hx, hb, hml, hown, hts⟩ (c_divide l D cI (lm + 1) (ad 8) (ad 9) (v / 10 ^ i) (by omega) (ln_oa (i := 8) hok (by omega)) hvi 10 (by decide) (by decide)) (cwV 1 hts gX2_write_X1_divide rfl rfl rfl (by decide +kernel) ⟨Nat.le_of_ble_eq_true rfl, Nat.le_of_ble_eq_true rfl⟩) ⟨nPc_blind, va_recv hK hn41 (ci := 1) (q0 := 0) rfl rfl, nPc_use (hn41) (hK.sub [0] rfl)⟩ rfl rfl hl.1 rfl (lv_room (Nat.le_of_ble_eq_true rfl)) dX2_write_67 ⟨Nat.le_of_ble_eq_true rfl, Nat.le_of_ble_eq_true rfl⟩) hS (fun q _ h => (fun q h => lA_n (i := 8) (by omega) h) q h) (fun q h => lA_n (i := 8) (by omega) h) (fun r _u t H1 locs ht hvm hw hB hz1 hk9 hS => ?_)
            have hP9 := cv (by rw [bx_uu, dec_step]) (lk_sc hok hP hk9 (pB_at ht hB))
            generalize H1 = H at ht hz1 hk9 hS hP9 ⊢
            have hP : va_P D vwCl (lW ad cI cB cO acc lm rm N (va_up x 1 (v / 10 ^ (i + 1))) z (fl (dgI v) ob i)) H := hP9
            have hD : va_D (lA ad acc) (lW ad cI cB cO acc lm rm N (va_up x 1 (v / 10 ^ (i + 1))) z (fl (dgI v) ob i)) := wlD hok
            refine lv_iadd hx hb dX2_write_70 ?_
            refine lv_topi (fun y42 ey42 => ?_)
            replace ey42 : y42 = nI (48 + v / 10 ^ i % 10) := ey42.trans (by rw [hw]; exact nI_add 48 _)
            subst ey42
            refine lv_i2b (v := nI (48 + v / 10 ^ i % 10)) hx hb dX2_write_71 (dg_byte v i) ?_
            refine va_bast hx hb hK hP hD hS 5 1 (wl_at (by omega)) rfl (vp_in_nI (by omega) (by omega)) dX2_write_72 (fun H locs hP hD hS => ?_)
            rw [show upd (fl (dgI v) ob i) (nI i).toNatClampNeg (vp_nar .byte (nI (48 + v / 10 ^ i % 10))) = fl (dgI v) ob (i + 1) from by rw [nI_clamp (by omega), dg_nar]; exact fl_s rfl] at hP
            have hP : va_P D vwCl (lW ad cI cB cO acc lm rm N (va_up x 1 (v / 10 ^ (i + 1))) z (fl (dgI v) ob (i + 1))) H := cv (ls_out (fl (dgI v) ob (i + 1))) hP
            have hD : va_D (lA ad acc) (lW ad cI cB cO acc lm rm N (va_up x 1 (v / 10 ^ (i + 1))) z (fl (dgI v) ob (i + 1))) := wlD hok
            refine lv_iinc (v := nI (i + 1)) (lv' := [(2, .int (nI (i + 1))), (0, .ref (ad 0)), (1, .int (nI b))]) hx hb dX2_write_73 hl (k := 0) rfl (nI_1 i) (by decide) rfl (fun ls hl => ?_)
            refine lv_goto (tgt := 31) hx hb dX2_write_76 (by decide) ?_
            exact ih (i + 1) H locs ls (by omega) hpr2 hP hS hl
          · have hii : 1 ≤ i := Nat.pos_of_ne_zero (fun q => c2 ((nI_eq0 (by omega)).mpr q))
            refine lv_aload_n hx hb dX2_write_44 rfl (lv_at hl 1 rfl) ?_
            refine va_get (D := D) (ci := 2) (v := .ref (ad 8)) (C := RX2) (T := TX2) (N := 11) hx hb hts hi2 hown hK hP 0 (wl_at (by omega)) rfl 8 (by decide) (hts (.fieldLink RX2 49 "BigLedger" "scratch" "LBigLedger$Natural;") (by decide +kernel)) (fun _ h9 => h9) rfl dX2_write_45 ?_
            refine va_getN (D := D) (ci := 1) (host := RX2) (v := .int (nI (szF ((va_up x 1 (v / 10 ^ i)) 1) (lm + 1)))) (C := RX1) (T := TX1) (N := 2) hx hb hts hi1 hown hK hP 8 (wl_at (by omega)) rfl 1 (by decide) (va_Nw.use rfl (hN.2.2.2.2.1)) (fun _ h9 => h9) rfl dX2_write_48 ?_
            refine lv_topi (fun y43 ey43 => ?_)
            replace ey43 : y43 = nI (szF (v / 10 ^ i) (lm + 1)) := ey43.trans (rfl)
            subst ey43
            refine lv_if_le (tgt := 79) hx hb dX2_write_51 (by decide) (fun c3 => ?_) (fun c3 => ?_)
            · have hv0 : v / 10 ^ i = 0 := (szF_pos hvi (by omega)).mp c3
              have hnd : isNd v i := ⟨hii, hv0, hpr⟩
              refine lv_aload_n hx hb dX2_write_79 rfl (lv_at hl 1 rfl) ?_
              refine lv_iload_n hx hb dX2_write_80 rfl (lv_at hl 0 rfl) ?_
              refine va_put (D := D) (ci := 2) (v := .int (nI i)) (ty := .int) (C := RX2) (T := TX2) (N := 11) hx hb hts hi2 tyX2 tyX2_ok nmX2 hown hK hP hD hS 0 (wl_at (by omega)) rfl 10 (by decide) (hts (.fieldLink RX2 152 "BigLedger" "outLength" "I") (by decide +kernel)) (fun _ h9 => h9) rfl (by decide +kernel) (rfl) (rfl) (Nat.le_of_ble_eq_true rfl) dX2_write_81 (fun H locs hP hD hS => ?_)
              have hP : va_P D vwCl (lW ad cI cB cO acc lm rm N (va_up x 1 (v / 10 ^ i)) (va_up z 4 (nI i)) (fl (dgI v) ob i)) H := cv (ls_outLength (nI i)) hP
              have hD : va_D (lA ad acc) (lW ad cI cB cO acc lm rm N (va_up x 1 (v / 10 ^ i)) (va_up z 4 (nI i)) (fl (dgI v) ob i)) := wlD hok
              refine lv_aload_n hx hb dX2_write_84 rfl (lv_at hl 1 rfl) ?_
              refine va_get (D := D) (ci := 2) (v := .int ((va_up z 4 (nI i)) 4)) (C := RX2) (T := TX2) (N := 11) hx hb hts hi2 hown hK hP 0 (wl_at (by omega)) rfl 10 (by decide) (hts (.fieldLink RX2 152 "BigLedger" "outLength" "I") (by decide +kernel)) (fun _ h9 => h9) rfl dX2_write_85 ?_
              refine lv_topi (fun y44 ey44 => ?_)
              replace ey44 : y44 = nI i := ey44.trans (va_up_self _ _ _)
              subst ey44
              exact W.iret (v := nI i) hx hb hr (fun t ht hW => ⟨⟨_, (va_up x 1 (v / 10 ^ i), va_up z 4 (nI i), fl (dgI v) ob i), rfl, cWr_yes c0 ha eb hvv hnd (by omega), hp_at ht hP⟩, hS.F ht⟩) hS.2.2 dX2_write_88
            · have hpr2 : ∀ j, 1 ≤ j → j < i + 1 → v / 10 ^ j ≠ 0 := fun j h1 h2 => by
                rcases Nat.lt_or_ge j i with q | q
                · exact hpr j h1 q
                · rw [show j = i by omega]; exact fun q2 => c3 ((szF_pos hvi (by omega)).mpr q2)
              have hD : va_D (lA ad acc) (lW ad cI cB cO acc lm rm N (va_up x 1 (v / 10 ^ i)) z (fl (dgI v) ob i)) := wlD hok
              have hvi : v / 10 ^ i < 2147483648 ^ (lm + 1) := Nat.lt_of_le_of_lt (Nat.div_le_self _ _) hvw
              refine lv_aload_n hx hb dX2_write_54 rfl (lv_at hl 1 rfl) ?_
              refine va_get (D := D) (ci := 2) (v := .ref (ad 5)) (C := RX2) (T := TX2) (N := 11) hx hb hts hi2 hown hK hP 0 (wl_at (by omega)) rfl 9 (by decide) (hts (.fieldLink RX2 52 "BigLedger" "outBackwards" "[B") (by decide +kernel)) (fun _ h9 => h9) rfl dX2_write_55 ?_
              refine lv_iload_n hx hb dX2_write_58 rfl (lv_at hl 0 rfl) ?_
              refine lv_bipush (v := 48) hx hb dX2_write_59 (by decide) ?_
              refine lv_aload_n hx hb dX2_write_61 rfl (lv_at hl 1 rfl) ?_
              refine va_get (D := D) (ci := 2) (v := .ref (ad 8)) (C := RX2) (T := TX2) (N := 11) hx hb hts hi2 hown hK hP 0 (wl_at (by omega)) rfl 8 (by decide) (hts (.fieldLink RX2 49 "BigLedger" "scratch" "LBigLedger$Natural;") (by decide +kernel)) (fun _ h9 => h9) rfl dX2_write_62 ?_
              refine lv_bipush (v := 10) hx hb dX2_write_65 (by decide) ?_
              have hn45 := ln_sc hP
              refine va_calli (va_runV (As := [.int ((10 : Int32))]) (rest := [.int ((48 : Int32)), .int (nI i), .ref (ad 5)]) ⟨hx, hb, hml, hown, hts⟩ (c_divide l D cI (lm + 1) (ad 8) (ad 9) (v / 10 ^ i) (by omega) (ln_oa (i := 8) hok (by omega)) hvi 10 (by decide) (by decide)) (cwV 1 hts gX2_write_X1_divide rfl rfl rfl (by decide +kernel) ⟨Nat.le_of_ble_eq_true rfl, Nat.le_of_ble_eq_true rfl⟩) ⟨nPc_blind, va_recv hK hn45 (ci := 1) (q0 := 0) rfl rfl, nPc_use (hn45) (hK.sub [0] rfl)⟩ rfl rfl hl.1 rfl (lv_room (Nat.le_of_ble_eq_true rfl)) dX2_write_67 ⟨Nat.le_of_ble_eq_true rfl, Nat.le_of_ble_eq_true rfl⟩) hS (fun q _ h => (fun q h => lA_n (i := 8) (by omega) h) q h) (fun q h => lA_n (i := 8) (by omega) h) (fun r _u t H1 locs ht hvm hw hB hz1 hk9 hS => ?_)
              have hP9 := cv (by rw [bx_uu, dec_step]) (lk_sc hok hP hk9 (pB_at ht hB))
              generalize H1 = H at ht hz1 hk9 hS hP9 ⊢
              have hP : va_P D vwCl (lW ad cI cB cO acc lm rm N (va_up x 1 (v / 10 ^ (i + 1))) z (fl (dgI v) ob i)) H := hP9
              have hD : va_D (lA ad acc) (lW ad cI cB cO acc lm rm N (va_up x 1 (v / 10 ^ (i + 1))) z (fl (dgI v) ob i)) := wlD hok
              refine lv_iadd hx hb dX2_write_70 ?_
              refine lv_topi (fun y46 ey46 => ?_)
              replace ey46 : y46 = nI (48 + v / 10 ^ i % 10) := ey46.trans (by rw [hw]; exact nI_add 48 _)
              subst ey46
              refine lv_i2b (v := nI (48 + v / 10 ^ i % 10)) hx hb dX2_write_71 (dg_byte v i) ?_
              refine va_bast hx hb hK hP hD hS 5 1 (wl_at (by omega)) rfl (vp_in_nI (by omega) (by omega)) dX2_write_72 (fun H locs hP hD hS => ?_)
              rw [show upd (fl (dgI v) ob i) (nI i).toNatClampNeg (vp_nar .byte (nI (48 + v / 10 ^ i % 10))) = fl (dgI v) ob (i + 1) from by rw [nI_clamp (by omega), dg_nar]; exact fl_s rfl] at hP
              have hP : va_P D vwCl (lW ad cI cB cO acc lm rm N (va_up x 1 (v / 10 ^ (i + 1))) z (fl (dgI v) ob (i + 1))) H := cv (ls_out (fl (dgI v) ob (i + 1))) hP
              have hD : va_D (lA ad acc) (lW ad cI cB cO acc lm rm N (va_up x 1 (v / 10 ^ (i + 1))) z (fl (dgI v) ob (i + 1))) := wlD hok
              refine lv_iinc (v := nI (i + 1)) (lv' := [(2, .int (nI (i + 1))), (0, .ref (ad 0)), (1, .int (nI b))]) hx hb dX2_write_73 hl (k := 0) rfl (nI_1 i) (by decide) rfl (fun ls hl => ?_)
              refine lv_goto (tgt := 31) hx hb dX2_write_76 (by decide) ?_
              exact ih (i + 1) H locs ls (by omega) hpr2 hP hS hl
      exact loop (lm * 10) 0 H locs ls (by omega) (fun j h1 h2 => absurd h2 (by omega)) (by rw [fl_0, Nat.pow_zero, Nat.div_one]; exact hP) hS (lv_sub hl [0, 1, 2] rfl)
    · have han : ¬ isAcc acc p0 = true := fun q => absurd c1 (by rw [hra, if_pos q]; decide)
      refine lv_iconst (v := (-1)) hx hb dX2_write_15 (by decide) ?_
      exact W.iret (v := -1) hx hb hr (fun t ht hW => ⟨⟨_, (x, z, ob), rfl, cWr_no (Or.inr han), hp_at ht hP⟩, hS.F ht⟩) hS.2.2 dX2_write_16
end
section
/-! the reference's world: its object at g 0, its rows at g 1 .. g 8 (now, home, log, amount, work, touched, logged, out); y: 0 thrown, 1 up, 2 formatted, 3 committed, 4 writes, 5 left, 6 outMany -/
def mLen (k : Nat) : Nat := if k < 4 then 550 else if k = 4 then 22 else if k = 5 then 44 else if k < 8 then 25 else 300
def mCel (g : Nat → Nat) (cI cZ cB : ClassId) (acc lm rm : Nat) (F : Nat → Nat → Int32) (y : Nat → Int32) : Nat → va_E
  | 0 => .inr (3, [.int (y 0), .int (nI acc), .int (nI lm), .int (nI rm), .ref (g 1), .ref (g 2), .ref (g 3), .ref (g 4), .ref (g 5), .ref (g 6), .ref (g 7), .int (y 1), .int (y 2), .int (y 3), .int (y 4), .int (y 5), .ref (g 8), .int (y 6)])
  | 1 => .inl (cI, 550, .inl (F 1))
  | 2 => .inl (cI, 550, .inl (F 2))
  | 3 => .inl (cI, 550, .inl (F 3))
  | 4 => .inl (cI, 22, .inl (F 4))
  | 5 => .inl (cI, 44, .inl (F 5))
  | 6 => .inl (cZ, 25, .inl (F 6))
  | 7 => .inl (cZ, 25, .inl (F 7))
  | _ => .inl (cB, 300, .inl (F 8))
abbrev rW (g : Nat → Nat) (cI cZ cB : ClassId) (acc lm rm : Nat) (F : Nat → Nat → Int32) (y : Nat → Int32) : va_W := wl g (mCel g cI cZ cB acc lm rm F y) 9
def mOk (g : Nat → Nat) : Prop := ∀ i j, i < 9 → j < 9 → g i = g j → i = j
def mA (g : Nat → Nat) : Nat → Prop := fun q => ∃ i, i < 9 ∧ q = g i
theorem mlD {g : Nat → Nat} {cel : Nat → va_E} (hok : mOk g) : va_D (mA g) (wl g cel 9) := by
  refine ⟨fun i j p q hi hj hpq => ?_, fun k q hk => ?_⟩
  · obtain ⟨h1, rfl⟩ := wl_lt hi
    obtain ⟨h2, rfl⟩ := wl_lt hj
    exact hok i j h1 h2 hpq
  · obtain ⟨h1, rfl⟩ := wl_lt hk
    exact ⟨k, h1, rfl⟩
def rowF (nm : Nat → Nat) : Nat → Int32 := fun j => lb (nm (j / 22)) (j % 22)
def tb (t : Nat → Bool) : Nat → Int32 := fun a => if t a = true then 1 else 0
abbrev BN : Type := Nat → Nat → Bool
def mF (N : LN) (am : Nat) (T : BN) (wk ou : Nat → Int32) : Nat → Nat → Int32
  | 1 => rowF (N 0)
  | 2 => rowF (N 1)
  | 3 => rowF (N 2)
  | 4 => lb am
  | 5 => wk
  | 6 => tb (T 0)
  | 7 => tb (T 1)
  | _ => ou
section MW
variable {g : Nat → Nat} {cI cZ cB : ClassId} {acc lm rm : Nat} {F : Nat → Nat → Int32} {y : Nat → Int32}
theorem mset {i : Nat} {e : va_E} {F' : Nat → Nat → Int32} {y' : Nat → Int32} (hi : i < 9) (h : ∀ j, j < 9 → va_up (mCel g cI cZ cB acc lm rm F y) i e j = mCel g cI cZ cB acc lm rm F' y' j) : (rW g cI cZ cB acc lm rm F y).set i (g i, e) = rW g cI cZ cB acc lm rm F' y' := by
  rw [wl_set e hi]
  unfold wl
  exact List.map_congr_left (fun j hj => by rw [h j (List.mem_range.mp hj)])
theorem ms_f (k : Nat) (t : Int32) (hk : k < 7) : (rW g cI cZ cB acc lm rm F y).set 0 (g 0, mCel g cI cZ cB acc lm rm F (va_up y k t) 0) = rW g cI cZ cB acc lm rm F (va_up y k t) := by
  refine mset (by omega) (fun j hj => ?_)
  match j with
  | 0 => rw [va_up_self]
  | 1 | 2 | 3 | 4 | 5 | 6 | 7 => rfl
  | j + 8 => rfl
theorem ms_a1 (f : Nat → Int32) : (rW g cI cZ cB acc lm rm F y).set 1 (g 1, .inl (cI, 550, .inl f)) = rW g cI cZ cB acc lm rm (va_up F 1 f) y := by
  refine mset (by omega) (fun j hj => ?_)
  match j with
  | 0 | 1 | 2 | 3 | 4 | 5 | 6 | 7 => rfl
  | j + 8 => rfl
theorem ms_a2 (f : Nat → Int32) : (rW g cI cZ cB acc lm rm F y).set 2 (g 2, .inl (cI, 550, .inl f)) = rW g cI cZ cB acc lm rm (va_up F 2 f) y := by
  refine mset (by omega) (fun j hj => ?_)
  match j with
  | 0 | 1 | 2 | 3 | 4 | 5 | 6 | 7 => rfl
  | j + 8 => rfl
theorem ms_a3 (f : Nat → Int32) : (rW g cI cZ cB acc lm rm F y).set 3 (g 3, .inl (cI, 550, .inl f)) = rW g cI cZ cB acc lm rm (va_up F 3 f) y := by
  refine mset (by omega) (fun j hj => ?_)
  match j with
  | 0 | 1 | 2 | 3 | 4 | 5 | 6 | 7 => rfl
  | j + 8 => rfl
theorem ms_a4 (f : Nat → Int32) : (rW g cI cZ cB acc lm rm F y).set 4 (g 4, .inl (cI, 22, .inl f)) = rW g cI cZ cB acc lm rm (va_up F 4 f) y := by
  refine mset (by omega) (fun j hj => ?_)
  match j with
  | 0 | 1 | 2 | 3 | 4 | 5 | 6 | 7 => rfl
  | j + 8 => rfl
theorem ms_a5 (f : Nat → Int32) : (rW g cI cZ cB acc lm rm F y).set 5 (g 5, .inl (cI, 44, .inl f)) = rW g cI cZ cB acc lm rm (va_up F 5 f) y := by
  refine mset (by omega) (fun j hj => ?_)
  match j with
  | 0 | 1 | 2 | 3 | 4 | 5 | 6 | 7 => rfl
  | j + 8 => rfl
theorem ms_a6 (f : Nat → Int32) : (rW g cI cZ cB acc lm rm F y).set 6 (g 6, .inl (cZ, 25, .inl f)) = rW g cI cZ cB acc lm rm (va_up F 6 f) y := by
  refine mset (by omega) (fun j hj => ?_)
  match j with
  | 0 | 1 | 2 | 3 | 4 | 5 | 6 | 7 => rfl
  | j + 8 => rfl
theorem ms_a7 (f : Nat → Int32) : (rW g cI cZ cB acc lm rm F y).set 7 (g 7, .inl (cZ, 25, .inl f)) = rW g cI cZ cB acc lm rm (va_up F 7 f) y := by
  refine mset (by omega) (fun j hj => ?_)
  match j with
  | 0 | 1 | 2 | 3 | 4 | 5 | 6 | 7 => rfl
  | j + 8 => rfl
theorem ms_a8 (f : Nat → Int32) : (rW g cI cZ cB acc lm rm F y).set 8 (g 8, .inl (cB, 300, .inl f)) = rW g cI cZ cB acc lm rm (va_up F 8 f) y := by
  refine mset (by omega) (fun j hj => ?_)
  match j with
  | 0 | 1 | 2 | 3 | 4 | 5 | 6 | 7 => rfl
  | 8 => rfl
  | j + 9 => omega
/-- rows that agree as far as they reach -/
theorem rW_congr {D : va_G} {H : Heap} {F' : Nat → Nat → Int32} (hP : va_P D vwCl (rW g cI cZ cB acc lm rm F y) H) (h : ∀ k, 1 ≤ k → k ≤ 8 → ∀ j, j < mLen k → F k j = F' k j) : va_P D vwCl (rW g cI cZ cB acc lm rm F' y) H := by
  intro k q hk
  obtain ⟨h9, rfl⟩ := wl_lt hk
  have hq := hP k _ (wl_at h9)
  match k, h9, hq with
  | 0, _, hq => exact hq
  | 1, _, hq => exact at_congr hq (h 1 (by decide) (by decide))
  | 2, _, hq => exact at_congr hq (h 2 (by decide) (by decide))
  | 3, _, hq => exact at_congr hq (h 3 (by decide) (by decide))
  | 4, _, hq => exact at_congr hq (h 4 (by decide) (by decide))
  | 5, _, hq => exact at_congr hq (h 5 (by decide) (by decide))
  | 6, _, hq => exact at_congr hq (h 6 (by decide) (by decide))
  | 7, _, hq => exact at_congr hq (h 7 (by decide) (by decide))
  | 8, _, hq => exact at_congr hq (h 8 (by decide) (by decide))
  | k + 9, h9, _ => omega
end MW
abbrev mT (cI cZ cB : ClassId) : List (ClassId × FieldType) := [(cI, .int), (cZ, .boolean), (cB, .byte)]
/-! one number's limbs in a row of numbers -/
def pr (nm : Nat → Nat) (a v k : Nat) : Nat → Int32 := fun j => if 22 * a ≤ j ∧ j < 22 * a + k then lb v (j - 22 * a) else rowF nm j
theorem pr_0 (nm : Nat → Nat) (a v : Nat) : pr nm a v 0 = rowF nm := by
  funext j
  unfold pr
  rw [if_neg (by omega)]
theorem pr_s {nm : Nat → Nat} {a v k : Nat} {x : Int32} (h : x = lb v k) : upd (pr nm a v k) (22 * a + k) x = pr nm a v (k + 1) := by
  subst h
  funext j
  unfold upd pr
  by_cases h1 : j = 22 * a + k
  · subst h1
    rw [if_pos rfl, if_pos (by omega), show 22 * a + k - 22 * a = k by omega]
  · rw [if_neg h1]
    by_cases h2 : 22 * a ≤ j ∧ j < 22 * a + k
    · rw [if_pos h2, if_pos (by omega)]
    · rw [if_neg h2, if_neg (by omega)]
theorem pr_end (nm : Nat → Nat) (a v : Nat) : pr nm a v 22 = rowF (va_up nm a v) := by
  funext j
  unfold pr rowF
  by_cases h2 : 22 * a ≤ j ∧ j < 22 * a + 22
  · rw [if_pos h2, show j / 22 = a by omega, show j % 22 = j - 22 * a by omega, va_up_self]
  · rw [if_neg h2, va_up_ne _ _ (by omega)]
theorem pr_hi {nm : Nat → Nat} {a v k : Nat} (hk : k < 22) : pr nm a v k (22 * a + k) = lb (nm a) k := by
  unfold pr rowF
  rw [if_neg (by omega), show (22 * a + k) / 22 = a by omega, show (22 * a + k) % 22 = k by omega]
theorem rowF_at (nm : Nat → Nat) {a k : Nat} (hk : k < 22) : rowF nm (22 * a + k) = lb (nm a) k := by
  unfold rowF
  rw [show (22 * a + k) / 22 = a by omega, show (22 * a + k) % 22 = k by omega]
theorem tb_up (t : Nat → Bool) (a : Nat) (b : Bool) {v : Int32} (hv : v = if b = true then 1 else 0) : upd (tb t) a v = tb (va_up t a b) := by
  subst hv
  funext j
  unfold upd tb
  by_cases h1 : j = a
  · subst h1; rw [if_pos rfl, va_up_self]
  · rw [if_neg h1, va_up_ne _ _ h1]
theorem tb_ne0 {t : Nat → Bool} {a : Nat} : ¬ tb t a = 0 ↔ t a = true := by
  unfold tb
  cases t a <;> decide
theorem tb_eq0 {t : Nat → Bool} {a : Nat} : tb t a = 0 ↔ ¬ t a = true := by
  unfold tb
  cases t a <;> decide
/-! what the reference does, on plain states -/
abbrev MS : Type := LN × Nat × BN × (Nat → Int32)
def mForget (S : MS) : MS := (va_up S.1 0 (S.1 1), 0, va_up S.2.2.1 0 (fun _ => false), S.2.2.2)
def mDown (S : MS) : MS := mForget (S.1, S.2.1, S.2.2.1, va_up S.2.2.2 1 0)
def mZ (y : Nat → Int32) : Nat → Int32 := if y 5 ≤ 0 then va_up y 4 (y 4 + 1) else va_up (va_up y 5 (y 5 - 1)) 4 (y 4 + 1)
def mWr (S : MS) : Int32 × MS := if S.2.2.2 5 = 0 then (0, mDown (S.1, S.2.1, S.2.2.1, va_up S.2.2.2 5 (-1))) else (1, S.1, S.2.1, S.2.2.1, mZ S.2.2.2)
def setY (S : MS) (k : Nat) (v : Int32) : MS := (S.1, S.2.1, S.2.2.1, va_up S.2.2.2 k v)
def mEmp (S : MS) : Int32 × MS := if (mWr S).1 = 0 then (0, (mWr S).2) else (1, setY (mWr S).2 3 0)
def cpN (S : MS) (k1 k2 a : Nat) : MS := (va_up S.1 k1 (va_up (S.1 k1) a (S.1 k2 a)), S.2.1, S.2.2.1, S.2.2.2)
def gHl : Nat → Nat → MS → Int32 × MS
  | 0, _, S => (1, S)
  | n + 1, a, S => if S.2.2.1 1 a = true then (if (mWr S).1 = 0 then (0, (mWr S).2) else gHl n (a + 1) (cpN (mWr S).2 1 2 a)) else gHl n (a + 1) S
def mGo (S : MS) : Int32 × MS := if (gHl 25 0 S).1 = 0 then (0, (gHl 25 0 S).2) else mEmp (gHl 25 0 S).2
def zeN (S : MS) (a : Nat) : MS := (va_up S.1 1 (va_up (S.1 1) a 0), S.2.1, S.2.2.1, S.2.2.2)
def fLp (acc : Nat) : Nat → Nat → MS → Int32 × MS
  | 0, _, S => (1, S)
  | n + 1, a, S => if acc ≤ a ∧ a < 24 then fLp acc n (a + 1) S else if (mWr S).1 = 0 then (0, (mWr S).2) else fLp acc n (a + 1) (zeN (mWr S).2 a)
def andM (f h : MS → Int32 × MS) (S : MS) : Int32 × MS := if (f S).1 = 0 then (0, (f S).2) else h (f S).2
def mFormat (acc : Nat) (S : MS) : Int32 × MS := andM mWr (fun S => andM mEmp (andM (fLp acc 25 0) (andM mWr (fun S => (1, setY (mForget (setY S 2 1)) 1 1)))) (setY S 2 0)) (setY S 0 0)
def lgN (S : MS) (a : Nat) : MS := (va_up S.1 2 (va_up (S.1 2) a (S.1 0 a)), S.2.1, va_up S.2.2.1 1 (va_up (S.2.2.1 1) a true), S.2.2.2)
def cLp : Nat → Nat → MS → Int32 × MS
  | 0, _, S => (1, S)
  | n + 1, a, S => if S.2.2.1 0 a = true then (if (mWr S).1 = 0 then (0, (mWr S).2) else cLp n (a + 1) (lgN (mWr S).2 a)) else cLp n (a + 1) S
def setT (S : MS) (k : Nat) (t : Nat → Bool) : MS := (S.1, S.2.1, va_up S.2.2.1 k t, S.2.2.2)
def mCom1 (S : MS) : Int32 × MS := andM (cLp 25 0) (andM mWr (fun S => andM mGo (fun S => (1, setT S 0 (fun _ => false))) (setY S 3 1))) (setT S 1 (fun _ => false))
def mCommit (S : MS) : Int32 × MS := if S.2.2.2 1 = 0 then (6, setY S 0 0) else if fb_ct (S.2.2.1 0) 25 = 0 then (0, setY S 0 0) else if (mCom1 (setY S 0 0)).1 = 0 then (6, (mCom1 (setY S 0 0)).2) else (0, (mCom1 (setY S 0 0)).2)
def mRecover (S : MS) : Int32 × MS := if S.2.2.2 2 = 0 then (0, mDown (setY S 0 0)) else if S.2.2.2 3 = 0 then (1, setY (mForget (setY S 0 0)) 1 1) else andM mGo (fun S => (1, setY (mForget S) 1 1)) (setY S 0 0)
def mAbort (S : MS) : Int32 × MS := if S.2.2.2 1 = 0 then (0, setY S 0 0) else (1, va_up S.1 0 (S.1 1), S.2.1, va_up S.2.2.1 0 (fun _ => false), va_up S.2.2.2 0 0)
end
section
set_option maxHeartbeats 4000000 in
set_option maxRecDepth 100000 in
theorem m_forget (l : Launch) (D : va_G) (g : Nat → Nat) (cI cZ cB : ClassId) (acc lm rm : Nat) (N : LN) (am : Nat) (T : BN) (wk ou y : Nat → Int32) (hok : mOk g) (hacc : acc ≤ 24) : Met l yX3_forget wsX3_forget ({ frames := 0, cells := 0, slots := 0, locals := 0 }) (nPc [.ref (g 0)] D (rW g cI cZ cB acc lm rm (mF N am T wk ou) y) [(cI, .int), (cZ, .boolean), (cB, .byte)]) (va_Qv (fun _ : Unit => True) (fun _ t => va_P D vwCl (rW g cI cZ cB acc lm rm (mF (va_up N 0 (N 1)) 0 (va_up T 0 (fun _ => false)) wk ou) (y)) t.heap) (mA g)) 0 0 (mA g) := by
  refine Met.ofW (cc := cX3_forget) (maxL := 2) (ret := none) (by decide) rfl ?_
  intro p e s m args below meth c s₁ B hml hv
  obtain ⟨rfl, hP, hK⟩ := hv
  have hx := B.exec
  have hb := B.bytes
  have hr := B.returns
  have hts := atoms_spec (ws := wsX3_forget) B.pre
  have hown : s.vm.findClass RX3 = some m.cls := findClass_of_methodNamed B.named
  have hlocks := B.notSynchronized
  have hi3 : ∀ w ∈ wsX30, w ∈ wsX3_forget := by decide +kernel
  have hS : va_S (mA g) s.heap s.heap [] := va_S.rf
  have hD : va_D (mA g) (rW g cI cZ cB acc lm rm (mF N am T wk ou) y) := mlD hok
  have hl := lv_entry ([.ref (g 0)]) (n := 2) (Nat.le_of_ble_eq_true rfl)
  rw [lg_entry_eq]
  generalize (lg_sl ([.ref (g 0)]) ++ List.replicate (2 - (lg_sl ([.ref (g 0)])).length) Slot.unset).toArray = ls at hl ⊢
  have hl : lv_has ls 2 [(0, .ref (g 0))] := hl
  have lp3 : ∀ (n i : Nat) (H : Heap) (locs : List Loc) (ls : Array Slot), i + n = 550 → va_P D vwCl (rW g cI cZ cB acc lm rm (va_up (va_up (va_up (mF N am T wk ou) 4 (lb 0)) 6 (tb (fun _ => false))) 1 (fl (rowF (N 1)) (rowF (N 0)) i)) y) H → va_S (mA g) s.heap H locs → lv_has ls 2 [(1, .int (nI i)), (0, .ref (g 0))] → W p l e (headSpec wsX3_forget ({ frames := 0, cells := 0, slots := 0, locals := 0 })).room s m ([.ref (g 0)]).toArray below meth c H locs 0 0 (MQ below (va_Qv (fun _ : Unit => True) (fun _ t => va_P D vwCl (rW g cI cZ cB acc lm rm (mF (va_up N 0 (N 1)) 0 (va_up T 0 (fun _ => false)) wk ou) (y)) t.heap) (mA g)) ([.ref (g 0)]).toArray s 0 0 (mA g)) (F0 m 44 ls []) := by
    intro n
    induction n with
    | zero =>
      intro i H locs ls hin hP hS hl
      have hD : va_D (mA g) (rW g cI cZ cB acc lm rm (va_up (va_up (va_up (mF N am T wk ou) 4 (lb 0)) 6 (tb (fun _ => false))) 1 (fl (rowF (N 1)) (rowF (N 0)) i)) y) := mlD hok
      refine lv_iload_n hx hb dX3_forget_44 rfl (lv_at hl 0 rfl) ?_
      refine lv_sipush (v := 550) hx hb dX3_forget_45 (by decide) ?_
      refine lv_icmp_ge (tgt := 69) hx hb dX3_forget_48 (by decide) (fun _ => ?_) (fun c9 => absurd (nI_le (a := 550) (by omega) (by omega)) c9)
      have hP : va_P D vwCl (rW g cI cZ cB acc lm rm (mF (va_up N 0 (N 1)) 0 (va_up T 0 (fun _ => false)) wk ou) y) H := rW_congr hP (fun k h1 h2 j hj => by
        match k with
        | 1 => exact fl_lo (by have : j < 550 := hj; omega)
        | 2 | 3 | 4 | 5 | 6 | 7 => rfl
        | 8 => rfl
        | 0 => omega
        | k + 9 => omega)
      have hD : va_D (mA g) (rW g cI cZ cB acc lm rm (mF (va_up N 0 (N 1)) 0 (va_up T 0 (fun _ => false)) wk ou) y) := mlD hok
      exact W.vret hx hb hr (fun t ht hW => ⟨⟨(), rfl, trivial, hp_at ht hP⟩, hS.F ht⟩) hS.2.2 dX3_forget_69
    | succ n ihlp3 =>
      intro i H locs ls hin hP hS hl
      have hD : va_D (mA g) (rW g cI cZ cB acc lm rm (va_up (va_up (va_up (mF N am T wk ou) 4 (lb 0)) 6 (tb (fun _ => false))) 1 (fl (rowF (N 1)) (rowF (N 0)) i)) y) := mlD hok
      have hiw : i < 550 := by omega
      refine lv_iload_n hx hb dX3_forget_44 rfl (lv_at hl 0 rfl) ?_
      refine lv_sipush (v := 550) hx hb dX3_forget_45 (by decide) ?_
      refine lv_icmp_ge (tgt := 69) hx hb dX3_forget_48 (by decide) (fun c9 => absurd c9 (nI_ge (b := 550) hiw (by omega))) (fun _ => ?_)
      refine lv_aload_n hx hb dX3_forget_51 rfl (lv_at hl 1 rfl) ?_
      refine va_get (D := D) (ci := 3) (v := .ref (g 1)) (C := RX3) (T := TX3) (N := 18) hx hb hts hi3 hown hK hP 0 (wl_at (by omega)) rfl 4 (by decide) (hts (.fieldLink RX3 13 "BigLedgerModel" "now" "[I") (by decide +kernel)) (fun _ h9 => h9) rfl dX3_forget_52 ?_
      refine lv_iload_n hx hb dX3_forget_55 rfl (lv_at hl 0 rfl) ?_
      refine lv_aload_n hx hb dX3_forget_56 rfl (lv_at hl 1 rfl) ?_
      refine va_get (D := D) (ci := 3) (v := .ref (g 2)) (C := RX3) (T := TX3) (N := 18) hx hb hts hi3 hown hK hP 0 (wl_at (by omega)) rfl 5 (by decide) (hts (.fieldLink RX3 17 "BigLedgerModel" "home" "[I") (by decide +kernel)) (fun _ h9 => h9) rfl dX3_forget_57 ?_
      refine lv_iload_n hx hb dX3_forget_60 rfl (lv_at hl 0 rfl) ?_
      refine va_iald hx hb hK hP 2 0 (wl_at (by omega)) rfl (vp_in_nI (by omega) (by omega)) dX3_forget_61 ?_
      refine lv_topi (fun y1 ey1 => ?_)
      replace ey1 : y1 = rowF (N 1) i := ey1.trans (by rw [nI_clamp (by omega)]; rfl)
      subst ey1
      refine va_iast hx hb hK hP hD hS 1 0 (wl_at (by omega)) rfl (vp_in_nI (by omega) (by omega)) dX3_forget_62 (fun H locs hP hD hS => ?_)
      have hP : va_P D vwCl (rW g cI cZ cB acc lm rm (va_up (va_up (va_up (va_up (mF N am T wk ou) 4 (lb 0)) 6 (tb (fun _ => false))) 1 (fl (rowF (N 1)) (rowF (N 0)) i)) 1 (upd ((va_up (va_up (va_up (mF N am T wk ou) 4 (lb 0)) 6 (tb (fun _ => false))) 1 (fl (rowF (N 1)) (rowF (N 0)) i)) 1) (nI i).toNatClampNeg (rowF (N 1) i))) y) H := cv (ms_a1 (upd ((va_up (va_up (va_up (mF N am T wk ou) 4 (lb 0)) 6 (tb (fun _ => false))) 1 (fl (rowF (N 1)) (rowF (N 0)) i)) 1) (nI i).toNatClampNeg (rowF (N 1) i))) hP
      have hD : va_D (mA g) (rW g cI cZ cB acc lm rm (va_up (va_up (va_up (va_up (mF N am T wk ou) 4 (lb 0)) 6 (tb (fun _ => false))) 1 (fl (rowF (N 1)) (rowF (N 0)) i)) 1 (upd ((va_up (va_up (va_up (mF N am T wk ou) 4 (lb 0)) 6 (tb (fun _ => false))) 1 (fl (rowF (N 1)) (rowF (N 0)) i)) 1) (nI i).toNatClampNeg (rowF (N 1) i))) y) := mlD hok
      have hP : va_P D vwCl (rW g cI cZ cB acc lm rm (va_up (va_up (va_up (mF N am T wk ou) 4 (lb 0)) 6 (tb (fun _ => false))) 1 (fl (rowF (N 1)) (rowF (N 0)) (i + 1))) y) H := rW_congr hP (fun k h1 h2 j hj => by
        match k with
        | 1 =>
          show upd (fl (rowF (N 1)) (rowF (N 0)) i) (nI i).toNatClampNeg (rowF (N 1) i) j = fl (rowF (N 1)) (rowF (N 0)) (i + 1) j
          rw [nI_clamp (by omega), fl_s rfl]
        | 2 | 3 | 4 | 5 | 6 | 7 => rfl
        | 8 => rfl
        | 0 => omega
        | k + 9 => omega)
      have hD : va_D (mA g) (rW g cI cZ cB acc lm rm (va_up (va_up (va_up (mF N am T wk ou) 4 (lb 0)) 6 (tb (fun _ => false))) 1 (fl (rowF (N 1)) (rowF (N 0)) (i + 1))) y) := mlD hok
      refine lv_iinc (v := nI (i + 1)) (lv' := [(1, .int (nI (i + 1))), (0, .ref (g 0))]) hx hb dX3_forget_63 hl (k := 0) rfl (nI_1 i) (by decide) rfl (fun ls hl => ?_)
      refine lv_goto (tgt := 44) hx hb dX3_forget_66 (by decide) ?_
      exact ihlp3 (i + 1) H locs ls (by omega) hP hS hl
  have lp2 : ∀ (n i : Nat) (H : Heap) (locs : List Loc) (ls : Array Slot), i + n = 25 → va_P D vwCl (rW g cI cZ cB acc lm rm (va_up (va_up (mF N am T wk ou) 4 (lb 0)) 6 (fl (tb (fun _ => false)) (tb (T 0)) i)) y) H → va_S (mA g) s.heap H locs → lv_has ls 2 [(1, .int (nI i)), (0, .ref (g 0))] → W p l e (headSpec wsX3_forget ({ frames := 0, cells := 0, slots := 0, locals := 0 })).room s m ([.ref (g 0)]).toArray below meth c H locs 0 0 (MQ below (va_Qv (fun _ : Unit => True) (fun _ t => va_P D vwCl (rW g cI cZ cB acc lm rm (mF (va_up N 0 (N 1)) 0 (va_up T 0 (fun _ => false)) wk ou) (y)) t.heap) (mA g)) ([.ref (g 0)]).toArray s 0 0 (mA g)) (F0 m 23 ls []) := by
    intro n
    induction n with
    | zero =>
      intro i H locs ls hin hP hS hl
      have hD : va_D (mA g) (rW g cI cZ cB acc lm rm (va_up (va_up (mF N am T wk ou) 4 (lb 0)) 6 (fl (tb (fun _ => false)) (tb (T 0)) i)) y) := mlD hok
      refine lv_iload_n hx hb dX3_forget_23 rfl (lv_at hl 0 rfl) ?_
      refine lv_bipush (v := 25) hx hb dX3_forget_24 (by decide) ?_
      refine lv_icmp_ge (tgt := 42) hx hb dX3_forget_26 (by decide) (fun _ => ?_) (fun c9 => absurd (nI_le (a := 25) (by omega) (by omega)) c9)
      refine lv_iconst (v := 0) hx hb dX3_forget_42 (by decide) ?_
      refine lv_istore_n (lv' := [(1, .int ((0 : Int32))), (0, .ref (g 0))]) hx hb dX3_forget_43 rfl hl (by decide) rfl (fun ls hl => ?_)
      have hP : va_P D vwCl (rW g cI cZ cB acc lm rm (va_up (va_up (va_up (mF N am T wk ou) 4 (lb 0)) 6 (tb (fun _ => false))) 1 (fl (rowF (N 1)) (rowF (N 0)) 0)) y) H := rW_congr hP (fun k h1 h2 j hj => by
        match k with
        | 1 => exact (congrFun (fl_0 (rowF (N 1)) (rowF (N 0))) j).symm
        | 2 => rfl
        | 3 => rfl
        | 4 => rfl
        | 5 => rfl
        | 6 =>
          exact fl_lo (by have : j < 25 := hj; omega)
        | 7 => rfl
        | 8 => rfl
        | 0 => omega
        | k + 9 => omega)
      have hD : va_D (mA g) (rW g cI cZ cB acc lm rm (va_up (va_up (va_up (mF N am T wk ou) 4 (lb 0)) 6 (tb (fun _ => false))) 1 (fl (rowF (N 1)) (rowF (N 0)) 0)) y) := mlD hok
      exact lp3 550 0 H locs ls rfl hP hS hl
    | succ n ihlp2 =>
      intro i H locs ls hin hP hS hl
      have hD : va_D (mA g) (rW g cI cZ cB acc lm rm (va_up (va_up (mF N am T wk ou) 4 (lb 0)) 6 (fl (tb (fun _ => false)) (tb (T 0)) i)) y) := mlD hok
      have hiw : i < 25 := by omega
      refine lv_iload_n hx hb dX3_forget_23 rfl (lv_at hl 0 rfl) ?_
      refine lv_bipush (v := 25) hx hb dX3_forget_24 (by decide) ?_
      refine lv_icmp_ge (tgt := 42) hx hb dX3_forget_26 (by decide) (fun c9 => absurd c9 (nI_ge (b := 25) hiw (by omega))) (fun _ => ?_)
      refine lv_aload_n hx hb dX3_forget_29 rfl (lv_at hl 1 rfl) ?_
      refine va_get (D := D) (ci := 3) (v := .ref (g 6)) (C := RX3) (T := TX3) (N := 18) hx hb hts hi3 hown hK hP 0 (wl_at (by omega)) rfl 9 (by decide) (hts (.fieldLink RX3 29 "BigLedgerModel" "touched" "[Z") (by decide +kernel)) (fun _ h9 => h9) rfl dX3_forget_30 ?_
      refine lv_iload_n hx hb dX3_forget_33 rfl (lv_at hl 0 rfl) ?_
      refine lv_iconst (v := 0) hx hb dX3_forget_34 (by decide) ?_
      refine va_zast hx hb hK hP hD hS 6 1 (wl_at (by omega)) rfl (vp_in_nI (by omega) (by omega)) dX3_forget_35 (fun H locs hP hD hS => ?_)
      have hP : va_P D vwCl (rW g cI cZ cB acc lm rm (va_up (va_up (va_up (mF N am T wk ou) 4 (lb 0)) 6 (fl (tb (fun _ => false)) (tb (T 0)) i)) 6 (upd ((va_up (va_up (mF N am T wk ou) 4 (lb 0)) 6 (fl (tb (fun _ => false)) (tb (T 0)) i)) 6) (nI i).toNatClampNeg (vp_nar .boolean ((0 : Int32))))) y) H := cv (ms_a6 (upd ((va_up (va_up (mF N am T wk ou) 4 (lb 0)) 6 (fl (tb (fun _ => false)) (tb (T 0)) i)) 6) (nI i).toNatClampNeg (vp_nar .boolean ((0 : Int32))))) hP
      have hD : va_D (mA g) (rW g cI cZ cB acc lm rm (va_up (va_up (va_up (mF N am T wk ou) 4 (lb 0)) 6 (fl (tb (fun _ => false)) (tb (T 0)) i)) 6 (upd ((va_up (va_up (mF N am T wk ou) 4 (lb 0)) 6 (fl (tb (fun _ => false)) (tb (T 0)) i)) 6) (nI i).toNatClampNeg (vp_nar .boolean ((0 : Int32))))) y) := mlD hok
      have hP : va_P D vwCl (rW g cI cZ cB acc lm rm (va_up (va_up (mF N am T wk ou) 4 (lb 0)) 6 (fl (tb (fun _ => false)) (tb (T 0)) (i + 1))) y) H := rW_congr hP (fun k h1 h2 j hj => by
        match k with
        | 1 => rfl
        | 2 => rfl
        | 3 => rfl
        | 4 => rfl
        | 5 => rfl
        | 6 =>
          show upd (fl (tb (fun _ => false)) (tb (T 0)) i) (nI i).toNatClampNeg (vp_nar .boolean 0) j = fl (tb (fun _ => false)) (tb (T 0)) (i + 1) j
          rw [nI_clamp (by omega), fl_s (show vp_nar .boolean 0 = tb (fun _ => false) i from rfl)]
        | 7 => rfl
        | 8 => rfl
        | 0 => omega
        | k + 9 => omega)
      have hD : va_D (mA g) (rW g cI cZ cB acc lm rm (va_up (va_up (mF N am T wk ou) 4 (lb 0)) 6 (fl (tb (fun _ => false)) (tb (T 0)) (i + 1))) y) := mlD hok
      refine lv_iinc (v := nI (i + 1)) (lv' := [(1, .int (nI (i + 1))), (0, .ref (g 0))]) hx hb dX3_forget_36 hl (k := 0) rfl (nI_1 i) (by decide) rfl (fun ls hl => ?_)
      refine lv_goto (tgt := 23) hx hb dX3_forget_39 (by decide) ?_
      exact ihlp2 (i + 1) H locs ls (by omega) hP hS hl
  have lp1 : ∀ (n i : Nat) (H : Heap) (locs : List Loc) (ls : Array Slot), i + n = 22 → va_P D vwCl (rW g cI cZ cB acc lm rm (va_up (mF N am T wk ou) 4 (fl (lb 0) (lb am) i)) y) H → va_S (mA g) s.heap H locs → lv_has ls 2 [(1, .int (nI i)), (0, .ref (g 0))] → W p l e (headSpec wsX3_forget ({ frames := 0, cells := 0, slots := 0, locals := 0 })).room s m ([.ref (g 0)]).toArray below meth c H locs 0 0 (MQ below (va_Qv (fun _ : Unit => True) (fun _ t => va_P D vwCl (rW g cI cZ cB acc lm rm (mF (va_up N 0 (N 1)) 0 (va_up T 0 (fun _ => false)) wk ou) (y)) t.heap) (mA g)) ([.ref (g 0)]).toArray s 0 0 (mA g)) (F0 m 2 ls []) := by
    intro n
    induction n with
    | zero =>
      intro i H locs ls hin hP hS hl
      have hD : va_D (mA g) (rW g cI cZ cB acc lm rm (va_up (mF N am T wk ou) 4 (fl (lb 0) (lb am) i)) y) := mlD hok
      refine lv_iload_n hx hb dX3_forget_2 rfl (lv_at hl 0 rfl) ?_
      refine lv_bipush (v := 22) hx hb dX3_forget_3 (by decide) ?_
      refine lv_icmp_ge (tgt := 21) hx hb dX3_forget_5 (by decide) (fun _ => ?_) (fun c9 => absurd (nI_le (a := 22) (by omega) (by omega)) c9)
      refine lv_iconst (v := 0) hx hb dX3_forget_21 (by decide) ?_
      refine lv_istore_n (lv' := [(1, .int ((0 : Int32))), (0, .ref (g 0))]) hx hb dX3_forget_22 rfl hl (by decide) rfl (fun ls hl => ?_)
      have hP : va_P D vwCl (rW g cI cZ cB acc lm rm (va_up (va_up (mF N am T wk ou) 4 (lb 0)) 6 (fl (tb (fun _ => false)) (tb (T 0)) 0)) y) H := rW_congr hP (fun k h1 h2 j hj => by
        match k with
        | 1 => rfl
        | 2 => rfl
        | 3 => rfl
        | 4 =>
          exact fl_lo (by have : j < 22 := hj; omega)
        | 5 => rfl
        | 6 => exact (congrFun (fl_0 (tb (fun _ => false)) (tb (T 0))) j).symm
        | 7 => rfl
        | 8 => rfl
        | 0 => omega
        | k + 9 => omega)
      have hD : va_D (mA g) (rW g cI cZ cB acc lm rm (va_up (va_up (mF N am T wk ou) 4 (lb 0)) 6 (fl (tb (fun _ => false)) (tb (T 0)) 0)) y) := mlD hok
      exact lp2 25 0 H locs ls rfl hP hS hl
    | succ n ihlp1 =>
      intro i H locs ls hin hP hS hl
      have hD : va_D (mA g) (rW g cI cZ cB acc lm rm (va_up (mF N am T wk ou) 4 (fl (lb 0) (lb am) i)) y) := mlD hok
      have hiw : i < 22 := by omega
      refine lv_iload_n hx hb dX3_forget_2 rfl (lv_at hl 0 rfl) ?_
      refine lv_bipush (v := 22) hx hb dX3_forget_3 (by decide) ?_
      refine lv_icmp_ge (tgt := 21) hx hb dX3_forget_5 (by decide) (fun c9 => absurd c9 (nI_ge (b := 22) hiw (by omega))) (fun _ => ?_)
      refine lv_aload_n hx hb dX3_forget_8 rfl (lv_at hl 1 rfl) ?_
      refine va_get (D := D) (ci := 3) (v := .ref (g 4)) (C := RX3) (T := TX3) (N := 18) hx hb hts hi3 hown hK hP 0 (wl_at (by omega)) rfl 7 (by decide) (hts (.fieldLink RX3 23 "BigLedgerModel" "amount" "[I") (by decide +kernel)) (fun _ h9 => h9) rfl dX3_forget_9 ?_
      refine lv_iload_n hx hb dX3_forget_12 rfl (lv_at hl 0 rfl) ?_
      refine lv_iconst (v := 0) hx hb dX3_forget_13 (by decide) ?_
      refine va_iast hx hb hK hP hD hS 4 0 (wl_at (by omega)) rfl (vp_in_nI (by omega) (by omega)) dX3_forget_14 (fun H locs hP hD hS => ?_)
      have hP : va_P D vwCl (rW g cI cZ cB acc lm rm (va_up (va_up (mF N am T wk ou) 4 (fl (lb 0) (lb am) i)) 4 (upd ((va_up (mF N am T wk ou) 4 (fl (lb 0) (lb am) i)) 4) (nI i).toNatClampNeg ((0 : Int32)))) y) H := cv (ms_a4 (upd ((va_up (mF N am T wk ou) 4 (fl (lb 0) (lb am) i)) 4) (nI i).toNatClampNeg ((0 : Int32)))) hP
      have hD : va_D (mA g) (rW g cI cZ cB acc lm rm (va_up (va_up (mF N am T wk ou) 4 (fl (lb 0) (lb am) i)) 4 (upd ((va_up (mF N am T wk ou) 4 (fl (lb 0) (lb am) i)) 4) (nI i).toNatClampNeg ((0 : Int32)))) y) := mlD hok
      have hP : va_P D vwCl (rW g cI cZ cB acc lm rm (va_up (mF N am T wk ou) 4 (fl (lb 0) (lb am) (i + 1))) y) H := rW_congr hP (fun k h1 h2 j hj => by
        match k with
        | 1 => rfl
        | 2 => rfl
        | 3 => rfl
        | 4 =>
          show upd (fl (lb 0) (lb am) i) (nI i).toNatClampNeg 0 j = fl (lb 0) (lb am) (i + 1) j
          rw [nI_clamp (by omega), fl_s (show (0 : Int32) = lb 0 i by show (0 : Int32) = nI (lbN 0 i); rw [lbN_of_zero, nI_0])]
        | 5 => rfl
        | 6 => rfl
        | 7 => rfl
        | 8 => rfl
        | 0 => omega
        | k + 9 => omega)
      have hD : va_D (mA g) (rW g cI cZ cB acc lm rm (va_up (mF N am T wk ou) 4 (fl (lb 0) (lb am) (i + 1))) y) := mlD hok
      refine lv_iinc (v := nI (i + 1)) (lv' := [(1, .int (nI (i + 1))), (0, .ref (g 0))]) hx hb dX3_forget_15 hl (k := 0) rfl (nI_1 i) (by decide) rfl (fun ls hl => ?_)
      refine lv_goto (tgt := 2) hx hb dX3_forget_18 (by decide) ?_
      exact ihlp1 (i + 1) H locs ls (by omega) hP hS hl
  refine lv_iconst (v := 0) hx hb dX3_forget_0 (by decide) ?_
  refine lv_istore_n (lv' := [(1, .int ((0 : Int32))), (0, .ref (g 0))]) hx hb dX3_forget_1 rfl hl (by decide) rfl (fun ls hl => ?_)
  have hP : va_P D vwCl (rW g cI cZ cB acc lm rm (va_up (mF N am T wk ou) 4 (fl (lb 0) (lb am) 0)) y) s.heap := rW_congr hP (fun k h1 h2 j hj => by
    match k with
    | 1 => rfl
    | 2 => rfl
    | 3 => rfl
    | 4 =>
      exact (congrFun (fl_0 (lb 0) (lb am)) j).symm
    | 5 => rfl
    | 6 => rfl
    | 7 => rfl
    | 8 => rfl
    | 0 => omega
    | k + 9 => omega)
  have hD : va_D (mA g) (rW g cI cZ cB acc lm rm (va_up (mF N am T wk ou) 4 (fl (lb 0) (lb am) 0)) y) := mlD hok
  exact lp1 22 0 s.heap [] ls rfl hP hS hl
set_option maxHeartbeats 4000000 in
set_option maxRecDepth 100000 in
theorem m_down (l : Launch) (D : va_G) (g : Nat → Nat) (cI cZ cB : ClassId) (acc lm rm : Nat) (N : LN) (am : Nat) (T : BN) (wk ou y : Nat → Int32) (hok : mOk g) (hacc : acc ≤ 24) : Met l yX3_down wsX3_down ({ frames := 1, cells := 0, slots := 0, locals := 21 }) (nPc [.ref (g 0)] D (rW g cI cZ cB acc lm rm (mF N am T wk ou) y) [(cI, .int), (cZ, .boolean), (cB, .byte)]) (va_Qv (fun _ : Unit => True) (fun _ t => va_P D vwCl (rW g cI cZ cB acc lm rm (mF (va_up N 0 (N 1)) 0 (va_up T 0 (fun _ => false)) wk ou) (va_up y 1 0)) t.heap) (mA g)) 0 0 (mA g) := by
  refine Met.ofW (cc := cX3_down) (maxL := 1) (ret := none) (by decide) rfl ?_
  intro p e s m args below meth c s₁ B hml hv
  obtain ⟨rfl, hP, hK⟩ := hv
  have hx := B.exec
  have hb := B.bytes
  have hr := B.returns
  have hts := atoms_spec (ws := wsX3_down) B.pre
  have hown : s.vm.findClass RX3 = some m.cls := findClass_of_methodNamed B.named
  have hlocks := B.notSynchronized
  have hi3 : ∀ w ∈ wsX30, w ∈ wsX3_down := by decide +kernel
  have hS : va_S (mA g) s.heap s.heap [] := va_S.rf
  have hD : va_D (mA g) (rW g cI cZ cB acc lm rm (mF N am T wk ou) y) := mlD hok
  have hl := lv_entry ([.ref (g 0)]) (n := 1) (Nat.le_of_ble_eq_true rfl)
  rw [lg_entry_eq]
  generalize (lg_sl ([.ref (g 0)]) ++ List.replicate (1 - (lg_sl ([.ref (g 0)])).length) Slot.unset).toArray = ls at hl ⊢
  have hl : lv_has ls 1 [(0, .ref (g 0))] := hl
  refine lv_aload_n hx hb dX3_down_0 rfl (lv_at hl 0 rfl) ?_
  refine lv_iconst (v := 0) hx hb dX3_down_1 (by decide) ?_
  refine va_put (D := D) (ci := 3) (v := .int ((0 : Int32))) (ty := .boolean) (C := RX3) (T := TX3) (N := 18) hx hb hts hi3 tyX3 tyX3_ok nmX3 hown hK hP hD hS 0 (wl_at (by omega)) rfl 11 (by decide) (hts (.fieldLink RX3 52 "BigLedgerModel" "up" "Z") (by decide +kernel)) (fun _ h9 => h9) rfl (by decide +kernel) (rfl) (rfl) (Nat.le_of_ble_eq_true rfl) dX3_down_2 (fun H locs hP hD hS => ?_)
  have hP : va_P D vwCl (rW g cI cZ cB acc lm rm (mF N am T wk ou) (va_up y 1 (0 : Int32))) H := cv (ms_f 1 (0 : Int32) (by decide)) hP
  have hD : va_D (mA g) (rW g cI cZ cB acc lm rm (mF N am T wk ou) (va_up y 1 (0 : Int32))) := mlD hok
  refine lv_aload_n hx hb dX3_down_5 rfl (lv_at hl 0 rfl) ?_
  refine va_callv (va_runV (As := []) (rest := []) ⟨hx, hb, hml, hown, hts⟩ (m_forget l D g cI cZ cB acc lm rm N am T wk ou (va_up y 1 (0 : Int32)) hok hacc) (cwV 0 hts gX3_down_X3_forget rfl rfl rfl (by decide +kernel) ⟨Nat.le_of_ble_eq_true rfl, Nat.le_of_ble_eq_true rfl⟩) ⟨nPc_blind, va_recv hK hP (ci := 3) (q0 := 0) rfl (wl_at (by omega)), nPc_use (hP) hK⟩ rfl rfl hl.1 rfl (lv_room (Nat.le_of_ble_eq_true rfl)) dX3_down_6 ⟨Nat.le_of_ble_eq_true rfl, Nat.le_of_ble_eq_true rfl⟩) hS (fun q _ h => (fun _ h => h) q h) (fun _ h => h) (fun _u t H1 locs ht hvm hw hB hz1 hk9 hS => ?_)
  generalize H1 = H at ht hz1 hk9 hS ⊢
  have hP : va_P D vwCl (rW g cI cZ cB acc lm rm (mF (va_up N 0 (N 1)) 0 (va_up T 0 (fun _ => false)) wk ou) (va_up y 1 (0 : Int32))) H := pB_at ht hB
  have hD : va_D (mA g) (rW g cI cZ cB acc lm rm (mF (va_up N 0 (N 1)) 0 (va_up T 0 (fun _ => false)) wk ou) (va_up y 1 (0 : Int32))) := mlD hok
  exact W.vret hx hb hr (fun t ht hW => ⟨⟨(), rfl, trivial, hp_at ht hP⟩, hS.F ht⟩) hS.2.2 dX3_down_9
set_option maxHeartbeats 4000000 in
set_option maxRecDepth 100000 in
theorem m_writes (l : Launch) (D : va_G) (g : Nat → Nat) (cI cZ cB : ClassId) (acc lm rm : Nat) (N : LN) (am : Nat) (T : BN) (wk ou y : Nat → Int32) (hok : mOk g) (hacc : acc ≤ 24) : Met l yX3_writes wsX3_writes ({ frames := 2, cells := 0, slots := 0, locals := 41 }) (nPc [.ref (g 0)] D (rW g cI cZ cB acc lm rm (mF N am T wk ou) y) [(cI, .int), (cZ, .boolean), (cB, .byte)]) (va_Qi (fun (r : Int32) (u : MS) => (r, u) = mWr (N, am, T, y)) (fun u t => va_P D vwCl (rW g cI cZ cB acc lm rm (mF u.1 u.2.1 u.2.2.1 wk ou) u.2.2.2) t.heap) (mA g)) 0 0 (mA g) := by
  refine Met.ofW (cc := cX3_writes) (maxL := 1) (ret := (some .boolean)) (by decide) rfl ?_
  intro p e s m args below meth c s₁ B hml hv
  obtain ⟨rfl, hP, hK⟩ := hv
  have hx := B.exec
  have hb := B.bytes
  have hr := B.returns
  have hts := atoms_spec (ws := wsX3_writes) B.pre
  have hown : s.vm.findClass RX3 = some m.cls := findClass_of_methodNamed B.named
  have hlocks := B.notSynchronized
  have hi3 : ∀ w ∈ wsX30, w ∈ wsX3_writes := by decide +kernel
  have hS : va_S (mA g) s.heap s.heap [] := va_S.rf
  have hD : va_D (mA g) (rW g cI cZ cB acc lm rm (mF N am T wk ou) y) := mlD hok
  have hl := lv_entry ([.ref (g 0)]) (n := 1) (Nat.le_of_ble_eq_true rfl)
  rw [lg_entry_eq]
  generalize (lg_sl ([.ref (g 0)]) ++ List.replicate (1 - (lg_sl ([.ref (g 0)])).length) Slot.unset).toArray = ls at hl ⊢
  have hl : lv_has ls 1 [(0, .ref (g 0))] := hl
  refine lv_aload_n hx hb dX3_writes_0 rfl (lv_at hl 0 rfl) ?_
  refine va_get (D := D) (ci := 3) (v := .int (y 5)) (C := RX3) (T := TX3) (N := 18) hx hb hts hi3 hown hK hP 0 (wl_at (by omega)) rfl 15 (by decide) (hts (.fieldLink RX3 36 "BigLedgerModel" "left" "I") (by decide +kernel)) (fun _ h9 => h9) rfl dX3_writes_1 ?_
  refine lv_if_ne (tgt := 18) hx hb dX3_writes_4 (by decide) (fun c1 => ?_) (fun c1 => ?_)
  · refine lv_aload_n hx hb dX3_writes_18 rfl (lv_at hl 0 rfl) ?_
    refine va_get (D := D) (ci := 3) (v := .int (y 5)) (C := RX3) (T := TX3) (N := 18) hx hb hts hi3 hown hK hP 0 (wl_at (by omega)) rfl 15 (by decide) (hts (.fieldLink RX3 36 "BigLedgerModel" "left" "I") (by decide +kernel)) (fun _ h9 => h9) rfl dX3_writes_19 ?_
    refine lv_if_le (tgt := 35) hx hb dX3_writes_22 (by decide) (fun c2 => ?_) (fun c2 => ?_)
    · refine lv_aload_n hx hb dX3_writes_35 rfl (lv_at hl 0 rfl) ?_
      refine lv_dup hx hb dX3_writes_36 rfl ?_
      refine va_get (D := D) (ci := 3) (v := .int (y 4)) (C := RX3) (T := TX3) (N := 18) hx hb hts hi3 hown hK hP 0 (wl_at (by omega)) rfl 14 (by decide) (hts (.fieldLink RX3 62 "BigLedgerModel" "writes" "I") (by decide +kernel)) (fun _ h9 => h9) rfl dX3_writes_37 ?_
      refine lv_iconst (v := 1) hx hb dX3_writes_40 (by decide) ?_
      refine lv_iadd hx hb dX3_writes_41 ?_
      refine va_put (D := D) (ci := 3) (v := .int ((y 4) + (1 : Int32))) (ty := .int) (C := RX3) (T := TX3) (N := 18) hx hb hts hi3 tyX3 tyX3_ok nmX3 hown hK hP hD hS 0 (wl_at (by omega)) rfl 14 (by decide) (hts (.fieldLink RX3 62 "BigLedgerModel" "writes" "I") (by decide +kernel)) (fun _ h9 => h9) rfl (by decide +kernel) (rfl) (rfl) (Nat.le_of_ble_eq_true rfl) dX3_writes_42 (fun H locs hP hD hS => ?_)
      have hP : va_P D vwCl (rW g cI cZ cB acc lm rm (mF N am T wk ou) (va_up y 4 ((y 4) + (1 : Int32)))) H := cv (ms_f 4 ((y 4) + (1 : Int32)) (by decide)) hP
      have hD : va_D (mA g) (rW g cI cZ cB acc lm rm (mF N am T wk ou) (va_up y 4 ((y 4) + (1 : Int32)))) := mlD hok
      refine lv_iconst (v := 1) hx hb dX3_writes_45 (by decide) ?_
      exact W.zret (v := 1) (ty := .boolean) hx hb hr (rfl) (fun t ht hW => ⟨⟨_, (N, am, T, va_up y 4 ((y 4) + (1 : Int32))), rfl, by rw [mWr]; exact (congrArg (fun q => ((1 : Int32), N, am, T, q)) (if_pos c2).symm).trans (if_neg c1).symm, hp_at ht hP⟩, hS.F ht⟩) hS.2.2 dX3_writes_46
    · refine lv_aload_n hx hb dX3_writes_25 rfl (lv_at hl 0 rfl) ?_
      refine lv_dup hx hb dX3_writes_26 rfl ?_
      refine va_get (D := D) (ci := 3) (v := .int (y 5)) (C := RX3) (T := TX3) (N := 18) hx hb hts hi3 hown hK hP 0 (wl_at (by omega)) rfl 15 (by decide) (hts (.fieldLink RX3 36 "BigLedgerModel" "left" "I") (by decide +kernel)) (fun _ h9 => h9) rfl dX3_writes_27 ?_
      refine lv_iconst (v := 1) hx hb dX3_writes_30 (by decide) ?_
      refine lv_isub hx hb dX3_writes_31 ?_
      refine va_put (D := D) (ci := 3) (v := .int ((y 5) - (1 : Int32))) (ty := .int) (C := RX3) (T := TX3) (N := 18) hx hb hts hi3 tyX3 tyX3_ok nmX3 hown hK hP hD hS 0 (wl_at (by omega)) rfl 15 (by decide) (hts (.fieldLink RX3 36 "BigLedgerModel" "left" "I") (by decide +kernel)) (fun _ h9 => h9) rfl (by decide +kernel) (rfl) (rfl) (Nat.le_of_ble_eq_true rfl) dX3_writes_32 (fun H locs hP hD hS => ?_)
      have hP : va_P D vwCl (rW g cI cZ cB acc lm rm (mF N am T wk ou) (va_up y 5 ((y 5) - (1 : Int32)))) H := cv (ms_f 5 ((y 5) - (1 : Int32)) (by decide)) hP
      have hD : va_D (mA g) (rW g cI cZ cB acc lm rm (mF N am T wk ou) (va_up y 5 ((y 5) - (1 : Int32)))) := mlD hok
      refine lv_aload_n hx hb dX3_writes_35 rfl (lv_at hl 0 rfl) ?_
      refine lv_dup hx hb dX3_writes_36 rfl ?_
      refine va_get (D := D) (ci := 3) (v := .int ((va_up y 5 ((y 5) - (1 : Int32))) 4)) (C := RX3) (T := TX3) (N := 18) hx hb hts hi3 hown hK hP 0 (wl_at (by omega)) rfl 14 (by decide) (hts (.fieldLink RX3 62 "BigLedgerModel" "writes" "I") (by decide +kernel)) (fun _ h9 => h9) rfl dX3_writes_37 ?_
      refine lv_iconst (v := 1) hx hb dX3_writes_40 (by decide) ?_
      refine lv_iadd hx hb dX3_writes_41 ?_
      refine va_put (D := D) (ci := 3) (v := .int (((va_up y 5 ((y 5) - (1 : Int32))) 4) + (1 : Int32))) (ty := .int) (C := RX3) (T := TX3) (N := 18) hx hb hts hi3 tyX3 tyX3_ok nmX3 hown hK hP hD hS 0 (wl_at (by omega)) rfl 14 (by decide) (hts (.fieldLink RX3 62 "BigLedgerModel" "writes" "I") (by decide +kernel)) (fun _ h9 => h9) rfl (by decide +kernel) (rfl) (rfl) (Nat.le_of_ble_eq_true rfl) dX3_writes_42 (fun H locs hP hD hS => ?_)
      have hP : va_P D vwCl (rW g cI cZ cB acc lm rm (mF N am T wk ou) (va_up (va_up y 5 ((y 5) - (1 : Int32))) 4 (((va_up y 5 ((y 5) - (1 : Int32))) 4) + (1 : Int32)))) H := cv (ms_f 4 (((va_up y 5 ((y 5) - (1 : Int32))) 4) + (1 : Int32)) (by decide)) hP
      have hD : va_D (mA g) (rW g cI cZ cB acc lm rm (mF N am T wk ou) (va_up (va_up y 5 ((y 5) - (1 : Int32))) 4 (((va_up y 5 ((y 5) - (1 : Int32))) 4) + (1 : Int32)))) := mlD hok
      refine lv_iconst (v := 1) hx hb dX3_writes_45 (by decide) ?_
      exact W.zret (v := 1) (ty := .boolean) hx hb hr (rfl) (fun t ht hW => ⟨⟨_, (N, am, T, va_up (va_up y 5 ((y 5) - (1 : Int32))) 4 (((va_up y 5 ((y 5) - (1 : Int32))) 4) + (1 : Int32))), rfl, by rw [mWr]; exact (congrArg (fun q => ((1 : Int32), N, am, T, q)) (if_neg c2).symm).trans (if_neg c1).symm, hp_at ht hP⟩, hS.F ht⟩) hS.2.2 dX3_writes_46
  · refine lv_aload_n hx hb dX3_writes_7 rfl (lv_at hl 0 rfl) ?_
    refine lv_iconst (v := (-1)) hx hb dX3_writes_8 (by decide) ?_
    refine va_put (D := D) (ci := 3) (v := .int ((-1 : Int32))) (ty := .int) (C := RX3) (T := TX3) (N := 18) hx hb hts hi3 tyX3 tyX3_ok nmX3 hown hK hP hD hS 0 (wl_at (by omega)) rfl 15 (by decide) (hts (.fieldLink RX3 36 "BigLedgerModel" "left" "I") (by decide +kernel)) (fun _ h9 => h9) rfl (by decide +kernel) (rfl) (rfl) (Nat.le_of_ble_eq_true rfl) dX3_writes_9 (fun H locs hP hD hS => ?_)
    have hP : va_P D vwCl (rW g cI cZ cB acc lm rm (mF N am T wk ou) (va_up y 5 (-1 : Int32))) H := cv (ms_f 5 (-1 : Int32) (by decide)) hP
    have hD : va_D (mA g) (rW g cI cZ cB acc lm rm (mF N am T wk ou) (va_up y 5 (-1 : Int32))) := mlD hok
    refine lv_aload_n hx hb dX3_writes_12 rfl (lv_at hl 0 rfl) ?_
    refine va_callv (va_runV (As := []) (rest := []) ⟨hx, hb, hml, hown, hts⟩ (m_down l D g cI cZ cB acc lm rm N am T wk ou (va_up y 5 (-1 : Int32)) hok hacc) (cwV 0 hts gX3_writes_X3_down rfl rfl rfl (by decide +kernel) ⟨Nat.le_of_ble_eq_true rfl, Nat.le_of_ble_eq_true rfl⟩) ⟨nPc_blind, va_recv hK hP (ci := 3) (q0 := 0) rfl (wl_at (by omega)), nPc_use (hP) hK⟩ rfl rfl hl.1 rfl (lv_room (Nat.le_of_ble_eq_true rfl)) dX3_writes_13 ⟨Nat.le_of_ble_eq_true rfl, Nat.le_of_ble_eq_true rfl⟩) hS (fun q _ h => (fun _ h => h) q h) (fun _ h => h) (fun _u t H1 locs ht hvm hw hB hz1 hk9 hS => ?_)
    generalize H1 = H at ht hz1 hk9 hS ⊢
    have hP : va_P D vwCl (rW g cI cZ cB acc lm rm (mF (va_up N 0 (N 1)) 0 (va_up T 0 (fun _ => false)) wk ou) (va_up (va_up y 5 (-1)) 1 0)) H := pB_at ht hB
    have hD : va_D (mA g) (rW g cI cZ cB acc lm rm (mF (va_up N 0 (N 1)) 0 (va_up T 0 (fun _ => false)) wk ou) (va_up (va_up y 5 (-1)) 1 0)) := mlD hok
    refine lv_iconst (v := 0) hx hb dX3_writes_16 (by decide) ?_
    exact W.zret (v := 0) (ty := .boolean) hx hb hr (rfl) (fun t ht hW => ⟨⟨_, ((va_up N 0 (N 1)), 0, (va_up T 0 (fun _ => false)), va_up (va_up y 5 (-1)) 1 0), rfl, by rw [mWr]; exact (if_pos c1).symm, hp_at ht hP⟩, hS.F ht⟩) hS.2.2 dX3_writes_17
end
