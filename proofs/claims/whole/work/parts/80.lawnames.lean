/-! the law: its words, and where they stand in the tables -/
def wsL_law0_r1 : List Cond := [Cond.classLink RL 8 RX2, Cond.instantiable RX2 11, Cond.initialized RX2, Cond.classLink RL 24 RX3, Cond.instantiable RX3 18, Cond.initialized RX3, Cond.arrayClass .long, Cond.methodLink RL 15 yL_cell, Cond.static yL_cell, Cond.initialized RL, Cond.code yL_cell cL_cell 2 (some .int), Cond.methodLink RL 21 yX2_init, Cond.instanceMethod yX2_init, Cond.code yX2_init cX2_init 6 none, Cond.methodLink RX2 1 objectInit, Cond.instanceMethod objectInit, Cond.code objectInit ⟨#[0xb1]⟩ 1 none, Cond.fieldLink RX2 13 "BigLedger" "accounts" "I", Cond.fieldLink RX2 17 "BigLedger" "limbs" "I", Cond.fieldLink RX2 20 "BigLedger" "room" "I", Cond.classLink RX2 23 RX0, Cond.instantiable RX0 6, Cond.initialized RX0, Cond.fieldLink RX2 28 "BigLedger" "disk" "LBigLedger$Disk;"]
def wsL_law0_r2 : List Cond := [Cond.fieldLink RX2 36 "BigLedger" "pending" "[LBigLedger$Natural;", Cond.classLink RX2 40 RX1, Cond.instantiable RX1 2, Cond.initialized RX1, Cond.fieldLink RX2 45 "BigLedger" "amount" "LBigLedger$Natural;", Cond.fieldLink RX2 49 "BigLedger" "scratch" "LBigLedger$Natural;", Cond.arrayClass .byte, Cond.fieldLink RX2 52 "BigLedger" "outBackwards" "[B", Cond.methodLink RX2 9 yX2_within, Cond.static yX2_within, Cond.code yX2_within cX2_within 2 (some .int), Cond.methodLink RX2 56 Lib.Math.min.name, Cond.static Lib.Math.min.name, Cond.initialized "java/lang/Math", Cond.code Lib.Math.min.name Lib.Math.min.code 2 (some .int), Cond.methodLink RX2 61 Lib.Math.max.name, Cond.static Lib.Math.max.name, Cond.code Lib.Math.max.name Lib.Math.max.code 2 (some .int), Cond.methodLink RX2 25 yX0_init, Cond.instanceMethod yX0_init, Cond.code yX0_init cX0_init 3 none, Cond.methodLink RX0 3 objectInit, Cond.fieldLink RX0 13 "BigLedger$Disk" "home" "[LBigLedger$Natural;", Cond.fieldLink RX0 19 "BigLedger$Disk" "log" "[LBigLedger$Natural;"]
def wsL_law0_r3 : List Cond := [Cond.fieldLink RX0 22 "BigLedger$Disk" "writesUntilStop" "I", Cond.static yX2_naturals, Cond.code yX2_naturals cX2_naturals 4 (some (.array (.object "BigLedger$Natural"))), Cond.methodLink RX2 42 yX1_init, Cond.instanceMethod yX1_init, Cond.code yX1_init cX1_init 2 none, Cond.methodLink RX1 3 objectInit, Cond.arrayClass .int, Cond.fieldLink RX1 9 "BigLedger$Natural" "limbs" "[I", Cond.methodLink RX2 32 yX2_naturals, Cond.methodLink RL 26 yX3_init, Cond.instanceMethod yX3_init, Cond.code yX3_init cX3_init 4 none, Cond.methodLink RX3 7 objectInit, Cond.fieldLink RX3 13 "BigLedgerModel" "now" "[I", Cond.fieldLink RX3 17 "BigLedgerModel" "home" "[I", Cond.fieldLink RX3 20 "BigLedgerModel" "log" "[I", Cond.fieldLink RX3 23 "BigLedgerModel" "amount" "[I", Cond.fieldLink RX3 26 "BigLedgerModel" "work" "[I", Cond.arrayClass .boolean, Cond.fieldLink RX3 29 "BigLedgerModel" "touched" "[Z", Cond.fieldLink RX3 33 "BigLedgerModel" "logged" "[Z", Cond.fieldLink RX3 36 "BigLedgerModel" "left" "I", Cond.fieldLink RX3 39 "BigLedgerModel" "out" "[B"]
def wsL_law0_r4 : List Cond := [Cond.fieldLink RX3 43 "BigLedgerModel" "accounts" "I", Cond.fieldLink RX3 46 "BigLedgerModel" "limbs" "I", Cond.fieldLink RX3 49 "BigLedgerModel" "room" "I", Cond.methodLink RL 27 yX2_format, Cond.instanceMethod yX2_format, Cond.selects RX2 yX2_format yX2_format, Cond.code yX2_format cX2_format 1 (some .boolean), Cond.fieldLink RX2 71 "BigLedger" "up" "Z", Cond.methodLink RX2 64 yX2_loseMemory, Cond.instanceMethod yX2_loseMemory, Cond.selects RX2 yX2_loseMemory yX2_loseMemory, Cond.code yX2_loseMemory cX2_loseMemory 1 none, Cond.methodLink RX2 133 yX2_dropPending, Cond.instanceMethod yX2_dropPending, Cond.selects RX2 yX2_dropPending yX2_dropPending, Cond.code yX2_dropPending cX2_dropPending 1 none, Cond.fieldLink RX2 126 "BigLedger" "touched" "I", Cond.methodLink RX2 81 yX1_setZero, Cond.instanceMethod yX1_setZero, Cond.selects RX1 yX1_setZero yX1_setZero, Cond.code yX1_setZero cX1_setZero 2 none, Cond.fieldLink RX1 15 "BigLedger$Natural" "size" "I", Cond.methodLink RX2 67 yX0_layOut, Cond.instanceMethod yX0_layOut]
def wsL_law0_r5 : List Cond := [Cond.selects RX0 yX0_layOut yX0_layOut, Cond.code yX0_layOut cX0_layOut 1 (some .boolean), Cond.methodLink RX0 26 yX0_writeFormatted, Cond.instanceMethod yX0_writeFormatted, Cond.selects RX0 yX0_writeFormatted yX0_writeFormatted, Cond.code yX0_writeFormatted cX0_writeFormatted 2 (some .boolean), Cond.fieldLink RX0 54 "BigLedger$Disk" "formatted" "Z", Cond.methodLink RX0 51 yX0_passStop, Cond.instanceMethod yX0_passStop, Cond.selects RX0 yX0_passStop yX0_passStop, Cond.code yX0_passStop cX0_passStop 1 (some .boolean), Cond.fieldLink RX0 48 "BigLedger$Disk" "writesDone" "I", Cond.methodLink RX0 30 yX0_writeLogState, Cond.instanceMethod yX0_writeLogState, Cond.selects RX0 yX0_writeLogState yX0_writeLogState, Cond.code yX0_writeLogState cX0_writeLogState 2 (some .boolean), Cond.fieldLink RX0 45 "BigLedger$Disk" "committed" "I", Cond.methodLink RX0 34 yX0_clearHomes, Cond.instanceMethod yX0_clearHomes, Cond.selects RX0 yX0_clearHomes yX0_clearHomes, Cond.code yX0_clearHomes cX0_clearHomes 2 (some .boolean), Cond.methodLink RX0 68 yX1_setZero, Cond.methodLink RL 31 yX3_format, Cond.instanceMethod yX3_format]
def wsL_law0_r6 : List Cond := [Cond.selects RX3 yX3_format yX3_format, Cond.code yX3_format cX3_format 3 (some .boolean), Cond.fieldLink RX3 1 "BigLedgerModel" "thrown" "I", Cond.fieldLink RX3 74 "BigLedgerModel" "formatted" "Z", Cond.fieldLink RX3 52 "BigLedgerModel" "up" "Z", Cond.methodLink RX3 65 yX3_writes, Cond.instanceMethod yX3_writes, Cond.selects RX3 yX3_writes yX3_writes, Cond.code yX3_writes cX3_writes 1 (some .boolean), Cond.fieldLink RX3 62 "BigLedgerModel" "writes" "I", Cond.methodLink RX3 59 yX3_down, Cond.instanceMethod yX3_down, Cond.selects RX3 yX3_down yX3_down, Cond.code yX3_down cX3_down 1 none, Cond.methodLink RX3 56 yX3_forget, Cond.instanceMethod yX3_forget, Cond.selects RX3 yX3_forget yX3_forget, Cond.code yX3_forget cX3_forget 2 none, Cond.methodLink RX3 71 yX3_emptyLog, Cond.instanceMethod yX3_emptyLog, Cond.selects RX3 yX3_emptyLog yX3_emptyLog, Cond.code yX3_emptyLog cX3_emptyLog 1 (some .boolean), Cond.fieldLink RX3 68 "BigLedgerModel" "committed" "Z", Cond.methodLink RL 32 yX2_amountLimb]
def wsL_law0_r7 : List Cond := [Cond.instanceMethod yX2_amountLimb, Cond.selects RX2 yX2_amountLimb yX2_amountLimb, Cond.code yX2_amountLimb cX2_amountLimb 2 (some .boolean), Cond.methodLink RX2 78 yX1_append, Cond.instanceMethod yX1_append, Cond.selects RX1 yX1_append yX1_append, Cond.code yX1_append cX1_append 3 none, Cond.methodLink RX1 23 yX1_measure, Cond.instanceMethod yX1_measure, Cond.selects RX1 yX1_measure yX1_measure, Cond.code yX1_measure cX1_measure 1 none, Cond.methodLink RL 36 yX3_amountLimb, Cond.instanceMethod yX3_amountLimb, Cond.selects RX3 yX3_amountLimb yX3_amountLimb, Cond.code yX3_amountLimb cX3_amountLimb 3 (some .boolean), Cond.methodLink RL 37 yX2_clearAmount, Cond.instanceMethod yX2_clearAmount, Cond.selects RX2 yX2_clearAmount yX2_clearAmount, Cond.code yX2_clearAmount cX2_clearAmount 1 (some .boolean), Cond.methodLink RL 40 yX3_clearAmount, Cond.instanceMethod yX3_clearAmount, Cond.selects RX3 yX3_clearAmount yX3_clearAmount, Cond.code yX3_clearAmount cX3_clearAmount 2 (some .boolean), Cond.methodLink RL 41 yX2_deposit]
def wsL_law0_r8 : List Cond := [Cond.instanceMethod yX2_deposit, Cond.selects RX2 yX2_deposit yX2_deposit, Cond.code yX2_deposit cX2_deposit 2 (some .int), Cond.methodLink RX2 84 yX2_isAccount, Cond.instanceMethod yX2_isAccount, Cond.selects RX2 yX2_isAccount yX2_isAccount, Cond.code yX2_isAccount cX2_isAccount 2 (some .boolean), Cond.methodLink RX2 88 yX2_wouldBeTooGreat, Cond.instanceMethod yX2_wouldBeTooGreat, Cond.selects RX2 yX2_wouldBeTooGreat yX2_wouldBeTooGreat, Cond.code yX2_wouldBeTooGreat cX2_wouldBeTooGreat 2 (some .boolean), Cond.methodLink RX2 113 yX2_seen, Cond.instanceMethod yX2_seen, Cond.selects RX2 yX2_seen yX2_seen, Cond.code yX2_seen cX2_seen 2 (some (.object "BigLedger$Natural")), Cond.methodLink RX2 170 yX2_has, Cond.static yX2_has, Cond.code yX2_has cX2_has 2 (some .boolean), Cond.methodLink RX2 116 yX1_setTo, Cond.instanceMethod yX1_setTo, Cond.selects RX1 yX1_setTo yX1_setTo, Cond.code yX1_setTo cX1_setTo 3 none, Cond.methodLink RX1 19 yX1_limbAt, Cond.instanceMethod yX1_limbAt]
def wsL_law0_r9 : List Cond := [Cond.selects RX1 yX1_limbAt yX1_limbAt, Cond.code yX1_limbAt cX1_limbAt 2 (some .int), Cond.methodLink RX2 103 yX1_increase, Cond.instanceMethod yX1_increase, Cond.selects RX1 yX1_increase yX1_increase, Cond.code yX1_increase cX1_increase 7 none, Cond.constantLong RX1 26 (2147483647), Cond.methodLink RX2 91 yX2_totalBlock, Cond.instanceMethod yX2_totalBlock, Cond.selects RX2 yX2_totalBlock yX2_totalBlock, Cond.code yX2_totalBlock cX2_totalBlock 1 (some .int), Cond.methodLink RX2 95 yX2_hasRoomFor, Cond.instanceMethod yX2_hasRoomFor, Cond.selects RX2 yX2_hasRoomFor yX2_hasRoomFor, Cond.code yX2_hasRoomFor cX2_hasRoomFor 3 (some .boolean), Cond.methodLink RX2 165 yJ6_bitCount_0f7a4, Cond.static yJ6_bitCount_0f7a4, Cond.initialized RJ6, Cond.code yJ6_bitCount_0f7a4 cJ6_bitCount_0f7a4 1 (some .int), Cond.constant RJ6 265 (1431655765), Cond.constant RJ6 266 (858993459), Cond.constant RJ6 267 (252645135), Cond.methodLink RX2 99 yX2_touch, Cond.instanceMethod yX2_touch]
def wsL_law0_r10 : List Cond := [Cond.selects RX2 yX2_touch yX2_touch, Cond.code yX2_touch cX2_touch 2 (some (.object "BigLedger$Natural")), Cond.methodLink RL 44 yX3_deposit, Cond.instanceMethod yX3_deposit, Cond.selects RX3 yX3_deposit yX3_deposit, Cond.code yX3_deposit cX3_deposit 2 (some .int), Cond.methodLink RX3 88 yX3_no, Cond.instanceMethod yX3_no, Cond.selects RX3 yX3_no yX3_no, Cond.code yX3_no cX3_no 2 (some .boolean), Cond.methodLink RX3 92 yX3_isGreat, Cond.instanceMethod yX3_isGreat, Cond.selects RX3 yX3_isGreat yX3_isGreat, Cond.code yX3_isGreat cX3_isGreat 5 (some .boolean), Cond.constantLong RX3 86 (2147483648), Cond.methodLink RX3 95 yX3_isFull, Cond.instanceMethod yX3_isFull, Cond.selects RX3 yX3_isFull yX3_isFull, Cond.code yX3_isFull cX3_isFull 4 (some .boolean), Cond.methodLink RX3 77 yX3_touches, Cond.instanceMethod yX3_touches, Cond.selects RX3 yX3_touches yX3_touches, Cond.code yX3_touches cX3_touches 3 (some .int), Cond.methodLink RX3 99 yX3_change]
def wsL_law0_r11 : List Cond := [Cond.instanceMethod yX3_change, Cond.selects RX3 yX3_change yX3_change, Cond.code yX3_change cX3_change 8 none, Cond.constantLong RX3 84 (-1), Cond.methodLink RL 45 yX2_withdraw, Cond.instanceMethod yX2_withdraw, Cond.selects RX2 yX2_withdraw yX2_withdraw, Cond.code yX2_withdraw cX2_withdraw 2 (some .int), Cond.methodLink RX2 107 yX2_isAmountAbove, Cond.instanceMethod yX2_isAmountAbove, Cond.selects RX2 yX2_isAmountAbove yX2_isAmountAbove, Cond.code yX2_isAmountAbove cX2_isAmountAbove 2 (some .boolean), Cond.methodLink RX2 139 yX1_standingTo, Cond.instanceMethod yX1_standingTo, Cond.selects RX1 yX1_standingTo yX1_standingTo, Cond.code yX1_standingTo cX1_standingTo 4 (some .int), Cond.methodLink RX1 28 yJ6_compare_7cf53, Cond.static yJ6_compare_7cf53, Cond.code yJ6_compare_7cf53 cJ6_compare_7cf53 2 (some .int), Cond.methodLink RX2 110 yX1_decrease, Cond.instanceMethod yX1_decrease, Cond.selects RX1 yX1_decrease yX1_decrease, Cond.code yX1_decrease cX1_decrease 7 none, Cond.methodLink RL 48 yX3_withdraw]
def wsL_law0_r12 : List Cond := [Cond.instanceMethod yX3_withdraw, Cond.selects RX3 yX3_withdraw yX3_withdraw, Cond.code yX3_withdraw cX3_withdraw 2 (some .int), Cond.methodLink RX3 103 yX3_compared, Cond.static yX3_compared, Cond.code yX3_compared cX3_compared 5 (some .int), Cond.methodLink RL 49 yX2_transfer, Cond.instanceMethod yX2_transfer, Cond.selects RX2 yX2_transfer yX2_transfer, Cond.code yX2_transfer cX2_transfer 3 (some .int), Cond.methodLink RL 53 yX3_transfer, Cond.instanceMethod yX3_transfer, Cond.selects RX3 yX3_transfer yX3_transfer, Cond.code yX3_transfer cX3_transfer 3 (some .int), Cond.methodLink RL 54 yX2_part, Cond.instanceMethod yX2_part, Cond.selects RX2 yX2_part yX2_part, Cond.code yX2_part cX2_part 4 (some .int), Cond.methodLink RX2 119 yX1_multiply, Cond.instanceMethod yX1_multiply, Cond.selects RX1 yX1_multiply yX1_multiply, Cond.code yX1_multiply cX1_multiply 7 none, Cond.methodLink RX2 122 yX1_divide, Cond.instanceMethod yX1_divide]
def wsL_law0_r13 : List Cond := [Cond.selects RX1 yX1_divide yX1_divide, Cond.code yX1_divide cX1_divide 7 (some .int), Cond.methodLink RL 58 yX3_part, Cond.instanceMethod yX3_part, Cond.selects RX3 yX3_part yX3_part, Cond.code yX3_part cX3_part 9 (some .int), Cond.methodLink RL 59 yX2_commit, Cond.instanceMethod yX2_commit, Cond.selects RX2 yX2_commit yX2_commit, Cond.code yX2_commit cX2_commit 1 (some .int), Cond.methodLink RX2 129 yX0_bringThroughLog, Cond.instanceMethod yX0_bringThroughLog, Cond.selects RX0 yX0_bringThroughLog yX0_bringThroughLog, Cond.code yX0_bringThroughLog cX0_bringThroughLog 3 (some .boolean), Cond.methodLink RX0 38 yX0_writeBlocks, Cond.instanceMethod yX0_writeBlocks, Cond.selects RX0 yX0_writeBlocks yX0_writeBlocks, Cond.code yX0_writeBlocks cX0_writeBlocks 5 (some .boolean), Cond.methodLink RX0 62 yX1_setTo, Cond.methodLink RX0 42 yX0_bringLogHome, Cond.instanceMethod yX0_bringLogHome, Cond.selects RX0 yX0_bringLogHome yX0_bringLogHome, Cond.code yX0_bringLogHome cX0_bringLogHome 1 (some .boolean), Cond.methodLink RL 63 yX3_commit]
def wsL_law0_r14 : List Cond := [Cond.instanceMethod yX3_commit, Cond.selects RX3 yX3_commit yX3_commit, Cond.code yX3_commit cX3_commit 3 (some .int), Cond.methodLink RX3 81 yX3_goHome, Cond.instanceMethod yX3_goHome, Cond.selects RX3 yX3_goHome yX3_goHome, Cond.code yX3_goHome cX3_goHome 3 (some .boolean), Cond.methodLink RL 64 yX2_abort, Cond.instanceMethod yX2_abort, Cond.selects RX2 yX2_abort yX2_abort, Cond.code yX2_abort cX2_abort 1 (some .boolean), Cond.methodLink RL 67 yX3_abort, Cond.instanceMethod yX3_abort, Cond.selects RX3 yX3_abort yX3_abort, Cond.code yX3_abort cX3_abort 2 (some .boolean), Cond.methodLink RL 68 yX2_balanceSize, Cond.instanceMethod yX2_balanceSize, Cond.selects RX2 yX2_balanceSize yX2_balanceSize, Cond.code yX2_balanceSize cX2_balanceSize 2 (some .int), Cond.methodLink RL 71 yX3_balanceSize, Cond.instanceMethod yX3_balanceSize, Cond.selects RX3 yX3_balanceSize yX3_balanceSize, Cond.code yX3_balanceSize cX3_balanceSize 2 (some .int), Cond.methodLink RX3 107 yX3_size]
def wsL_law0_r15 : List Cond := [Cond.static yX3_size, Cond.code yX3_size cX3_size 3 (some .int), Cond.methodLink RL 72 yX2_balanceLimb, Cond.instanceMethod yX2_balanceLimb, Cond.selects RX2 yX2_balanceLimb yX2_balanceLimb, Cond.code yX2_balanceLimb cX2_balanceLimb 3 (some .int), Cond.methodLink RX2 136 yX1_limbAt, Cond.methodLink RL 75 yX3_balanceLimb, Cond.instanceMethod yX3_balanceLimb, Cond.selects RX3 yX3_balanceLimb yX3_balanceLimb, Cond.code yX3_balanceLimb cX3_balanceLimb 3 (some .int), Cond.methodLink RL 76 yX2_totalLimb, Cond.instanceMethod yX2_totalLimb, Cond.selects RX2 yX2_totalLimb yX2_totalLimb, Cond.code yX2_totalLimb cX2_totalLimb 2 (some .int), Cond.methodLink RL 79 yX3_totalLimb, Cond.instanceMethod yX3_totalLimb, Cond.selects RX3 yX3_totalLimb yX3_totalLimb, Cond.code yX3_totalLimb cX3_totalLimb 2 (some .int), Cond.methodLink RL 80 yX2_amount, Cond.instanceMethod yX2_amount, Cond.selects RX2 yX2_amount yX2_amount, Cond.code yX2_amount cX2_amount 2 (some .int), Cond.methodLink RL 83 yX3_amount]
def wsL_law0_r16 : List Cond := [Cond.instanceMethod yX3_amount, Cond.selects RX3 yX3_amount yX3_amount, Cond.code yX3_amount cX3_amount 2 (some .int), Cond.methodLink RL 84 yX2_compare, Cond.instanceMethod yX2_compare, Cond.selects RX2 yX2_compare yX2_compare, Cond.code yX2_compare cX2_compare 3 (some .int), Cond.methodLink RL 87 yX3_compare, Cond.instanceMethod yX3_compare, Cond.selects RX3 yX3_compare yX3_compare, Cond.code yX3_compare cX3_compare 3 (some .int), Cond.methodLink RL 88 yX2_stopAfter, Cond.instanceMethod yX2_stopAfter, Cond.selects RX2 yX2_stopAfter yX2_stopAfter, Cond.code yX2_stopAfter cX2_stopAfter 2 none, Cond.methodLink RL 92 yX3_stopAfter, Cond.instanceMethod yX3_stopAfter, Cond.selects RX3 yX3_stopAfter yX3_stopAfter, Cond.code yX3_stopAfter cX3_stopAfter 2 none, Cond.methodLink RL 93 yX2_recover, Cond.instanceMethod yX2_recover, Cond.selects RX2 yX2_recover yX2_recover, Cond.code yX2_recover cX2_recover 1 (some .boolean), Cond.methodLink RX2 149 yX0_bringLogHome]
def wsL_law0_r17 : List Cond := [Cond.methodLink RL 96 yX3_recover, Cond.instanceMethod yX3_recover, Cond.selects RX3 yX3_recover yX3_recover, Cond.code yX3_recover cX3_recover 1 (some .boolean), Cond.methodLink RL 97 yX2_write, Cond.instanceMethod yX2_write, Cond.selects RX2 yX2_write yX2_write, Cond.code yX2_write cX2_write 3 (some .int), Cond.fieldLink RX2 152 "BigLedger" "outLength" "I", Cond.methodLink RL 100 yX3_write, Cond.instanceMethod yX3_write, Cond.selects RX3 yX3_write yX3_write, Cond.code yX3_write cX3_write 6 (some .int), Cond.constantLong RX3 111 (10), Cond.constantLong RX3 113 (48), Cond.fieldLink RX3 115 "BigLedgerModel" "outMany" "I", Cond.methodLink RL 101 yL_octet, Cond.static yL_octet, Cond.codeWith yL_octet cL_octet 4 (some .int) [(0, 9, 12, 13)], Cond.classLink RL 13 "java/util/NoSuchElementException", Cond.methodLink RL 7 yX2_octet, Cond.instanceMethod yX2_octet, Cond.selects RX2 yX2_octet yX2_octet, Cond.code yX2_octet cX2_octet 2 (some .int)]
def wsL_law0_r18 : List Cond := [Cond.classLink RX2 155 "java/util/NoSuchElementException", Cond.initialized "java/util/NoSuchElementException", Cond.methodLink RL 104 yX3_octet, Cond.instanceMethod yX3_octet, Cond.selects RX3 yX3_octet yX3_octet, Cond.code yX3_octet cX3_octet 2 (some .int), Cond.methodLink RL 105 yX3_thrown, Cond.instanceMethod yX3_thrown, Cond.selects RX3 yX3_thrown yX3_thrown, Cond.code yX3_thrown cX3_thrown 1 (some .int), Cond.methodLink RL 108 yX2_count, Cond.instanceMethod yX2_count, Cond.selects RX2 yX2_count yX2_count, Cond.code yX2_count cX2_count 2 (some .int), Cond.methodLink RL 111 yX3_count, Cond.instanceMethod yX3_count, Cond.selects RX3 yX3_count yX3_count, Cond.code yX3_count cX3_count 2 (some .int)]
def wsL_law0 : List Cond := (wsL_law0_r1 ++ (wsL_law0_r2 ++ (wsL_law0_r3 ++ (wsL_law0_r4 ++ (wsL_law0_r5 ++ (wsL_law0_r6 ++ (wsL_law0_r7 ++ (wsL_law0_r8 ++ (wsL_law0_r9 ++ (wsL_law0_r10 ++ (wsL_law0_r11 ++ (wsL_law0_r12 ++ (wsL_law0_r13 ++ (wsL_law0_r14 ++ (wsL_law0_r15 ++ (wsL_law0_r16 ++ (wsL_law0_r17 ++ wsL_law0_r18))))))))))))))))) ++ wsX20 ++ wsX30 ++ wsX00 ++ wsX10 ++ ([] : List Cond)
def wsL_law : List Cond := wsL_law0 ++ oW.filter goodWord
theorem in_at {ws : List Cond} (ps : List Nat) (hp : ws = ps.filterMap (fun i => lw_tbl[i]?)) : ∀ w ∈ ws, w ∈ lw_tbl := by
  intro w hw
  rw [hp] at hw
  obtain ⟨i, -, hi⟩ := List.mem_filterMap.mp hw
  exact List.mem_of_getElem? hi
set_option maxRecDepth 20000 in
theorem wsL_in_0 : ∀ w ∈ wsL_law0_r1, w ∈ lw_tbl := in_at [37, 38, 27, 416, 417, 31, 604, 336, 337, 26, 338, 39, 40, 41, 42, 43, 44, 103, 104, 105, 54, 55, 29, 106] (by decide +kernel)
set_option maxRecDepth 20000 in
theorem wsL_in_1 : ∀ w ∈ wsL_law0_r2, w ∈ lw_tbl := in_at [107, 63, 65, 30, 109, 111, 137, 112, 45, 46, 47, 48, 49, 28, 50, 51, 52, 53, 56, 57, 58, 59, 79, 81] (by decide +kernel)
set_option maxRecDepth 20000 in
theorem wsL_in_2 : ∀ w ∈ wsL_law0_r3, w ∈ lw_tbl := in_at [87, 61, 62, 66, 67, 68, 69, 78, 70, 102, 418, 419, 420, 421, 426, 427, 428, 429, 430, 477, 431, 432, 437, 438] (by decide +kernel)
set_option maxRecDepth 20000 in
theorem wsL_in_3 : ∀ w ∈ wsL_law0_r4, w ∈ lw_tbl := in_at [423, 424, 425, 138, 139, 140, 141, 110, 142, 144, 0, 145, 146, 148, 1, 149, 108, 150, 151, 152, 153, 71, 154, 155] (by decide +kernel)
set_option maxRecDepth 20000 in
theorem wsL_in_4 : ∀ w ∈ wsL_law0_r5, w ∈ lw_tbl := in_at [156, 157, 158, 160, 2, 161, 83, 162, 164, 3, 165, 85, 166, 168, 4, 169, 82, 170, 172, 5, 173, 174, 478, 479] (by decide +kernel)
set_option maxRecDepth 20000 in
theorem wsL_in_5 : ∀ w ∈ wsL_law0_r6, w ∈ lw_tbl := in_at [480, 481, 422, 434, 433, 482, 484, 16, 485, 436, 486, 488, 17, 489, 490, 492, 18, 493, 494, 496, 19, 497, 435, 175] (by decide +kernel)
set_option maxRecDepth 20000 in
theorem wsL_in_6 : ∀ w ∈ wsL_law0_r7, w ∈ lw_tbl := in_at [176, 177, 178, 179, 180, 181, 182, 183, 185, 6, 186, 522, 523, 524, 525, 187, 188, 189, 190, 526, 527, 528, 529, 191] (by decide +kernel)
set_option maxRecDepth 20000 in
theorem wsL_in_7 : ∀ w ∈ wsL_law0_r8, w ∈ lw_tbl := in_at [192, 193, 194, 195, 197, 7, 198, 199, 201, 8, 202, 203, 205, 9, 206, 207, 208, 209, 210, 211, 212, 213, 214, 215] (by decide +kernel)
set_option maxRecDepth 20000 in
theorem wsL_in_8 : ∀ w ∈ wsL_law0_r9, w ∈ lw_tbl := in_at [216, 217, 218, 219, 220, 221, 222, 223, 225, 10, 226, 227, 229, 11, 230, 231, 232, 32, 233, 234, 235, 236, 237, 239] (by decide +kernel)
set_option maxRecDepth 20000 in
theorem wsL_in_9 : ∀ w ∈ wsL_law0_r10, w ∈ lw_tbl := in_at [12, 240, 530, 531, 532, 533, 534, 536, 22, 537, 538, 540, 23, 541, 542, 543, 545, 24, 546, 502, 504, 20, 505, 547] (by decide +kernel)
set_option maxRecDepth 20000 in
theorem wsL_in_10 : ∀ w ∈ wsL_law0_r11, w ∈ lw_tbl := in_at [549, 25, 550, 551, 241, 242, 243, 244, 245, 247, 13, 248, 249, 250, 251, 252, 253, 254, 255, 256, 257, 258, 259, 552] (by decide +kernel)
set_option maxRecDepth 20000 in
theorem wsL_in_11 : ∀ w ∈ wsL_law0_r12, w ∈ lw_tbl := in_at [553, 554, 555, 556, 557, 558, 260, 261, 262, 263, 559, 560, 561, 562, 264, 265, 266, 267, 268, 269, 270, 271, 272, 273] (by decide +kernel)
set_option maxRecDepth 20000 in
theorem wsL_in_12 : ∀ w ∈ wsL_law0_r13, w ∈ lw_tbl := in_at [274, 275, 563, 564, 565, 566, 276, 277, 278, 279, 280, 281, 282, 283, 284, 286, 14, 287, 289, 290, 291, 292, 293, 498] (by decide +kernel)
set_option maxRecDepth 20000 in
theorem wsL_in_13 : ∀ w ∈ wsL_law0_r14, w ∈ lw_tbl := in_at [499, 500, 501, 506, 508, 21, 509, 294, 295, 296, 297, 514, 515, 516, 517, 298, 299, 300, 301, 567, 568, 569, 570, 571] (by decide +kernel)
set_option maxRecDepth 20000 in
theorem wsL_in_14 : ∀ w ∈ wsL_law0_r15, w ∈ lw_tbl := in_at [572, 573, 302, 303, 304, 305, 306, 574, 575, 576, 577, 307, 308, 309, 310, 578, 579, 580, 581, 311, 312, 313, 314, 582] (by decide +kernel)
set_option maxRecDepth 20000 in
theorem wsL_in_15 : ∀ w ∈ wsL_law0_r16, w ∈ lw_tbl := in_at [583, 584, 585, 315, 316, 317, 318, 586, 587, 588, 589, 319, 320, 321, 322, 518, 519, 520, 521, 323, 324, 325, 326, 327] (by decide +kernel)
set_option maxRecDepth 20000 in
theorem wsL_in_16 : ∀ w ∈ wsL_law0_r17, w ∈ lw_tbl := in_at [510, 511, 512, 513, 328, 329, 330, 331, 113, 590, 591, 592, 593, 594, 595, 439, 339, 340, 341, 342, 343, 344, 345, 346] (by decide +kernel)
set_option maxRecDepth 20000 in
theorem wsL_in_17 : ∀ w ∈ wsL_law0_r18, w ∈ lw_tbl := in_at [347, 36, 596, 597, 598, 599, 412, 413, 414, 415, 332, 333, 334, 335, 600, 601, 602, 603] (by decide +kernel)
set_option maxRecDepth 20000 in
theorem wsL_in_18 : ∀ w ∈ wsX20, w ∈ lw_tbl := in_at [114, 116, 118, 120, 122, 124, 126, 128, 130, 132, 134] (by decide +kernel)
set_option maxRecDepth 20000 in
theorem wsL_in_19 : ∀ w ∈ wsX30, w ∈ lw_tbl := in_at [440, 442, 444, 446, 448, 450, 452, 454, 456, 458, 460, 462, 464, 466, 468, 470, 472, 474] (by decide +kernel)
set_option maxRecDepth 20000 in
theorem wsL_in_20 : ∀ w ∈ wsX00, w ∈ lw_tbl := in_at [89, 91, 93, 95, 97, 99] (by decide +kernel)
set_option maxRecDepth 20000 in
theorem wsL_in_21 : ∀ w ∈ wsX10, w ∈ lw_tbl := in_at [73, 75] (by decide +kernel)
set_option maxRecDepth 20000 in
theorem wsL_in_22 : ∀ w ∈ oW.filter goodWord, w ∈ lw_tbl := in_at [388, 389, 390, 391, 33, 369, 378, 380, 383, 385, 370, 371, 43, 44, 372, 377, 381, 401, 359, 402, 361, 403, 363, 373, 375, 365, 397, 398, 400, 365, 388, 391, 391, 392, 393, 394, 394, 395, 396, 397, 387, 348, 356, 357, 358, 360, 362, 364, 368, 367, 366] (by decide +kernel)
theorem in_app {a b : List Cond} (ha : ∀ w ∈ a, w ∈ lw_tbl) (hb : ∀ w ∈ b, w ∈ lw_tbl) : ∀ w ∈ a ++ b, w ∈ lw_tbl := fun w h => (List.mem_append.mp h).elim (ha w) (hb w)
theorem wsL_law_in : ∀ w ∈ wsL_law, w ∈ lw_tbl := in_app (in_app (in_app (in_app (in_app (in_app (in_app wsL_in_0 (in_app wsL_in_1 (in_app wsL_in_2 (in_app wsL_in_3 (in_app wsL_in_4 (in_app wsL_in_5 (in_app wsL_in_6 (in_app wsL_in_7 (in_app wsL_in_8 (in_app wsL_in_9 (in_app wsL_in_10 (in_app wsL_in_11 (in_app wsL_in_12 (in_app wsL_in_13 (in_app wsL_in_14 (in_app wsL_in_15 (in_app wsL_in_16 wsL_in_17))))))))))))))))) wsL_in_18) wsL_in_19) wsL_in_20) wsL_in_21) (fun _ h => absurd h List.not_mem_nil)) wsL_in_22
theorem inlX0 : ∀ w ∈ wsX00, w ∈ wsL_law := fun _ h => List.mem_append_left _ (List.mem_append_left _ (List.mem_append_left _ (List.mem_append_right _ h)))
theorem inX0 : ∀ w ∈ wsX00, w ∈ lw_tbl := fun w h => wsL_law_in w (inlX0 w h)
theorem inlX1 : ∀ w ∈ wsX10, w ∈ wsL_law := fun _ h => List.mem_append_left _ (List.mem_append_left _ (List.mem_append_right _ h))
theorem inX1 : ∀ w ∈ wsX10, w ∈ lw_tbl := fun w h => wsL_law_in w (inlX1 w h)
theorem inlX2 : ∀ w ∈ wsX20, w ∈ wsL_law := fun _ h => List.mem_append_left _ (List.mem_append_left _ (List.mem_append_left _ (List.mem_append_left _ (List.mem_append_left _ (List.mem_append_right _ h)))))
theorem inX2 : ∀ w ∈ wsX20, w ∈ lw_tbl := fun w h => wsL_law_in w (inlX2 w h)
theorem inlX3 : ∀ w ∈ wsX30, w ∈ wsL_law := fun _ h => List.mem_append_left _ (List.mem_append_left _ (List.mem_append_left _ (List.mem_append_left _ (List.mem_append_right _ h))))
theorem inX3 : ∀ w ∈ wsX30, w ∈ lw_tbl := fun w h => wsL_law_in w (inlX3 w h)
set_option maxRecDepth 20000 in
theorem ggL_law_L_cell : GoodIn wsL_law wsL_cell := goodIn_r _ [10] (by decide +kernel) (by decide +kernel)
set_option maxRecDepth 20000 in
theorem gL_law_L_cell : GoodIn wsL_law (va_wsS RL 15 yL_cell wsL_cell) := goodIn_app (goodIn_of _ (by decide +kernel)) ggL_law_L_cell
set_option maxRecDepth 20000 in
theorem ggL_law_X2_init : GoodIn wsL_law wsX2_init := goodIn_r _ [13, 14, 15, 16, 17, 18, 19, 20, 21, 22, 23, 24, 25, 26, 27, 28, 29, 30, 31, 32, 33, 2, 34, 35, 36, 37, 38, 39, 40, 41, 42, 43, 44, 45, 46, 47, 48, 49, 50, 51, 52, 53, 54, 55, 56, 57, 426, 427, 428, 429, 430, 431, 432, 433, 434, 435, 436, 455, 456, 457, 458, 459, 460, 461, 462] (by decide +kernel) (by decide +kernel)
set_option maxRecDepth 20000 in
theorem gL_law_X2_init : GoodIn wsL_law (wsX2_init) := ggL_law_X2_init
set_option maxRecDepth 20000 in
theorem ggL_law_X3_init : GoodIn wsL_law wsX3_init := goodIn_r _ [60, 61, 15, 16, 55, 62, 63, 64, 65, 66, 67, 68, 69, 70, 30, 71, 72, 73, 74, 437, 438, 439, 440, 441, 442, 443, 444, 445, 446, 447, 448, 449, 450, 451, 452, 453, 454] (by decide +kernel) (by decide +kernel)
set_option maxRecDepth 20000 in
theorem gL_law_X3_init : GoodIn wsL_law (wsX3_init) := ggL_law_X3_init
set_option maxRecDepth 20000 in
theorem ggL_law_X2_format : GoodIn wsL_law wsX2_format := goodIn_r _ [78, 23, 79, 80, 81, 82, 2, 83, 28, 84, 85, 86, 87, 88, 89, 90, 91, 27, 92, 56, 93, 94, 95, 96, 22, 97, 98, 99, 100, 101, 102, 103, 104, 105, 106, 48, 107, 108, 109, 110, 111, 112, 113, 114, 115, 116, 46, 117, 426, 427, 428, 429, 430, 431, 432, 433, 434, 435, 436, 461, 462, 455, 456, 457, 458, 459, 460] (by decide +kernel) (by decide +kernel)
set_option maxRecDepth 20000 in
theorem gL_law_X2_format : GoodIn wsL_law (wsV RL 27 RX2 yX2_format wsX2_format) := goodIn_app (goodIn_of _ (by decide +kernel)) ggL_law_X2_format
set_option maxRecDepth 20000 in
theorem ggL_law_X3_format : GoodIn wsL_law wsX3_format := goodIn_r _ [121, 122, 123, 72, 63, 124, 125, 126, 127, 5, 128, 70, 129, 130, 131, 132, 133, 134, 135, 136, 137, 65, 68, 62, 138, 139, 140, 141, 142, 437, 438, 439, 440, 441, 442, 443, 444, 445, 446, 447, 448, 449, 450, 451, 452, 453, 454] (by decide +kernel) (by decide +kernel)
set_option maxRecDepth 20000 in
theorem gL_law_X3_format : GoodIn wsL_law (wsV RL 31 RX3 yX3_format wsX3_format) := goodIn_app (goodIn_of _ (by decide +kernel)) ggL_law_X3_format
set_option maxRecDepth 20000 in
theorem ggL_law_X2_amountLimb : GoodIn wsL_law wsX2_amountLimb := goodIn_r _ [146, 79, 28, 18, 147, 148, 149, 27, 150, 56, 151, 152, 153, 154, 93, 426, 427, 428, 429, 430, 431, 432, 433, 434, 435, 436, 461, 462] (by decide +kernel) (by decide +kernel)
set_option maxRecDepth 20000 in
theorem gL_law_X2_amountLimb : GoodIn wsL_law (wsV RL 32 RX2 yX2_amountLimb wsX2_amountLimb) := goodIn_app (goodIn_of _ (by decide +kernel)) ggL_law_X2_amountLimb
set_option maxRecDepth 20000 in
theorem ggL_law_X3_amountLimb : GoodIn wsL_law wsX3_amountLimb := goodIn_r _ [158, 122, 124, 65, 73, 437, 438, 439, 440, 441, 442, 443, 444, 445, 446, 447, 448, 449, 450, 451, 452, 453, 454] (by decide +kernel) (by decide +kernel)
set_option maxRecDepth 20000 in
theorem gL_law_X3_amountLimb : GoodIn wsL_law (wsV RL 36 RX3 yX3_amountLimb wsX3_amountLimb) := goodIn_app (goodIn_of _ (by decide +kernel)) ggL_law_X3_amountLimb
set_option maxRecDepth 20000 in
theorem ggL_law_X2_clearAmount : GoodIn wsL_law wsX2_clearAmount := goodIn_r _ [162, 79, 28, 89, 90, 91, 27, 92, 56, 93, 426, 427, 428, 429, 430, 431, 432, 433, 434, 435, 436, 461, 462] (by decide +kernel) (by decide +kernel)
set_option maxRecDepth 20000 in
theorem gL_law_X2_clearAmount : GoodIn wsL_law (wsV RL 37 RX2 yX2_clearAmount wsX2_clearAmount) := goodIn_app (goodIn_of _ (by decide +kernel)) ggL_law_X2_clearAmount
set_option maxRecDepth 20000 in
theorem ggL_law_X3_clearAmount : GoodIn wsL_law wsX3_clearAmount := goodIn_r _ [166, 122, 124, 65, 437, 438, 439, 440, 441, 442, 443, 444, 445, 446, 447, 448, 449, 450, 451, 452, 453, 454] (by decide +kernel) (by decide +kernel)
set_option maxRecDepth 20000 in
theorem gL_law_X3_clearAmount : GoodIn wsL_law (wsV RL 40 RX3 yX3_clearAmount wsX3_clearAmount) := goodIn_app (goodIn_of _ (by decide +kernel)) ggL_law_X3_clearAmount
set_option maxRecDepth 20000 in
theorem ggL_law_X2_deposit : GoodIn wsL_law wsX2_deposit := goodIn_r _ [170, 79, 28, 171, 172, 173, 2, 174, 17, 175, 176, 177, 178, 29, 18, 179, 180, 181, 182, 88, 24, 23, 183, 184, 185, 186, 187, 188, 27, 189, 56, 190, 191, 192, 193, 93, 151, 152, 153, 154, 194, 195, 196, 197, 198, 199, 200, 201, 202, 203, 204, 205, 206, 19, 207, 208, 209, 210, 211, 212, 213, 214, 215, 216, 217, 426, 427, 428, 429, 430, 431, 432, 433, 434, 435, 436, 461, 462, 455, 456, 457, 458, 459, 460] (by decide +kernel) (by decide +kernel)
set_option maxRecDepth 20000 in
theorem gL_law_X2_deposit : GoodIn wsL_law (wsV RL 41 RX2 yX2_deposit wsX2_deposit) := goodIn_app (goodIn_of _ (by decide +kernel)) ggL_law_X2_deposit
set_option maxRecDepth 20000 in
theorem ggL_law_X3_deposit : GoodIn wsL_law wsX3_deposit := goodIn_r _ [221, 122, 124, 68, 222, 223, 224, 5, 225, 72, 226, 227, 228, 229, 73, 62, 65, 230, 231, 232, 233, 234, 74, 235, 236, 237, 238, 239, 240, 241, 242, 243, 437, 438, 439, 440, 441, 442, 443, 444, 445, 446, 447, 448, 449, 450, 451, 452, 453, 454] (by decide +kernel) (by decide +kernel)
set_option maxRecDepth 20000 in
theorem gL_law_X3_deposit : GoodIn wsL_law (wsV RL 44 RX3 yX3_deposit wsX3_deposit) := goodIn_app (goodIn_of _ (by decide +kernel)) ggL_law_X3_deposit
set_option maxRecDepth 20000 in
theorem ggL_law_X2_withdraw : GoodIn wsL_law wsX2_withdraw := goodIn_r _ [247, 79, 28, 171, 172, 173, 2, 174, 17, 248, 249, 250, 251, 179, 180, 181, 182, 88, 24, 23, 183, 184, 185, 252, 253, 254, 27, 255, 56, 190, 191, 192, 193, 93, 256, 257, 209, 258, 199, 200, 201, 202, 203, 204, 205, 206, 19, 207, 208, 210, 211, 212, 213, 214, 215, 216, 217, 186, 187, 188, 189, 151, 152, 153, 154, 259, 260, 261, 262, 198, 426, 427, 428, 429, 430, 431, 432, 433, 434, 435, 436, 455, 456, 457, 458, 459, 460, 461, 462] (by decide +kernel) (by decide +kernel)
set_option maxRecDepth 20000 in
theorem gL_law_X2_withdraw : GoodIn wsL_law (wsV RL 45 RX2 yX2_withdraw wsX2_withdraw) := goodIn_app (goodIn_of _ (by decide +kernel)) ggL_law_X2_withdraw
set_option maxRecDepth 20000 in
theorem ggL_law_X3_withdraw : GoodIn wsL_law wsX3_withdraw := goodIn_r _ [266, 122, 124, 65, 62, 68, 222, 223, 224, 5, 225, 72, 267, 268, 269, 231, 232, 233, 234, 74, 235, 236, 237, 238, 239, 240, 241, 242, 243, 230, 437, 438, 439, 440, 441, 442, 443, 444, 445, 446, 447, 448, 449, 450, 451, 452, 453, 454] (by decide +kernel) (by decide +kernel)
set_option maxRecDepth 20000 in
theorem gL_law_X3_withdraw : GoodIn wsL_law (wsV RL 48 RX3 yX3_withdraw wsX3_withdraw) := goodIn_app (goodIn_of _ (by decide +kernel)) ggL_law_X3_withdraw
set_option maxRecDepth 20000 in
theorem ggL_law_X2_transfer : GoodIn wsL_law wsX2_transfer := goodIn_r _ [273, 79, 28, 171, 172, 173, 2, 174, 17, 248, 249, 250, 251, 179, 180, 181, 182, 88, 24, 23, 183, 184, 185, 252, 253, 254, 27, 255, 56, 190, 191, 192, 193, 93, 256, 257, 209, 258, 175, 176, 177, 178, 29, 18, 186, 187, 188, 189, 151, 152, 153, 154, 194, 195, 196, 197, 198, 203, 204, 205, 206, 19, 207, 208, 210, 211, 212, 213, 214, 215, 216, 217, 259, 260, 261, 262, 426, 427, 428, 429, 430, 431, 432, 433, 434, 435, 436, 455, 456, 457, 458, 459, 460, 461, 462] (by decide +kernel) (by decide +kernel)
set_option maxRecDepth 20000 in
theorem gL_law_X2_transfer : GoodIn wsL_law (wsV RL 49 RX2 yX2_transfer wsX2_transfer) := goodIn_app (goodIn_of _ (by decide +kernel)) ggL_law_X2_transfer
set_option maxRecDepth 20000 in
theorem ggL_law_X3_transfer : GoodIn wsL_law wsX3_transfer := goodIn_r _ [277, 122, 124, 65, 62, 68, 222, 223, 224, 5, 225, 72, 267, 268, 269, 226, 227, 228, 229, 73, 230, 231, 232, 233, 234, 74, 235, 236, 237, 238, 239, 240, 241, 242, 243, 437, 438, 439, 440, 441, 442, 443, 444, 445, 446, 447, 448, 449, 450, 451, 452, 453, 454] (by decide +kernel) (by decide +kernel)
set_option maxRecDepth 20000 in
theorem gL_law_X3_transfer : GoodIn wsL_law (wsV RL 53 RX3 yX3_transfer wsX3_transfer) := goodIn_app (goodIn_of _ (by decide +kernel)) ggL_law_X3_transfer
set_option maxRecDepth 20000 in
theorem ggL_law_X2_part : GoodIn wsL_law wsX2_part := goodIn_r _ [281, 79, 28, 171, 172, 173, 2, 174, 17, 179, 180, 181, 182, 88, 24, 23, 183, 184, 185, 186, 187, 188, 27, 189, 56, 190, 191, 192, 193, 93, 151, 152, 153, 154, 282, 283, 284, 285, 198, 286, 287, 288, 289, 426, 427, 428, 429, 430, 431, 432, 433, 434, 435, 436, 455, 456, 457, 458, 459, 460, 461, 462] (by decide +kernel) (by decide +kernel)
set_option maxRecDepth 20000 in
theorem gL_law_X2_part : GoodIn wsL_law (wsV RL 54 RX2 yX2_part wsX2_part) := goodIn_app (goodIn_of _ (by decide +kernel)) ggL_law_X2_part
set_option maxRecDepth 20000 in
theorem ggL_law_X3_part : GoodIn wsL_law wsX3_part := goodIn_r _ [293, 122, 124, 62, 66, 230, 65, 222, 223, 224, 5, 225, 72, 437, 438, 439, 440, 441, 442, 443, 444, 445, 446, 447, 448, 449, 450, 451, 452, 453, 454] (by decide +kernel) (by decide +kernel)
set_option maxRecDepth 20000 in
theorem gL_law_X3_part : GoodIn wsL_law (wsV RL 58 RX3 yX3_part wsX3_part) := goodIn_app (goodIn_of _ (by decide +kernel)) ggL_law_X3_part
set_option maxRecDepth 20000 in
theorem ggL_law_X2_commit : GoodIn wsL_law wsX2_commit := goodIn_r _ [297, 79, 23, 88, 24, 298, 299, 300, 22, 301, 47, 302, 303, 304, 305, 184, 2, 185, 103, 104, 105, 106, 48, 107, 306, 187, 188, 27, 189, 56, 190, 191, 192, 193, 93, 151, 152, 153, 154, 108, 109, 110, 111, 112, 307, 308, 309, 310, 46, 80, 81, 82, 83, 28, 84, 85, 86, 87, 89, 90, 91, 92, 426, 427, 428, 429, 430, 431, 432, 433, 434, 435, 436, 455, 456, 457, 458, 459, 460, 461, 462] (by decide +kernel) (by decide +kernel)
set_option maxRecDepth 20000 in
theorem gL_law_X2_commit : GoodIn wsL_law (wsV RL 59 RX2 yX2_commit wsX2_commit) := goodIn_app (goodIn_of _ (by decide +kernel)) ggL_law_X2_commit
set_option maxRecDepth 20000 in
theorem ggL_law_X3_commit : GoodIn wsL_law wsX3_commit := goodIn_r _ [314, 122, 124, 69, 68, 64, 62, 142, 235, 236, 237, 5, 238, 125, 126, 127, 128, 70, 129, 130, 131, 132, 133, 134, 135, 136, 137, 65, 63, 315, 316, 317, 318, 138, 139, 140, 141, 437, 438, 439, 440, 441, 442, 443, 444, 445, 446, 447, 448, 449, 450, 451, 452, 453, 454] (by decide +kernel) (by decide +kernel)
set_option maxRecDepth 20000 in
theorem gL_law_X3_commit : GoodIn wsL_law (wsV RL 63 RX3 yX3_commit wsX3_commit) := goodIn_app (goodIn_of _ (by decide +kernel)) ggL_law_X3_commit
set_option maxRecDepth 20000 in
theorem ggL_law_X2_abort : GoodIn wsL_law wsX2_abort := goodIn_r _ [322, 79, 84, 85, 86, 2, 87, 88, 426, 427, 428, 429, 430, 431, 432, 433, 434, 435, 436] (by decide +kernel) (by decide +kernel)
set_option maxRecDepth 20000 in
theorem gL_law_X2_abort : GoodIn wsL_law (wsV RL 64 RX2 yX2_abort wsX2_abort) := goodIn_app (goodIn_of _ (by decide +kernel)) ggL_law_X2_abort
set_option maxRecDepth 20000 in
theorem ggL_law_X3_abort : GoodIn wsL_law wsX3_abort := goodIn_r _ [326, 122, 124, 68, 62, 63, 437, 438, 439, 440, 441, 442, 443, 444, 445, 446, 447, 448, 449, 450, 451, 452, 453, 454] (by decide +kernel) (by decide +kernel)
set_option maxRecDepth 20000 in
theorem gL_law_X3_abort : GoodIn wsL_law (wsV RL 67 RX3 yX3_abort wsX3_abort) := goodIn_app (goodIn_of _ (by decide +kernel)) ggL_law_X3_abort
set_option maxRecDepth 20000 in
theorem ggL_law_X2_balanceSize : GoodIn wsL_law wsX2_balanceSize := goodIn_r _ [330, 79, 171, 172, 173, 2, 174, 17, 179, 180, 181, 182, 88, 24, 23, 183, 184, 185, 426, 427, 428, 429, 430, 431, 432, 433, 434, 435, 436, 461, 462, 455, 456, 457, 458, 459, 460] (by decide +kernel) (by decide +kernel)
set_option maxRecDepth 20000 in
theorem gL_law_X2_balanceSize : GoodIn wsL_law (wsV RL 68 RX2 yX2_balanceSize wsX2_balanceSize) := goodIn_app (goodIn_of _ (by decide +kernel)) ggL_law_X2_balanceSize
set_option maxRecDepth 20000 in
theorem ggL_law_X3_balanceSize : GoodIn wsL_law wsX3_balanceSize := goodIn_r _ [334, 122, 124, 62, 222, 223, 224, 5, 225, 72, 335, 336, 337, 437, 438, 439, 440, 441, 442, 443, 444, 445, 446, 447, 448, 449, 450, 451, 452, 453, 454] (by decide +kernel) (by decide +kernel)
set_option maxRecDepth 20000 in
theorem gL_law_X3_balanceSize : GoodIn wsL_law (wsV RL 71 RX3 yX3_balanceSize wsX3_balanceSize) := goodIn_app (goodIn_of _ (by decide +kernel)) ggL_law_X3_balanceSize
set_option maxRecDepth 20000 in
theorem ggL_law_X2_balanceLimb : GoodIn wsL_law wsX2_balanceLimb := goodIn_r _ [341, 79, 171, 172, 173, 2, 174, 17, 179, 180, 181, 182, 88, 24, 23, 183, 184, 185, 342, 191, 192, 27, 193, 93, 56, 426, 427, 428, 429, 430, 431, 432, 433, 434, 435, 436, 455, 456, 457, 458, 459, 460, 461, 462] (by decide +kernel) (by decide +kernel)
set_option maxRecDepth 20000 in
theorem gL_law_X2_balanceLimb : GoodIn wsL_law (wsV RL 72 RX2 yX2_balanceLimb wsX2_balanceLimb) := goodIn_app (goodIn_of _ (by decide +kernel)) ggL_law_X2_balanceLimb
set_option maxRecDepth 20000 in
theorem ggL_law_X3_balanceLimb : GoodIn wsL_law wsX3_balanceLimb := goodIn_r _ [346, 122, 124, 62, 222, 223, 224, 5, 225, 72, 437, 438, 439, 440, 441, 442, 443, 444, 445, 446, 447, 448, 449, 450, 451, 452, 453, 454] (by decide +kernel) (by decide +kernel)
set_option maxRecDepth 20000 in
theorem gL_law_X3_balanceLimb : GoodIn wsL_law (wsV RL 75 RX3 yX3_balanceLimb wsX3_balanceLimb) := goodIn_app (goodIn_of _ (by decide +kernel)) ggL_law_X3_balanceLimb
set_option maxRecDepth 20000 in
theorem ggL_law_X2_totalLimb : GoodIn wsL_law wsX2_totalLimb := goodIn_r _ [350, 79, 199, 200, 201, 2, 202, 17, 179, 180, 181, 182, 88, 24, 23, 183, 184, 185, 342, 191, 192, 27, 193, 93, 56, 426, 427, 428, 429, 430, 431, 432, 433, 434, 435, 436, 455, 456, 457, 458, 459, 460, 461, 462] (by decide +kernel) (by decide +kernel)
set_option maxRecDepth 20000 in
theorem gL_law_X2_totalLimb : GoodIn wsL_law (wsV RL 76 RX2 yX2_totalLimb wsX2_totalLimb) := goodIn_app (goodIn_of _ (by decide +kernel)) ggL_law_X2_totalLimb
set_option maxRecDepth 20000 in
theorem ggL_law_X3_totalLimb : GoodIn wsL_law wsX3_totalLimb := goodIn_r _ [354, 122, 124, 62, 437, 438, 439, 440, 441, 442, 443, 444, 445, 446, 447, 448, 449, 450, 451, 452, 453, 454] (by decide +kernel) (by decide +kernel)
set_option maxRecDepth 20000 in
theorem gL_law_X3_totalLimb : GoodIn wsL_law (wsV RL 79 RX3 yX3_totalLimb wsX3_totalLimb) := goodIn_app (goodIn_of _ (by decide +kernel)) ggL_law_X3_totalLimb
set_option maxRecDepth 20000 in
theorem ggL_law_X2_amount : GoodIn wsL_law wsX2_amount := goodIn_r _ [358, 79, 28, 342, 191, 192, 27, 193, 93, 56, 426, 427, 428, 429, 430, 431, 432, 433, 434, 435, 436, 461, 462] (by decide +kernel) (by decide +kernel)
set_option maxRecDepth 20000 in
theorem gL_law_X2_amount : GoodIn wsL_law (wsV RL 80 RX2 yX2_amount wsX2_amount) := goodIn_app (goodIn_of _ (by decide +kernel)) ggL_law_X2_amount
set_option maxRecDepth 20000 in
theorem ggL_law_X3_amount : GoodIn wsL_law wsX3_amount := goodIn_r _ [362, 122, 124, 65, 437, 438, 439, 440, 441, 442, 443, 444, 445, 446, 447, 448, 449, 450, 451, 452, 453, 454] (by decide +kernel) (by decide +kernel)
set_option maxRecDepth 20000 in
theorem gL_law_X3_amount : GoodIn wsL_law (wsV RL 83 RX3 yX3_amount wsX3_amount) := goodIn_app (goodIn_of _ (by decide +kernel)) ggL_law_X3_amount
set_option maxRecDepth 20000 in
theorem ggL_law_X2_compare : GoodIn wsL_law wsX2_compare := goodIn_r _ [366, 79, 171, 172, 173, 2, 174, 17, 179, 180, 181, 182, 88, 24, 23, 183, 184, 185, 252, 253, 254, 27, 255, 56, 190, 191, 192, 193, 93, 256, 257, 209, 258, 426, 427, 428, 429, 430, 431, 432, 433, 434, 435, 436, 455, 456, 457, 458, 459, 460, 461, 462] (by decide +kernel) (by decide +kernel)
set_option maxRecDepth 20000 in
theorem gL_law_X2_compare : GoodIn wsL_law (wsV RL 84 RX2 yX2_compare wsX2_compare) := goodIn_app (goodIn_of _ (by decide +kernel)) ggL_law_X2_compare
set_option maxRecDepth 20000 in
theorem ggL_law_X3_compare : GoodIn wsL_law wsX3_compare := goodIn_r _ [370, 122, 124, 62, 222, 223, 224, 5, 225, 72, 267, 268, 269, 437, 438, 439, 440, 441, 442, 443, 444, 445, 446, 447, 448, 449, 450, 451, 452, 453, 454] (by decide +kernel) (by decide +kernel)
set_option maxRecDepth 20000 in
theorem gL_law_X3_compare : GoodIn wsL_law (wsV RL 87 RX3 yX3_compare wsX3_compare) := goodIn_app (goodIn_of _ (by decide +kernel)) ggL_law_X3_compare
set_option maxRecDepth 20000 in
theorem ggL_law_X2_stopAfter : GoodIn wsL_law wsX2_stopAfter := goodIn_r _ [374, 23, 426, 427, 428, 429, 430, 431, 432, 433, 434, 435, 436, 455, 456, 457, 458, 459, 460] (by decide +kernel) (by decide +kernel)
set_option maxRecDepth 20000 in
theorem gL_law_X2_stopAfter : GoodIn wsL_law (wsV RL 88 RX2 yX2_stopAfter wsX2_stopAfter) := goodIn_app (goodIn_of _ (by decide +kernel)) ggL_law_X2_stopAfter
set_option maxRecDepth 20000 in
theorem ggL_law_X3_stopAfter : GoodIn wsL_law wsX3_stopAfter := goodIn_r _ [378, 122, 70, 437, 438, 439, 440, 441, 442, 443, 444, 445, 446, 447, 448, 449, 450, 451, 452, 453, 454] (by decide +kernel) (by decide +kernel)
set_option maxRecDepth 20000 in
theorem gL_law_X3_stopAfter : GoodIn wsL_law (wsV RL 92 RX3 yX3_stopAfter wsX3_stopAfter) := goodIn_app (goodIn_of _ (by decide +kernel)) ggL_law_X3_stopAfter
set_option maxRecDepth 20000 in
theorem ggL_law_X2_recover : GoodIn wsL_law wsX2_recover := goodIn_r _ [382, 23, 79, 80, 81, 82, 2, 83, 28, 84, 85, 86, 87, 88, 89, 90, 91, 27, 92, 56, 93, 383, 308, 309, 22, 310, 112, 46, 47, 302, 303, 304, 305, 184, 185, 103, 104, 105, 106, 48, 107, 306, 187, 188, 189, 190, 191, 192, 193, 151, 152, 153, 154, 108, 109, 110, 111, 426, 427, 428, 429, 430, 431, 432, 433, 434, 435, 436, 455, 456, 457, 458, 459, 460, 461, 462] (by decide +kernel) (by decide +kernel)
set_option maxRecDepth 20000 in
theorem gL_law_X2_recover : GoodIn wsL_law (wsV RL 93 RX2 yX2_recover wsX2_recover) := goodIn_app (goodIn_of _ (by decide +kernel)) ggL_law_X2_recover
set_option maxRecDepth 20000 in
theorem ggL_law_X3_recover : GoodIn wsL_law wsX3_recover := goodIn_r _ [387, 122, 123, 142, 124, 130, 131, 132, 5, 133, 134, 135, 136, 137, 65, 68, 62, 63, 315, 316, 317, 318, 69, 64, 125, 126, 127, 128, 70, 129, 138, 139, 140, 141, 437, 438, 439, 440, 441, 442, 443, 444, 445, 446, 447, 448, 449, 450, 451, 452, 453, 454] (by decide +kernel) (by decide +kernel)
set_option maxRecDepth 20000 in
theorem gL_law_X3_recover : GoodIn wsL_law (wsV RL 96 RX3 yX3_recover wsX3_recover) := goodIn_app (goodIn_of _ (by decide +kernel)) ggL_law_X3_recover
set_option maxRecDepth 20000 in
theorem ggL_law_X2_write : GoodIn wsL_law wsX2_write := goodIn_r _ [391, 79, 29, 31, 392, 171, 172, 173, 2, 174, 17, 179, 180, 181, 182, 88, 24, 23, 183, 184, 185, 186, 187, 188, 27, 189, 56, 190, 191, 192, 193, 93, 151, 152, 153, 154, 286, 287, 288, 289, 426, 427, 428, 429, 430, 431, 432, 433, 434, 435, 436, 461, 462, 455, 456, 457, 458, 459, 460] (by decide +kernel) (by decide +kernel)
set_option maxRecDepth 20000 in
theorem gL_law_X2_write : GoodIn wsL_law (wsV RL 97 RX2 yX2_write wsX2_write) := goodIn_app (goodIn_of _ (by decide +kernel)) ggL_law_X2_write
set_option maxRecDepth 20000 in
theorem ggL_law_X3_write : GoodIn wsL_law wsX3_write := goodIn_r _ [396, 122, 124, 66, 62, 230, 397, 71, 398, 399, 222, 223, 224, 5, 225, 72, 335, 336, 337, 437, 438, 439, 440, 441, 442, 443, 444, 445, 446, 447, 448, 449, 450, 451, 452, 453, 454] (by decide +kernel) (by decide +kernel)
set_option maxRecDepth 20000 in
theorem gL_law_X3_write : GoodIn wsL_law (wsV RL 100 RX3 yX3_write wsX3_write) := goodIn_app (goodIn_of _ (by decide +kernel)) ggL_law_X3_write
set_option maxRecDepth 20000 in
theorem ggL_law_L_octet : GoodIn wsL_law wsL_octet := goodIn_ca (goodIn_r _ [402, 403, 404, 405, 406, 2, 407, 408, 409, 392, 31, 426, 427, 428, 429, 430, 431, 432, 433, 434, 435, 436] (by decide +kernel) (by decide +kernel)) (goodIn_sub (fun _ h => List.mem_append_right _ h) (by decide +kernel))
set_option maxRecDepth 20000 in
theorem gL_law_L_octet : GoodIn wsL_law (va_wsS RL 101 yL_octet wsL_octet) := goodIn_app (goodIn_of _ (by decide +kernel)) ggL_law_L_octet
set_option maxRecDepth 20000 in
theorem ggL_law_X3_octet : GoodIn wsL_law wsX3_octet := goodIn_r _ [413, 399, 122, 71, 437, 438, 439, 440, 441, 442, 443, 444, 445, 446, 447, 448, 449, 450, 451, 452, 453, 454] (by decide +kernel) (by decide +kernel)
set_option maxRecDepth 20000 in
theorem gL_law_X3_octet : GoodIn wsL_law (wsV RL 104 RX3 yX3_octet wsX3_octet) := goodIn_app (goodIn_of _ (by decide +kernel)) ggL_law_X3_octet
set_option maxRecDepth 20000 in
theorem ggL_law_X3_thrown : GoodIn wsL_law wsX3_thrown := goodIn_r _ [417, 122, 437, 438, 439, 440, 441, 442, 443, 444, 445, 446, 447, 448, 449, 450, 451, 452, 453, 454] (by decide +kernel) (by decide +kernel)
set_option maxRecDepth 20000 in
theorem gL_law_X3_thrown : GoodIn wsL_law (wsV RL 105 RX3 yX3_thrown wsX3_thrown) := goodIn_app (goodIn_of _ (by decide +kernel)) ggL_law_X3_thrown
set_option maxRecDepth 20000 in
theorem ggL_law_X2_count : GoodIn wsL_law wsX2_count := goodIn_r _ [421, 17, 18, 19, 23, 79, 88, 28, 207, 208, 209, 210, 211, 212, 213, 199, 200, 201, 2, 202, 179, 180, 181, 182, 24, 183, 184, 185, 426, 427, 428, 429, 430, 431, 432, 433, 434, 435, 436, 455, 456, 457, 458, 459, 460, 461, 462] (by decide +kernel) (by decide +kernel)
set_option maxRecDepth 20000 in
theorem gL_law_X2_count : GoodIn wsL_law (wsV RL 108 RX2 yX2_count wsX2_count) := goodIn_app (goodIn_of _ (by decide +kernel)) ggL_law_X2_count
set_option maxRecDepth 20000 in
theorem ggL_law_X3_count : GoodIn wsL_law wsX3_count := goodIn_r _ [425, 122, 72, 73, 74, 129, 124, 70, 62, 65, 235, 236, 237, 5, 238, 68, 335, 336, 337, 437, 438, 439, 440, 441, 442, 443, 444, 445, 446, 447, 448, 449, 450, 451, 452, 453, 454] (by decide +kernel) (by decide +kernel)
set_option maxRecDepth 20000 in
theorem gL_law_X3_count : GoodIn wsL_law (wsV RL 111 RX3 yX3_count wsX3_count) := goodIn_app (goodIn_of _ (by decide +kernel)) ggL_law_X3_count
