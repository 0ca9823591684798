theorem dX2_count_97 : decode cX2_count 97 = .ok (.getfield 28, 3) := by decide +kernel
theorem dX2_count_100 : decode cX2_count 100 = .ok (.getfield 143, 3) := by decide +kernel
theorem dX2_count_103 : decode cX2_count 103 = .ok (.ireturn, 1) := by decide +kernel
theorem dX2_count_104 : decode cX2_count 104 = .ok (.aload_n 0, 1) := by decide +kernel
theorem dX2_count_105 : decode cX2_count 105 = .ok (.getfield 71, 3) := by decide +kernel
theorem dX2_count_108 : decode cX2_count 108 = .ok (.ifCond .eq 17, 3) := by decide +kernel
theorem dX2_count_111 : decode cX2_count 111 = .ok (.aload_n 0, 1) := by decide +kernel
theorem dX2_count_112 : decode cX2_count 112 = .ok (.aload_n 0, 1) := by decide +kernel
theorem dX2_count_113 : decode cX2_count 113 = .ok (.invokevirtual 91, 3) := by decide +kernel
theorem dX2_count_116 : decode cX2_count 116 = .ok (.invokevirtual 113, 3) := by decide +kernel
theorem dX2_count_119 : decode cX2_count 119 = .ok (.getfield 75, 3) := by decide +kernel
theorem dX2_count_122 : decode cX2_count 122 = .ok (.goto 4, 3) := by decide +kernel
theorem dX2_count_125 : decode cX2_count 125 = .ok (.iconst 0, 1) := by decide +kernel
theorem dX2_count_126 : decode cX2_count 126 = .ok (.ireturn, 1) := by decide +kernel
theorem dX2_count_127 : decode cX2_count 127 = .ok (.aload_n 0, 1) := by decide +kernel
theorem dX2_count_128 : decode cX2_count 128 = .ok (.getfield 45, 3) := by decide +kernel
theorem dX2_count_131 : decode cX2_count 131 = .ok (.getfield 75, 3) := by decide +kernel
theorem dX2_count_134 : decode cX2_count 134 = .ok (.ireturn, 1) := by decide +kernel
theorem dX2_count_135 : decode cX2_count 135 = .ok (.iconst (-1), 1) := by decide +kernel
theorem dX2_count_136 : decode cX2_count 136 = .ok (.ireturn, 1) := by decide +kernel
theorem dX2_isAccount_0 : decode cX2_isAccount 0 = .ok (.iload_n 1, 1) := by decide +kernel
theorem dX2_isAccount_1 : decode cX2_isAccount 1 = .ok (.ifCond .lt 15, 3) := by decide +kernel
theorem dX2_isAccount_4 : decode cX2_isAccount 4 = .ok (.iload_n 1, 1) := by decide +kernel
theorem dX2_isAccount_5 : decode cX2_isAccount 5 = .ok (.aload_n 0, 1) := by decide +kernel
theorem dX2_isAccount_6 : decode cX2_isAccount 6 = .ok (.getfield 13, 3) := by decide +kernel
theorem dX2_isAccount_9 : decode cX2_isAccount 9 = .ok (.if_icmp .ge 7, 3) := by decide +kernel
theorem dX2_isAccount_12 : decode cX2_isAccount 12 = .ok (.iconst 1, 1) := by decide +kernel
theorem dX2_isAccount_13 : decode cX2_isAccount 13 = .ok (.goto 4, 3) := by decide +kernel
theorem dX2_isAccount_16 : decode cX2_isAccount 16 = .ok (.iconst 0, 1) := by decide +kernel
theorem dX2_isAccount_17 : decode cX2_isAccount 17 = .ok (.ireturn, 1) := by decide +kernel
theorem dX2_totalBlock_0 : decode cX2_totalBlock 0 = .ok (.aload_n 0, 1) := by decide +kernel
theorem dX2_totalBlock_1 : decode cX2_totalBlock 1 = .ok (.getfield 13, 3) := by decide +kernel
theorem dX2_totalBlock_4 : decode cX2_totalBlock 4 = .ok (.ireturn, 1) := by decide +kernel
theorem dX2_has_0 : decode cX2_has 0 = .ok (.iload_n 0, 1) := by decide +kernel
theorem dX2_has_1 : decode cX2_has 1 = .ok (.iconst 1, 1) := by decide +kernel
theorem dX2_has_2 : decode cX2_has 2 = .ok (.iload_n 1, 1) := by decide +kernel
theorem dX2_has_3 : decode cX2_has 3 = .ok (.ishl, 1) := by decide +kernel
theorem dX2_has_4 : decode cX2_has 4 = .ok (.iand, 1) := by decide +kernel
theorem dX2_has_5 : decode cX2_has 5 = .ok (.ifCond .eq 7, 3) := by decide +kernel
theorem dX2_has_8 : decode cX2_has 8 = .ok (.iconst 1, 1) := by decide +kernel
theorem dX2_has_9 : decode cX2_has 9 = .ok (.goto 4, 3) := by decide +kernel
theorem dX2_has_12 : decode cX2_has 12 = .ok (.iconst 0, 1) := by decide +kernel
theorem dX2_has_13 : decode cX2_has 13 = .ok (.ireturn, 1) := by decide +kernel
theorem dX2_seen_0 : decode cX2_seen 0 = .ok (.aload_n 0, 1) := by decide +kernel
theorem dX2_seen_1 : decode cX2_seen 1 = .ok (.getfield 126, 3) := by decide +kernel
theorem dX2_seen_4 : decode cX2_seen 4 = .ok (.iload_n 1, 1) := by decide +kernel
theorem dX2_seen_5 : decode cX2_seen 5 = .ok (.invokestatic 170, 3) := by decide +kernel
theorem dX2_seen_8 : decode cX2_seen 8 = .ok (.ifCond .eq 12, 3) := by decide +kernel
theorem dX2_seen_11 : decode cX2_seen 11 = .ok (.aload_n 0, 1) := by decide +kernel
theorem dX2_seen_12 : decode cX2_seen 12 = .ok (.getfield 36, 3) := by decide +kernel
theorem dX2_seen_15 : decode cX2_seen 15 = .ok (.iload_n 1, 1) := by decide +kernel
theorem dX2_seen_16 : decode cX2_seen 16 = .ok (.aaload, 1) := by decide +kernel
theorem dX2_seen_17 : decode cX2_seen 17 = .ok (.goto 12, 3) := by decide +kernel
theorem dX2_seen_20 : decode cX2_seen 20 = .ok (.aload_n 0, 1) := by decide +kernel
theorem dX2_seen_21 : decode cX2_seen 21 = .ok (.getfield 28, 3) := by decide +kernel
theorem dX2_seen_24 : decode cX2_seen 24 = .ok (.getfield 173, 3) := by decide +kernel
theorem dX2_seen_27 : decode cX2_seen 27 = .ok (.iload_n 1, 1) := by decide +kernel
theorem dX2_seen_28 : decode cX2_seen 28 = .ok (.aaload, 1) := by decide +kernel
theorem dX2_seen_29 : decode cX2_seen 29 = .ok (.areturn, 1) := by decide +kernel
theorem dX2_touch_0 : decode cX2_touch 0 = .ok (.aload_n 0, 1) := by decide +kernel
theorem dX2_touch_1 : decode cX2_touch 1 = .ok (.getfield 126, 3) := by decide +kernel
theorem dX2_touch_4 : decode cX2_touch 4 = .ok (.iload_n 1, 1) := by decide +kernel
theorem dX2_touch_5 : decode cX2_touch 5 = .ok (.invokestatic 170, 3) := by decide +kernel
theorem dX2_touch_8 : decode cX2_touch 8 = .ok (.ifCond .ne 33, 3) := by decide +kernel
theorem dX2_touch_11 : decode cX2_touch 11 = .ok (.aload_n 0, 1) := by decide +kernel
theorem dX2_touch_12 : decode cX2_touch 12 = .ok (.getfield 36, 3) := by decide +kernel
theorem dX2_touch_15 : decode cX2_touch 15 = .ok (.iload_n 1, 1) := by decide +kernel
theorem dX2_touch_16 : decode cX2_touch 16 = .ok (.aaload, 1) := by decide +kernel
theorem dX2_touch_17 : decode cX2_touch 17 = .ok (.aload_n 0, 1) := by decide +kernel
theorem dX2_touch_18 : decode cX2_touch 18 = .ok (.getfield 28, 3) := by decide +kernel
theorem dX2_touch_21 : decode cX2_touch 21 = .ok (.getfield 173, 3) := by decide +kernel
theorem dX2_touch_24 : decode cX2_touch 24 = .ok (.iload_n 1, 1) := by decide +kernel
theorem dX2_touch_25 : decode cX2_touch 25 = .ok (.aaload, 1) := by decide +kernel
theorem dX2_touch_26 : decode cX2_touch 26 = .ok (.invokevirtual 116, 3) := by decide +kernel
theorem dX2_touch_29 : decode cX2_touch 29 = .ok (.aload_n 0, 1) := by decide +kernel
theorem dX2_touch_30 : decode cX2_touch 30 = .ok (.dup, 1) := by decide +kernel
theorem dX2_touch_31 : decode cX2_touch 31 = .ok (.getfield 126, 3) := by decide +kernel
theorem dX2_touch_34 : decode cX2_touch 34 = .ok (.iconst 1, 1) := by decide +kernel
theorem dX2_touch_35 : decode cX2_touch 35 = .ok (.iload_n 1, 1) := by decide +kernel
theorem dX2_touch_36 : decode cX2_touch 36 = .ok (.ishl, 1) := by decide +kernel
theorem dX2_touch_37 : decode cX2_touch 37 = .ok (.ior, 1) := by decide +kernel
theorem dX2_touch_38 : decode cX2_touch 38 = .ok (.putfield 126, 3) := by decide +kernel
theorem dX2_touch_41 : decode cX2_touch 41 = .ok (.aload_n 0, 1) := by decide +kernel
theorem dX2_touch_42 : decode cX2_touch 42 = .ok (.getfield 36, 3) := by decide +kernel
theorem dX2_touch_45 : decode cX2_touch 45 = .ok (.iload_n 1, 1) := by decide +kernel
theorem dX2_touch_46 : decode cX2_touch 46 = .ok (.aaload, 1) := by decide +kernel
theorem dX2_touch_47 : decode cX2_touch 47 = .ok (.areturn, 1) := by decide +kernel
theorem dX2_hasRoomFor_0 : decode cX2_hasRoomFor 0 = .ok (.aload_n 0, 1) := by decide +kernel
theorem dX2_hasRoomFor_1 : decode cX2_hasRoomFor 1 = .ok (.getfield 126, 3) := by decide +kernel
theorem dX2_hasRoomFor_4 : decode cX2_hasRoomFor 4 = .ok (.iconst 1, 1) := by decide +kernel
theorem dX2_hasRoomFor_5 : decode cX2_hasRoomFor 5 = .ok (.iload_n 1, 1) := by decide +kernel
theorem dX2_hasRoomFor_6 : decode cX2_hasRoomFor 6 = .ok (.ishl, 1) := by decide +kernel
theorem dX2_hasRoomFor_7 : decode cX2_hasRoomFor 7 = .ok (.ior, 1) := by decide +kernel
theorem dX2_hasRoomFor_8 : decode cX2_hasRoomFor 8 = .ok (.iconst 1, 1) := by decide +kernel
theorem dX2_hasRoomFor_9 : decode cX2_hasRoomFor 9 = .ok (.iload_n 2, 1) := by decide +kernel
theorem dX2_hasRoomFor_10 : decode cX2_hasRoomFor 10 = .ok (.ishl, 1) := by decide +kernel
theorem dX2_hasRoomFor_11 : decode cX2_hasRoomFor 11 = .ok (.ior, 1) := by decide +kernel
theorem dX2_hasRoomFor_12 : decode cX2_hasRoomFor 12 = .ok (.invokestatic 165, 3) := by decide +kernel
theorem dX2_hasRoomFor_15 : decode cX2_hasRoomFor 15 = .ok (.aload_n 0, 1) := by decide +kernel
theorem dX2_hasRoomFor_16 : decode cX2_hasRoomFor 16 = .ok (.getfield 20, 3) := by decide +kernel
theorem dX2_hasRoomFor_19 : decode cX2_hasRoomFor 19 = .ok (.if_icmp .gt 7, 3) := by decide +kernel
theorem dX2_hasRoomFor_22 : decode cX2_hasRoomFor 22 = .ok (.iconst 1, 1) := by decide +kernel
theorem dX2_hasRoomFor_23 : decode cX2_hasRoomFor 23 = .ok (.goto 4, 3) := by decide +kernel
theorem dX2_hasRoomFor_26 : decode cX2_hasRoomFor 26 = .ok (.iconst 0, 1) := by decide +kernel
theorem dX2_hasRoomFor_27 : decode cX2_hasRoomFor 27 = .ok (.ireturn, 1) := by decide +kernel
theorem dX2_isAmountAbove_0 : decode cX2_isAmountAbove 0 = .ok (.aload_n 0, 1) := by decide +kernel
theorem dX2_isAmountAbove_1 : decode cX2_isAmountAbove 1 = .ok (.getfield 45, 3) := by decide +kernel
theorem dX2_isAmountAbove_4 : decode cX2_isAmountAbove 4 = .ok (.aload_n 0, 1) := by decide +kernel
theorem dX2_isAmountAbove_5 : decode cX2_isAmountAbove 5 = .ok (.iload_n 1, 1) := by decide +kernel
theorem dX2_isAmountAbove_6 : decode cX2_isAmountAbove 6 = .ok (.invokevirtual 113, 3) := by decide +kernel
theorem dX2_isAmountAbove_9 : decode cX2_isAmountAbove 9 = .ok (.invokevirtual 139, 3) := by decide +kernel
theorem dX2_isAmountAbove_12 : decode cX2_isAmountAbove 12 = .ok (.ifCond .le 7, 3) := by decide +kernel
theorem dX2_isAmountAbove_15 : decode cX2_isAmountAbove 15 = .ok (.iconst 1, 1) := by decide +kernel
theorem dX2_isAmountAbove_16 : decode cX2_isAmountAbove 16 = .ok (.goto 4, 3) := by decide +kernel
theorem dX2_isAmountAbove_19 : decode cX2_isAmountAbove 19 = .ok (.iconst 0, 1) := by decide +kernel
theorem dX2_isAmountAbove_20 : decode cX2_isAmountAbove 20 = .ok (.ireturn, 1) := by decide +kernel
theorem dX2_wouldBeTooGreat_0 : decode cX2_wouldBeTooGreat 0 = .ok (.aload_n 0, 1) := by decide +kernel
theorem dX2_wouldBeTooGreat_1 : decode cX2_wouldBeTooGreat 1 = .ok (.getfield 49, 3) := by decide +kernel
theorem dX2_wouldBeTooGreat_4 : decode cX2_wouldBeTooGreat 4 = .ok (.aload_n 0, 1) := by decide +kernel
theorem dX2_wouldBeTooGreat_5 : decode cX2_wouldBeTooGreat 5 = .ok (.iload_n 1, 1) := by decide +kernel
theorem dX2_wouldBeTooGreat_6 : decode cX2_wouldBeTooGreat 6 = .ok (.invokevirtual 113, 3) := by decide +kernel
theorem dX2_wouldBeTooGreat_9 : decode cX2_wouldBeTooGreat 9 = .ok (.invokevirtual 116, 3) := by decide +kernel
theorem dX2_wouldBeTooGreat_12 : decode cX2_wouldBeTooGreat 12 = .ok (.aload_n 0, 1) := by decide +kernel
theorem dX2_wouldBeTooGreat_13 : decode cX2_wouldBeTooGreat 13 = .ok (.getfield 49, 3) := by decide +kernel
theorem dX2_wouldBeTooGreat_16 : decode cX2_wouldBeTooGreat 16 = .ok (.aload_n 0, 1) := by decide +kernel
theorem dX2_wouldBeTooGreat_17 : decode cX2_wouldBeTooGreat 17 = .ok (.getfield 45, 3) := by decide +kernel
theorem dX2_wouldBeTooGreat_20 : decode cX2_wouldBeTooGreat 20 = .ok (.invokevirtual 103, 3) := by decide +kernel
theorem dX2_wouldBeTooGreat_23 : decode cX2_wouldBeTooGreat 23 = .ok (.aload_n 0, 1) := by decide +kernel
theorem dX2_wouldBeTooGreat_24 : decode cX2_wouldBeTooGreat 24 = .ok (.getfield 49, 3) := by decide +kernel
theorem dX2_wouldBeTooGreat_27 : decode cX2_wouldBeTooGreat 27 = .ok (.getfield 75, 3) := by decide +kernel
theorem dX2_wouldBeTooGreat_30 : decode cX2_wouldBeTooGreat 30 = .ok (.aload_n 0, 1) := by decide +kernel
theorem dX2_wouldBeTooGreat_31 : decode cX2_wouldBeTooGreat 31 = .ok (.getfield 17, 3) := by decide +kernel
theorem dX2_wouldBeTooGreat_34 : decode cX2_wouldBeTooGreat 34 = .ok (.if_icmp .le 7, 3) := by decide +kernel
theorem dX2_wouldBeTooGreat_37 : decode cX2_wouldBeTooGreat 37 = .ok (.iconst 1, 1) := by decide +kernel
theorem dX2_wouldBeTooGreat_38 : decode cX2_wouldBeTooGreat 38 = .ok (.goto 4, 3) := by decide +kernel
theorem dX2_wouldBeTooGreat_41 : decode cX2_wouldBeTooGreat 41 = .ok (.iconst 0, 1) := by decide +kernel
theorem dX2_wouldBeTooGreat_42 : decode cX2_wouldBeTooGreat 42 = .ok (.ireturn, 1) := by decide +kernel
theorem dX2_dropPending_0 : decode cX2_dropPending 0 = .ok (.aload_n 0, 1) := by decide +kernel
theorem dX2_dropPending_1 : decode cX2_dropPending 1 = .ok (.iconst 0, 1) := by decide +kernel
theorem dX2_dropPending_2 : decode cX2_dropPending 2 = .ok (.putfield 126, 3) := by decide +kernel
theorem dX2_dropPending_5 : decode cX2_dropPending 5 = .ok (.return_, 1) := by decide +kernel
theorem dX2_loseMemory_0 : decode cX2_loseMemory 0 = .ok (.aload_n 0, 1) := by decide +kernel
theorem dX2_loseMemory_1 : decode cX2_loseMemory 1 = .ok (.invokevirtual 133, 3) := by decide +kernel
theorem dX2_loseMemory_4 : decode cX2_loseMemory 4 = .ok (.aload_n 0, 1) := by decide +kernel
theorem dX2_loseMemory_5 : decode cX2_loseMemory 5 = .ok (.getfield 45, 3) := by decide +kernel
theorem dX2_loseMemory_8 : decode cX2_loseMemory 8 = .ok (.invokevirtual 81, 3) := by decide +kernel
theorem dX2_loseMemory_11 : decode cX2_loseMemory 11 = .ok (.return_, 1) := by decide +kernel
theorem dX3_thrown_0 : decode cX3_thrown 0 = .ok (.aload_n 0, 1) := by decide +kernel
theorem dX3_thrown_1 : decode cX3_thrown 1 = .ok (.getfield 1, 3) := by decide +kernel
theorem dX3_thrown_4 : decode cX3_thrown 4 = .ok (.ireturn, 1) := by decide +kernel
theorem dX3_init_0 : decode cX3_init 0 = .ok (.aload_n 0, 1) := by decide +kernel
theorem dX3_init_1 : decode cX3_init 1 = .ok (.invokespecial 7, 3) := by decide +kernel
theorem dX3_init_4 : decode cX3_init 4 = .ok (.aload_n 0, 1) := by decide +kernel
theorem dX3_init_5 : decode cX3_init 5 = .ok (.sipush 550, 3) := by decide +kernel
theorem dX3_init_8 : decode cX3_init 8 = .ok (.newarray .int, 2) := by decide +kernel
theorem dX3_init_10 : decode cX3_init 10 = .ok (.putfield 13, 3) := by decide +kernel
theorem dX3_init_13 : decode cX3_init 13 = .ok (.aload_n 0, 1) := by decide +kernel
theorem dX3_init_14 : decode cX3_init 14 = .ok (.sipush 550, 3) := by decide +kernel
theorem dX3_init_17 : decode cX3_init 17 = .ok (.newarray .int, 2) := by decide +kernel
theorem dX3_init_19 : decode cX3_init 19 = .ok (.putfield 17, 3) := by decide +kernel
theorem dX3_init_22 : decode cX3_init 22 = .ok (.aload_n 0, 1) := by decide +kernel
theorem dX3_init_23 : decode cX3_init 23 = .ok (.sipush 550, 3) := by decide +kernel
theorem dX3_init_26 : decode cX3_init 26 = .ok (.newarray .int, 2) := by decide +kernel
theorem dX3_init_28 : decode cX3_init 28 = .ok (.putfield 20, 3) := by decide +kernel
theorem dX3_init_31 : decode cX3_init 31 = .ok (.aload_n 0, 1) := by decide +kernel
theorem dX3_init_32 : decode cX3_init 32 = .ok (.bipush 22, 2) := by decide +kernel
theorem dX3_init_34 : decode cX3_init 34 = .ok (.newarray .int, 2) := by decide +kernel
theorem dX3_init_36 : decode cX3_init 36 = .ok (.putfield 23, 3) := by decide +kernel
theorem dX3_init_39 : decode cX3_init 39 = .ok (.aload_n 0, 1) := by decide +kernel
theorem dX3_init_40 : decode cX3_init 40 = .ok (.bipush 44, 2) := by decide +kernel
theorem dX3_init_42 : decode cX3_init 42 = .ok (.newarray .int, 2) := by decide +kernel
theorem dX3_init_44 : decode cX3_init 44 = .ok (.putfield 26, 3) := by decide +kernel
theorem dX3_init_47 : decode cX3_init 47 = .ok (.aload_n 0, 1) := by decide +kernel
theorem dX3_init_48 : decode cX3_init 48 = .ok (.bipush 25, 2) := by decide +kernel
theorem dX3_init_50 : decode cX3_init 50 = .ok (.newarray .boolean, 2) := by decide +kernel
theorem dX3_init_52 : decode cX3_init 52 = .ok (.putfield 29, 3) := by decide +kernel
theorem dX3_init_55 : decode cX3_init 55 = .ok (.aload_n 0, 1) := by decide +kernel
theorem dX3_init_56 : decode cX3_init 56 = .ok (.bipush 25, 2) := by decide +kernel
theorem dX3_init_58 : decode cX3_init 58 = .ok (.newarray .boolean, 2) := by decide +kernel
theorem dX3_init_60 : decode cX3_init 60 = .ok (.putfield 33, 3) := by decide +kernel
theorem dX3_init_63 : decode cX3_init 63 = .ok (.aload_n 0, 1) := by decide +kernel
theorem dX3_init_64 : decode cX3_init 64 = .ok (.iconst (-1), 1) := by decide +kernel
theorem dX3_init_65 : decode cX3_init 65 = .ok (.putfield 36, 3) := by decide +kernel
theorem dX3_init_68 : decode cX3_init 68 = .ok (.aload_n 0, 1) := by decide +kernel
theorem dX3_init_69 : decode cX3_init 69 = .ok (.sipush 300, 3) := by decide +kernel
theorem dX3_init_72 : decode cX3_init 72 = .ok (.newarray .byte, 2) := by decide +kernel
theorem dX3_init_74 : decode cX3_init 74 = .ok (.putfield 39, 3) := by decide +kernel
theorem dX3_init_77 : decode cX3_init 77 = .ok (.aload_n 0, 1) := by decide +kernel
theorem dX3_init_78 : decode cX3_init 78 = .ok (.iload_n 1, 1) := by decide +kernel
theorem dX3_init_79 : decode cX3_init 79 = .ok (.iconst 1, 1) := by decide +kernel
theorem dX3_init_80 : decode cX3_init 80 = .ok (.if_icmp .ge 7, 3) := by decide +kernel
theorem dX3_init_83 : decode cX3_init 83 = .ok (.iconst 1, 1) := by decide +kernel
theorem dX3_init_84 : decode cX3_init 84 = .ok (.goto 15, 3) := by decide +kernel
theorem dX3_init_87 : decode cX3_init 87 = .ok (.iload_n 1, 1) := by decide +kernel
theorem dX3_init_88 : decode cX3_init 88 = .ok (.bipush 24, 2) := by decide +kernel
theorem dX3_init_90 : decode cX3_init 90 = .ok (.if_icmp .le 8, 3) := by decide +kernel
theorem dX3_init_93 : decode cX3_init 93 = .ok (.bipush 24, 2) := by decide +kernel
theorem dX3_init_95 : decode cX3_init 95 = .ok (.goto 4, 3) := by decide +kernel
theorem dX3_init_98 : decode cX3_init 98 = .ok (.iload_n 1, 1) := by decide +kernel
theorem dX3_init_99 : decode cX3_init 99 = .ok (.putfield 43, 3) := by decide +kernel
theorem dX3_init_102 : decode cX3_init 102 = .ok (.aload_n 0, 1) := by decide +kernel
theorem dX3_init_103 : decode cX3_init 103 = .ok (.iload_n 2, 1) := by decide +kernel
theorem dX3_init_104 : decode cX3_init 104 = .ok (.iconst 1, 1) := by decide +kernel
theorem dX3_init_105 : decode cX3_init 105 = .ok (.if_icmp .ge 7, 3) := by decide +kernel
theorem dX3_init_108 : decode cX3_init 108 = .ok (.iconst 1, 1) := by decide +kernel
theorem dX3_init_109 : decode cX3_init 109 = .ok (.goto 15, 3) := by decide +kernel
theorem dX3_init_112 : decode cX3_init 112 = .ok (.iload_n 2, 1) := by decide +kernel
theorem dX3_init_113 : decode cX3_init 113 = .ok (.bipush 20, 2) := by decide +kernel
theorem dX3_init_115 : decode cX3_init 115 = .ok (.if_icmp .le 8, 3) := by decide +kernel
theorem dX3_init_118 : decode cX3_init 118 = .ok (.bipush 20, 2) := by decide +kernel
theorem dX3_init_120 : decode cX3_init 120 = .ok (.goto 4, 3) := by decide +kernel
theorem dX3_init_123 : decode cX3_init 123 = .ok (.iload_n 2, 1) := by decide +kernel
theorem dX3_init_124 : decode cX3_init 124 = .ok (.putfield 46, 3) := by decide +kernel
theorem dX3_init_127 : decode cX3_init 127 = .ok (.aload_n 0, 1) := by decide +kernel
theorem dX3_init_128 : decode cX3_init 128 = .ok (.iload_n 3, 1) := by decide +kernel
theorem dX3_init_129 : decode cX3_init 129 = .ok (.iconst 1, 1) := by decide +kernel
theorem dX3_init_130 : decode cX3_init 130 = .ok (.if_icmp .ge 7, 3) := by decide +kernel
theorem dX3_init_133 : decode cX3_init 133 = .ok (.iconst 1, 1) := by decide +kernel
theorem dX3_init_134 : decode cX3_init 134 = .ok (.goto 15, 3) := by decide +kernel
theorem dX3_init_137 : decode cX3_init 137 = .ok (.iload_n 3, 1) := by decide +kernel
theorem dX3_init_138 : decode cX3_init 138 = .ok (.bipush 25, 2) := by decide +kernel
theorem dX3_init_140 : decode cX3_init 140 = .ok (.if_icmp .le 8, 3) := by decide +kernel
theorem dX3_init_143 : decode cX3_init 143 = .ok (.bipush 25, 2) := by decide +kernel
theorem dX3_init_145 : decode cX3_init 145 = .ok (.goto 4, 3) := by decide +kernel
theorem dX3_init_148 : decode cX3_init 148 = .ok (.iload_n 3, 1) := by decide +kernel
theorem dX3_init_149 : decode cX3_init 149 = .ok (.putfield 49, 3) := by decide +kernel
theorem dX3_init_152 : decode cX3_init 152 = .ok (.return_, 1) := by decide +kernel
theorem dX3_down_0 : decode cX3_down 0 = .ok (.aload_n 0, 1) := by decide +kernel
theorem dX3_down_1 : decode cX3_down 1 = .ok (.iconst 0, 1) := by decide +kernel
theorem dX3_down_2 : decode cX3_down 2 = .ok (.putfield 52, 3) := by decide +kernel
theorem dX3_down_5 : decode cX3_down 5 = .ok (.aload_n 0, 1) := by decide +kernel
theorem dX3_down_6 : decode cX3_down 6 = .ok (.invokevirtual 56, 3) := by decide +kernel
theorem dX3_down_9 : decode cX3_down 9 = .ok (.return_, 1) := by decide +kernel
theorem dX3_forget_0 : decode cX3_forget 0 = .ok (.iconst 0, 1) := by decide +kernel
theorem dX3_forget_1 : decode cX3_forget 1 = .ok (.istore_n 1, 1) := by decide +kernel
theorem dX3_forget_2 : decode cX3_forget 2 = .ok (.iload_n 1, 1) := by decide +kernel
theorem dX3_forget_3 : decode cX3_forget 3 = .ok (.bipush 22, 2) := by decide +kernel
theorem dX3_forget_5 : decode cX3_forget 5 = .ok (.if_icmp .ge 16, 3) := by decide +kernel
theorem dX3_forget_8 : decode cX3_forget 8 = .ok (.aload_n 0, 1) := by decide +kernel
theorem dX3_forget_9 : decode cX3_forget 9 = .ok (.getfield 23, 3) := by decide +kernel
theorem dX3_forget_12 : decode cX3_forget 12 = .ok (.iload_n 1, 1) := by decide +kernel
theorem dX3_forget_13 : decode cX3_forget 13 = .ok (.iconst 0, 1) := by decide +kernel
theorem dX3_forget_14 : decode cX3_forget 14 = .ok (.iastore, 1) := by decide +kernel
theorem dX3_forget_15 : decode cX3_forget 15 = .ok (.iinc 1 1, 3) := by decide +kernel
theorem dX3_forget_18 : decode cX3_forget 18 = .ok (.goto (-16), 3) := by decide +kernel
theorem dX3_forget_21 : decode cX3_forget 21 = .ok (.iconst 0, 1) := by decide +kernel
theorem dX3_forget_22 : decode cX3_forget 22 = .ok (.istore_n 1, 1) := by decide +kernel
theorem dX3_forget_23 : decode cX3_forget 23 = .ok (.iload_n 1, 1) := by decide +kernel
theorem dX3_forget_24 : decode cX3_forget 24 = .ok (.bipush 25, 2) := by decide +kernel
theorem dX3_forget_26 : decode cX3_forget 26 = .ok (.if_icmp .ge 16, 3) := by decide +kernel
theorem dX3_forget_29 : decode cX3_forget 29 = .ok (.aload_n 0, 1) := by decide +kernel
theorem dX3_forget_30 : decode cX3_forget 30 = .ok (.getfield 29, 3) := by decide +kernel
theorem dX3_forget_33 : decode cX3_forget 33 = .ok (.iload_n 1, 1) := by decide +kernel
theorem dX3_forget_34 : decode cX3_forget 34 = .ok (.iconst 0, 1) := by decide +kernel
theorem dX3_forget_35 : decode cX3_forget 35 = .ok (.bastore, 1) := by decide +kernel
theorem dX3_forget_36 : decode cX3_forget 36 = .ok (.iinc 1 1, 3) := by decide +kernel
theorem dX3_forget_39 : decode cX3_forget 39 = .ok (.goto (-16), 3) := by decide +kernel
theorem dX3_forget_42 : decode cX3_forget 42 = .ok (.iconst 0, 1) := by decide +kernel
theorem dX3_forget_43 : decode cX3_forget 43 = .ok (.istore_n 1, 1) := by decide +kernel
theorem dX3_forget_44 : decode cX3_forget 44 = .ok (.iload_n 1, 1) := by decide +kernel
theorem dX3_forget_45 : decode cX3_forget 45 = .ok (.sipush 550, 3) := by decide +kernel
theorem dX3_forget_48 : decode cX3_forget 48 = .ok (.if_icmp .ge 21, 3) := by decide +kernel
theorem dX3_forget_51 : decode cX3_forget 51 = .ok (.aload_n 0, 1) := by decide +kernel
theorem dX3_forget_52 : decode cX3_forget 52 = .ok (.getfield 13, 3) := by decide +kernel
theorem dX3_forget_55 : decode cX3_forget 55 = .ok (.iload_n 1, 1) := by decide +kernel
theorem dX3_forget_56 : decode cX3_forget 56 = .ok (.aload_n 0, 1) := by decide +kernel
theorem dX3_forget_57 : decode cX3_forget 57 = .ok (.getfield 17, 3) := by decide +kernel
theorem dX3_forget_60 : decode cX3_forget 60 = .ok (.iload_n 1, 1) := by decide +kernel
theorem dX3_forget_61 : decode cX3_forget 61 = .ok (.iaload, 1) := by decide +kernel
theorem dX3_forget_62 : decode cX3_forget 62 = .ok (.iastore, 1) := by decide +kernel
theorem dX3_forget_63 : decode cX3_forget 63 = .ok (.iinc 1 1, 3) := by decide +kernel
theorem dX3_forget_66 : decode cX3_forget 66 = .ok (.goto (-22), 3) := by decide +kernel
theorem dX3_forget_69 : decode cX3_forget 69 = .ok (.return_, 1) := by decide +kernel
theorem dX3_writes_0 : decode cX3_writes 0 = .ok (.aload_n 0, 1) := by decide +kernel
theorem dX3_writes_1 : decode cX3_writes 1 = .ok (.getfield 36, 3) := by decide +kernel
theorem dX3_writes_4 : decode cX3_writes 4 = .ok (.ifCond .ne 14, 3) := by decide +kernel
theorem dX3_writes_7 : decode cX3_writes 7 = .ok (.aload_n 0, 1) := by decide +kernel
theorem dX3_writes_8 : decode cX3_writes 8 = .ok (.iconst (-1), 1) := by decide +kernel
theorem dX3_writes_9 : decode cX3_writes 9 = .ok (.putfield 36, 3) := by decide +kernel
theorem dX3_writes_12 : decode cX3_writes 12 = .ok (.aload_n 0, 1) := by decide +kernel
theorem dX3_writes_13 : decode cX3_writes 13 = .ok (.invokevirtual 59, 3) := by decide +kernel
theorem dX3_writes_16 : decode cX3_writes 16 = .ok (.iconst 0, 1) := by decide +kernel
theorem dX3_writes_17 : decode cX3_writes 17 = .ok (.ireturn, 1) := by decide +kernel
theorem dX3_writes_18 : decode cX3_writes 18 = .ok (.aload_n 0, 1) := by decide +kernel
theorem dX3_writes_19 : decode cX3_writes 19 = .ok (.getfield 36, 3) := by decide +kernel
theorem dX3_writes_22 : decode cX3_writes 22 = .ok (.ifCond .le 13, 3) := by decide +kernel
theorem dX3_writes_25 : decode cX3_writes 25 = .ok (.aload_n 0, 1) := by decide +kernel
theorem dX3_writes_26 : decode cX3_writes 26 = .ok (.dup, 1) := by decide +kernel
theorem dX3_writes_27 : decode cX3_writes 27 = .ok (.getfield 36, 3) := by decide +kernel
theorem dX3_writes_30 : decode cX3_writes 30 = .ok (.iconst 1, 1) := by decide +kernel
theorem dX3_writes_31 : decode cX3_writes 31 = .ok (.isub, 1) := by decide +kernel
theorem dX3_writes_32 : decode cX3_writes 32 = .ok (.putfield 36, 3) := by decide +kernel
theorem dX3_writes_35 : decode cX3_writes 35 = .ok (.aload_n 0, 1) := by decide +kernel
theorem dX3_writes_36 : decode cX3_writes 36 = .ok (.dup, 1) := by decide +kernel
theorem dX3_writes_37 : decode cX3_writes 37 = .ok (.getfield 62, 3) := by decide +kernel
theorem dX3_writes_40 : decode cX3_writes 40 = .ok (.iconst 1, 1) := by decide +kernel
theorem dX3_writes_41 : decode cX3_writes 41 = .ok (.iadd, 1) := by decide +kernel
theorem dX3_writes_42 : decode cX3_writes 42 = .ok (.putfield 62, 3) := by decide +kernel
theorem dX3_writes_45 : decode cX3_writes 45 = .ok (.iconst 1, 1) := by decide +kernel
theorem dX3_writes_46 : decode cX3_writes 46 = .ok (.ireturn, 1) := by decide +kernel
theorem dX3_emptyLog_0 : decode cX3_emptyLog 0 = .ok (.aload_n 0, 1) := by decide +kernel
theorem dX3_emptyLog_1 : decode cX3_emptyLog 1 = .ok (.invokevirtual 65, 3) := by decide +kernel
theorem dX3_emptyLog_4 : decode cX3_emptyLog 4 = .ok (.ifCond .ne 5, 3) := by decide +kernel
theorem dX3_emptyLog_7 : decode cX3_emptyLog 7 = .ok (.iconst 0, 1) := by decide +kernel
theorem dX3_emptyLog_8 : decode cX3_emptyLog 8 = .ok (.ireturn, 1) := by decide +kernel
theorem dX3_emptyLog_9 : decode cX3_emptyLog 9 = .ok (.aload_n 0, 1) := by decide +kernel
theorem dX3_emptyLog_10 : decode cX3_emptyLog 10 = .ok (.iconst 0, 1) := by decide +kernel
theorem dX3_emptyLog_11 : decode cX3_emptyLog 11 = .ok (.putfield 68, 3) := by decide +kernel
theorem dX3_emptyLog_14 : decode cX3_emptyLog 14 = .ok (.iconst 1, 1) := by decide +kernel
theorem dX3_emptyLog_15 : decode cX3_emptyLog 15 = .ok (.ireturn, 1) := by decide +kernel
theorem dX3_goHome_0 : decode cX3_goHome 0 = .ok (.iconst 0, 1) := by decide +kernel
theorem dX3_goHome_1 : decode cX3_goHome 1 = .ok (.istore_n 1, 1) := by decide +kernel
theorem dX3_goHome_2 : decode cX3_goHome 2 = .ok (.iload_n 1, 1) := by decide +kernel
theorem dX3_goHome_3 : decode cX3_goHome 3 = .ok (.bipush 25, 2) := by decide +kernel
theorem dX3_goHome_5 : decode cX3_goHome 5 = .ok (.if_icmp .ge 66, 3) := by decide +kernel
theorem dX3_goHome_8 : decode cX3_goHome 8 = .ok (.aload_n 0, 1) := by decide +kernel
theorem dX3_goHome_9 : decode cX3_goHome 9 = .ok (.getfield 33, 3) := by decide +kernel
theorem dX3_goHome_12 : decode cX3_goHome 12 = .ok (.iload_n 1, 1) := by decide +kernel
theorem dX3_goHome_13 : decode cX3_goHome 13 = .ok (.baload, 1) := by decide +kernel
theorem dX3_goHome_14 : decode cX3_goHome 14 = .ok (.ifCond .ne 6, 3) := by decide +kernel
theorem dX3_goHome_17 : decode cX3_goHome 17 = .ok (.goto 48, 3) := by decide +kernel
theorem dX3_goHome_20 : decode cX3_goHome 20 = .ok (.aload_n 0, 1) := by decide +kernel
theorem dX3_goHome_21 : decode cX3_goHome 21 = .ok (.invokevirtual 65, 3) := by decide +kernel
theorem dX3_goHome_24 : decode cX3_goHome 24 = .ok (.ifCond .ne 5, 3) := by decide +kernel
theorem dX3_goHome_27 : decode cX3_goHome 27 = .ok (.iconst 0, 1) := by decide +kernel
theorem dX3_goHome_28 : decode cX3_goHome 28 = .ok (.ireturn, 1) := by decide +kernel
theorem dX3_goHome_29 : decode cX3_goHome 29 = .ok (.iconst 0, 1) := by decide +kernel
theorem dX3_goHome_30 : decode cX3_goHome 30 = .ok (.istore_n 2, 1) := by decide +kernel
theorem dX3_goHome_31 : decode cX3_goHome 31 = .ok (.iload_n 2, 1) := by decide +kernel
theorem dX3_goHome_32 : decode cX3_goHome 32 = .ok (.bipush 22, 2) := by decide +kernel
theorem dX3_goHome_34 : decode cX3_goHome 34 = .ok (.if_icmp .ge 31, 3) := by decide +kernel
theorem dX3_goHome_37 : decode cX3_goHome 37 = .ok (.aload_n 0, 1) := by decide +kernel
theorem dX3_goHome_38 : decode cX3_goHome 38 = .ok (.getfield 17, 3) := by decide +kernel
theorem dX3_goHome_41 : decode cX3_goHome 41 = .ok (.bipush 22, 2) := by decide +kernel
theorem dX3_goHome_43 : decode cX3_goHome 43 = .ok (.iload_n 1, 1) := by decide +kernel
theorem dX3_goHome_44 : decode cX3_goHome 44 = .ok (.imul, 1) := by decide +kernel
theorem dX3_goHome_45 : decode cX3_goHome 45 = .ok (.iload_n 2, 1) := by decide +kernel
theorem dX3_goHome_46 : decode cX3_goHome 46 = .ok (.iadd, 1) := by decide +kernel
theorem dX3_goHome_47 : decode cX3_goHome 47 = .ok (.aload_n 0, 1) := by decide +kernel
theorem dX3_goHome_48 : decode cX3_goHome 48 = .ok (.getfield 20, 3) := by decide +kernel
theorem dX3_goHome_51 : decode cX3_goHome 51 = .ok (.bipush 22, 2) := by decide +kernel
theorem dX3_goHome_53 : decode cX3_goHome 53 = .ok (.iload_n 1, 1) := by decide +kernel
theorem dX3_goHome_54 : decode cX3_goHome 54 = .ok (.imul, 1) := by decide +kernel
theorem dX3_goHome_55 : decode cX3_goHome 55 = .ok (.iload_n 2, 1) := by decide +kernel
theorem dX3_goHome_56 : decode cX3_goHome 56 = .ok (.iadd, 1) := by decide +kernel
theorem dX3_goHome_57 : decode cX3_goHome 57 = .ok (.iaload, 1) := by decide +kernel
theorem dX3_goHome_58 : decode cX3_goHome 58 = .ok (.iastore, 1) := by decide +kernel
theorem dX3_goHome_59 : decode cX3_goHome 59 = .ok (.iinc 2 1, 3) := by decide +kernel
theorem dX3_goHome_62 : decode cX3_goHome 62 = .ok (.goto (-31), 3) := by decide +kernel
theorem dX3_goHome_65 : decode cX3_goHome 65 = .ok (.iinc 1 1, 3) := by decide +kernel
theorem dX3_goHome_68 : decode cX3_goHome 68 = .ok (.goto (-66), 3) := by decide +kernel
theorem dX3_goHome_71 : decode cX3_goHome 71 = .ok (.aload_n 0, 1) := by decide +kernel
theorem dX3_goHome_72 : decode cX3_goHome 72 = .ok (.invokevirtual 71, 3) := by decide +kernel
theorem dX3_goHome_75 : decode cX3_goHome 75 = .ok (.ireturn, 1) := by decide +kernel
theorem dX3_format_0 : decode cX3_format 0 = .ok (.aload_n 0, 1) := by decide +kernel
theorem dX3_format_1 : decode cX3_format 1 = .ok (.iconst 0, 1) := by decide +kernel
theorem dX3_format_2 : decode cX3_format 2 = .ok (.putfield 1, 3) := by decide +kernel
theorem dX3_format_5 : decode cX3_format 5 = .ok (.aload_n 0, 1) := by decide +kernel
theorem dX3_format_6 : decode cX3_format 6 = .ok (.invokevirtual 65, 3) := by decide +kernel
theorem dX3_format_9 : decode cX3_format 9 = .ok (.ifCond .ne 5, 3) := by decide +kernel
theorem dX3_format_12 : decode cX3_format 12 = .ok (.iconst 0, 1) := by decide +kernel
theorem dX3_format_13 : decode cX3_format 13 = .ok (.ireturn, 1) := by decide +kernel
theorem dX3_format_14 : decode cX3_format 14 = .ok (.aload_n 0, 1) := by decide +kernel
theorem dX3_format_15 : decode cX3_format 15 = .ok (.iconst 0, 1) := by decide +kernel
theorem dX3_format_16 : decode cX3_format 16 = .ok (.putfield 74, 3) := by decide +kernel
theorem dX3_format_19 : decode cX3_format 19 = .ok (.aload_n 0, 1) := by decide +kernel
theorem dX3_format_20 : decode cX3_format 20 = .ok (.invokevirtual 71, 3) := by decide +kernel
theorem dX3_format_23 : decode cX3_format 23 = .ok (.ifCond .ne 5, 3) := by decide +kernel
theorem dX3_format_26 : decode cX3_format 26 = .ok (.iconst 0, 1) := by decide +kernel
theorem dX3_format_27 : decode cX3_format 27 = .ok (.ireturn, 1) := by decide +kernel
theorem dX3_format_28 : decode cX3_format 28 = .ok (.iconst 0, 1) := by decide +kernel
theorem dX3_format_29 : decode cX3_format 29 = .ok (.istore_n 1, 1) := by decide +kernel
theorem dX3_format_30 : decode cX3_format 30 = .ok (.iload_n 1, 1) := by decide +kernel
theorem dX3_format_31 : decode cX3_format 31 = .ok (.bipush 25, 2) := by decide +kernel
theorem dX3_format_33 : decode cX3_format 33 = .ok (.if_icmp .ge 61, 3) := by decide +kernel
theorem dX3_format_36 : decode cX3_format 36 = .ok (.iload_n 1, 1) := by decide +kernel
theorem dX3_format_37 : decode cX3_format 37 = .ok (.aload_n 0, 1) := by decide +kernel
theorem dX3_format_38 : decode cX3_format 38 = .ok (.getfield 43, 3) := by decide +kernel
theorem dX3_format_41 : decode cX3_format 41 = .ok (.if_icmp .lt 12, 3) := by decide +kernel
theorem dX3_format_44 : decode cX3_format 44 = .ok (.iload_n 1, 1) := by decide +kernel
theorem dX3_format_45 : decode cX3_format 45 = .ok (.bipush 24, 2) := by decide +kernel
theorem dX3_format_47 : decode cX3_format 47 = .ok (.if_icmp .ge 6, 3) := by decide +kernel
theorem dX3_format_50 : decode cX3_format 50 = .ok (.goto 38, 3) := by decide +kernel
theorem dX3_format_53 : decode cX3_format 53 = .ok (.aload_n 0, 1) := by decide +kernel
theorem dX3_format_54 : decode cX3_format 54 = .ok (.invokevirtual 65, 3) := by decide +kernel
theorem dX3_format_57 : decode cX3_format 57 = .ok (.ifCond .ne 5, 3) := by decide +kernel
theorem dX3_format_60 : decode cX3_format 60 = .ok (.iconst 0, 1) := by decide +kernel
theorem dX3_format_61 : decode cX3_format 61 = .ok (.ireturn, 1) := by decide +kernel
theorem dX3_format_62 : decode cX3_format 62 = .ok (.iconst 0, 1) := by decide +kernel
theorem dX3_format_63 : decode cX3_format 63 = .ok (.istore_n 2, 1) := by decide +kernel
theorem dX3_format_64 : decode cX3_format 64 = .ok (.iload_n 2, 1) := by decide +kernel
theorem dX3_format_65 : decode cX3_format 65 = .ok (.bipush 22, 2) := by decide +kernel
theorem dX3_format_67 : decode cX3_format 67 = .ok (.if_icmp .ge 21, 3) := by decide +kernel
theorem dX3_format_70 : decode cX3_format 70 = .ok (.aload_n 0, 1) := by decide +kernel
theorem dX3_format_71 : decode cX3_format 71 = .ok (.getfield 17, 3) := by decide +kernel
theorem dX3_format_74 : decode cX3_format 74 = .ok (.bipush 22, 2) := by decide +kernel
theorem dX3_format_76 : decode cX3_format 76 = .ok (.iload_n 1, 1) := by decide +kernel
theorem dX3_format_77 : decode cX3_format 77 = .ok (.imul, 1) := by decide +kernel
theorem dX3_format_78 : decode cX3_format 78 = .ok (.iload_n 2, 1) := by decide +kernel
theorem dX3_format_79 : decode cX3_format 79 = .ok (.iadd, 1) := by decide +kernel
theorem dX3_format_80 : decode cX3_format 80 = .ok (.iconst 0, 1) := by decide +kernel
theorem dX3_format_81 : decode cX3_format 81 = .ok (.iastore, 1) := by decide +kernel
theorem dX3_format_82 : decode cX3_format 82 = .ok (.iinc 2 1, 3) := by decide +kernel
theorem dX3_format_85 : decode cX3_format 85 = .ok (.goto (-21), 3) := by decide +kernel
theorem dX3_format_88 : decode cX3_format 88 = .ok (.iinc 1 1, 3) := by decide +kernel
theorem dX3_format_91 : decode cX3_format 91 = .ok (.goto (-61), 3) := by decide +kernel
theorem dX3_format_94 : decode cX3_format 94 = .ok (.aload_n 0, 1) := by decide +kernel
theorem dX3_format_95 : decode cX3_format 95 = .ok (.invokevirtual 65, 3) := by decide +kernel
theorem dX3_format_98 : decode cX3_format 98 = .ok (.ifCond .ne 5, 3) := by decide +kernel
theorem dX3_format_101 : decode cX3_format 101 = .ok (.iconst 0, 1) := by decide +kernel
theorem dX3_format_102 : decode cX3_format 102 = .ok (.ireturn, 1) := by decide +kernel
theorem dX3_format_103 : decode cX3_format 103 = .ok (.aload_n 0, 1) := by decide +kernel
theorem dX3_format_104 : decode cX3_format 104 = .ok (.iconst 1, 1) := by decide +kernel
theorem dX3_format_105 : decode cX3_format 105 = .ok (.putfield 74, 3) := by decide +kernel
theorem dX3_format_108 : decode cX3_format 108 = .ok (.aload_n 0, 1) := by decide +kernel
theorem dX3_format_109 : decode cX3_format 109 = .ok (.invokevirtual 56, 3) := by decide +kernel
theorem dX3_format_112 : decode cX3_format 112 = .ok (.aload_n 0, 1) := by decide +kernel
theorem dX3_format_113 : decode cX3_format 113 = .ok (.iconst 1, 1) := by decide +kernel
theorem dX3_format_114 : decode cX3_format 114 = .ok (.putfield 52, 3) := by decide +kernel
theorem dX3_format_117 : decode cX3_format 117 = .ok (.iconst 1, 1) := by decide +kernel
theorem dX3_format_118 : decode cX3_format 118 = .ok (.ireturn, 1) := by decide +kernel
theorem dX3_commit_0 : decode cX3_commit 0 = .ok (.aload_n 0, 1) := by decide +kernel
theorem dX3_commit_1 : decode cX3_commit 1 = .ok (.iconst 0, 1) := by decide +kernel
theorem dX3_commit_2 : decode cX3_commit 2 = .ok (.putfield 1, 3) := by decide +kernel
theorem dX3_commit_5 : decode cX3_commit 5 = .ok (.aload_n 0, 1) := by decide +kernel
theorem dX3_commit_6 : decode cX3_commit 6 = .ok (.getfield 52, 3) := by decide +kernel
theorem dX3_commit_9 : decode cX3_commit 9 = .ok (.ifCond .ne 6, 3) := by decide +kernel
theorem dX3_commit_12 : decode cX3_commit 12 = .ok (.bipush 6, 2) := by decide +kernel
theorem dX3_commit_14 : decode cX3_commit 14 = .ok (.ireturn, 1) := by decide +kernel
theorem dX3_commit_15 : decode cX3_commit 15 = .ok (.aload_n 0, 1) := by decide +kernel
theorem dX3_commit_16 : decode cX3_commit 16 = .ok (.invokevirtual 77, 3) := by decide +kernel
theorem dX3_commit_19 : decode cX3_commit 19 = .ok (.ifCond .ne 5, 3) := by decide +kernel
theorem dX3_commit_22 : decode cX3_commit 22 = .ok (.iconst 0, 1) := by decide +kernel
theorem dX3_commit_23 : decode cX3_commit 23 = .ok (.ireturn, 1) := by decide +kernel
theorem dX3_commit_24 : decode cX3_commit 24 = .ok (.iconst 0, 1) := by decide +kernel
theorem dX3_commit_25 : decode cX3_commit 25 = .ok (.istore_n 1, 1) := by decide +kernel
theorem dX3_commit_26 : decode cX3_commit 26 = .ok (.iload_n 1, 1) := by decide +kernel
theorem dX3_commit_27 : decode cX3_commit 27 = .ok (.bipush 25, 2) := by decide +kernel
theorem dX3_commit_29 : decode cX3_commit 29 = .ok (.if_icmp .ge 16, 3) := by decide +kernel
theorem dX3_commit_32 : decode cX3_commit 32 = .ok (.aload_n 0, 1) := by decide +kernel
theorem dX3_commit_33 : decode cX3_commit 33 = .ok (.getfield 33, 3) := by decide +kernel
theorem dX3_commit_36 : decode cX3_commit 36 = .ok (.iload_n 1, 1) := by decide +kernel
theorem dX3_commit_37 : decode cX3_commit 37 = .ok (.iconst 0, 1) := by decide +kernel
theorem dX3_commit_38 : decode cX3_commit 38 = .ok (.bastore, 1) := by decide +kernel
theorem dX3_commit_39 : decode cX3_commit 39 = .ok (.iinc 1 1, 3) := by decide +kernel
theorem dX3_commit_42 : decode cX3_commit 42 = .ok (.goto (-16), 3) := by decide +kernel
theorem dX3_commit_45 : decode cX3_commit 45 = .ok (.iconst 0, 1) := by decide +kernel
theorem dX3_commit_46 : decode cX3_commit 46 = .ok (.istore_n 1, 1) := by decide +kernel
theorem dX3_commit_47 : decode cX3_commit 47 = .ok (.iload_n 1, 1) := by decide +kernel
theorem dX3_commit_48 : decode cX3_commit 48 = .ok (.bipush 25, 2) := by decide +kernel
theorem dX3_commit_50 : decode cX3_commit 50 = .ok (.if_icmp .ge 74, 3) := by decide +kernel
theorem dX3_commit_53 : decode cX3_commit 53 = .ok (.aload_n 0, 1) := by decide +kernel
theorem dX3_commit_54 : decode cX3_commit 54 = .ok (.getfield 29, 3) := by decide +kernel
theorem dX3_commit_57 : decode cX3_commit 57 = .ok (.iload_n 1, 1) := by decide +kernel
theorem dX3_commit_58 : decode cX3_commit 58 = .ok (.baload, 1) := by decide +kernel
theorem dX3_commit_59 : decode cX3_commit 59 = .ok (.ifCond .ne 6, 3) := by decide +kernel
theorem dX3_commit_62 : decode cX3_commit 62 = .ok (.goto 56, 3) := by decide +kernel
theorem dX3_commit_65 : decode cX3_commit 65 = .ok (.aload_n 0, 1) := by decide +kernel
theorem dX3_commit_66 : decode cX3_commit 66 = .ok (.invokevirtual 65, 3) := by decide +kernel
theorem dX3_commit_69 : decode cX3_commit 69 = .ok (.ifCond .ne 6, 3) := by decide +kernel
theorem dX3_commit_72 : decode cX3_commit 72 = .ok (.bipush 6, 2) := by decide +kernel
theorem dX3_commit_74 : decode cX3_commit 74 = .ok (.ireturn, 1) := by decide +kernel
theorem dX3_commit_75 : decode cX3_commit 75 = .ok (.aload_n 0, 1) := by decide +kernel
theorem dX3_commit_76 : decode cX3_commit 76 = .ok (.getfield 33, 3) := by decide +kernel
theorem dX3_commit_79 : decode cX3_commit 79 = .ok (.iload_n 1, 1) := by decide +kernel
theorem dX3_commit_80 : decode cX3_commit 80 = .ok (.iconst 1, 1) := by decide +kernel
theorem dX3_commit_81 : decode cX3_commit 81 = .ok (.bastore, 1) := by decide +kernel
theorem dX3_commit_82 : decode cX3_commit 82 = .ok (.iconst 0, 1) := by decide +kernel
theorem dX3_commit_83 : decode cX3_commit 83 = .ok (.istore_n 2, 1) := by decide +kernel
theorem dX3_commit_84 : decode cX3_commit 84 = .ok (.iload_n 2, 1) := by decide +kernel
theorem dX3_commit_85 : decode cX3_commit 85 = .ok (.bipush 22, 2) := by decide +kernel
theorem dX3_commit_87 : decode cX3_commit 87 = .ok (.if_icmp .ge 31, 3) := by decide +kernel
theorem dX3_commit_90 : decode cX3_commit 90 = .ok (.aload_n 0, 1) := by decide +kernel
theorem dX3_commit_91 : decode cX3_commit 91 = .ok (.getfield 20, 3) := by decide +kernel
theorem dX3_commit_94 : decode cX3_commit 94 = .ok (.bipush 22, 2) := by decide +kernel
theorem dX3_commit_96 : decode cX3_commit 96 = .ok (.iload_n 1, 1) := by decide +kernel
theorem dX3_commit_97 : decode cX3_commit 97 = .ok (.imul, 1) := by decide +kernel
theorem dX3_commit_98 : decode cX3_commit 98 = .ok (.iload_n 2, 1) := by decide +kernel
theorem dX3_commit_99 : decode cX3_commit 99 = .ok (.iadd, 1) := by decide +kernel
theorem dX3_commit_100 : decode cX3_commit 100 = .ok (.aload_n 0, 1) := by decide +kernel
theorem dX3_commit_101 : decode cX3_commit 101 = .ok (.getfield 13, 3) := by decide +kernel
theorem dX3_commit_104 : decode cX3_commit 104 = .ok (.bipush 22, 2) := by decide +kernel
theorem dX3_commit_106 : decode cX3_commit 106 = .ok (.iload_n 1, 1) := by decide +kernel
theorem dX3_commit_107 : decode cX3_commit 107 = .ok (.imul, 1) := by decide +kernel
theorem dX3_commit_108 : decode cX3_commit 108 = .ok (.iload_n 2, 1) := by decide +kernel
theorem dX3_commit_109 : decode cX3_commit 109 = .ok (.iadd, 1) := by decide +kernel
theorem dX3_commit_110 : decode cX3_commit 110 = .ok (.iaload, 1) := by decide +kernel
theorem dX3_commit_111 : decode cX3_commit 111 = .ok (.iastore, 1) := by decide +kernel
theorem dX3_commit_112 : decode cX3_commit 112 = .ok (.iinc 2 1, 3) := by decide +kernel
theorem dX3_commit_115 : decode cX3_commit 115 = .ok (.goto (-31), 3) := by decide +kernel
theorem dX3_commit_118 : decode cX3_commit 118 = .ok (.iinc 1 1, 3) := by decide +kernel
theorem dX3_commit_121 : decode cX3_commit 121 = .ok (.goto (-74), 3) := by decide +kernel
theorem dX3_commit_124 : decode cX3_commit 124 = .ok (.aload_n 0, 1) := by decide +kernel
theorem dX3_commit_125 : decode cX3_commit 125 = .ok (.invokevirtual 65, 3) := by decide +kernel
theorem dX3_commit_128 : decode cX3_commit 128 = .ok (.ifCond .ne 6, 3) := by decide +kernel
theorem dX3_commit_131 : decode cX3_commit 131 = .ok (.bipush 6, 2) := by decide +kernel
theorem dX3_commit_133 : decode cX3_commit 133 = .ok (.ireturn, 1) := by decide +kernel
theorem dX3_commit_134 : decode cX3_commit 134 = .ok (.aload_n 0, 1) := by decide +kernel
theorem dX3_commit_135 : decode cX3_commit 135 = .ok (.iconst 1, 1) := by decide +kernel
theorem dX3_commit_136 : decode cX3_commit 136 = .ok (.putfield 68, 3) := by decide +kernel
theorem dX3_commit_139 : decode cX3_commit 139 = .ok (.aload_n 0, 1) := by decide +kernel
theorem dX3_commit_140 : decode cX3_commit 140 = .ok (.invokevirtual 81, 3) := by decide +kernel
theorem dX3_commit_143 : decode cX3_commit 143 = .ok (.ifCond .ne 6, 3) := by decide +kernel
theorem dX3_commit_146 : decode cX3_commit 146 = .ok (.bipush 6, 2) := by decide +kernel
theorem dX3_commit_148 : decode cX3_commit 148 = .ok (.ireturn, 1) := by decide +kernel
theorem dX3_commit_149 : decode cX3_commit 149 = .ok (.iconst 0, 1) := by decide +kernel
theorem dX3_commit_150 : decode cX3_commit 150 = .ok (.istore_n 1, 1) := by decide +kernel
theorem dX3_commit_151 : decode cX3_commit 151 = .ok (.iload_n 1, 1) := by decide +kernel
theorem dX3_commit_152 : decode cX3_commit 152 = .ok (.bipush 25, 2) := by decide +kernel
theorem dX3_commit_154 : decode cX3_commit 154 = .ok (.if_icmp .ge 16, 3) := by decide +kernel
theorem dX3_commit_157 : decode cX3_commit 157 = .ok (.aload_n 0, 1) := by decide +kernel
theorem dX3_commit_158 : decode cX3_commit 158 = .ok (.getfield 29, 3) := by decide +kernel
theorem dX3_commit_161 : decode cX3_commit 161 = .ok (.iload_n 1, 1) := by decide +kernel
theorem dX3_commit_162 : decode cX3_commit 162 = .ok (.iconst 0, 1) := by decide +kernel
theorem dX3_commit_163 : decode cX3_commit 163 = .ok (.bastore, 1) := by decide +kernel
theorem dX3_commit_164 : decode cX3_commit 164 = .ok (.iinc 1 1, 3) := by decide +kernel
theorem dX3_commit_167 : decode cX3_commit 167 = .ok (.goto (-16), 3) := by decide +kernel
theorem dX3_commit_170 : decode cX3_commit 170 = .ok (.iconst 0, 1) := by decide +kernel
theorem dX3_commit_171 : decode cX3_commit 171 = .ok (.ireturn, 1) := by decide +kernel
theorem dX3_recover_0 : decode cX3_recover 0 = .ok (.aload_n 0, 1) := by decide +kernel
theorem dX3_recover_1 : decode cX3_recover 1 = .ok (.iconst 0, 1) := by decide +kernel
theorem dX3_recover_2 : decode cX3_recover 2 = .ok (.putfield 1, 3) := by decide +kernel
theorem dX3_recover_5 : decode cX3_recover 5 = .ok (.aload_n 0, 1) := by decide +kernel
theorem dX3_recover_6 : decode cX3_recover 6 = .ok (.getfield 74, 3) := by decide +kernel
theorem dX3_recover_9 : decode cX3_recover 9 = .ok (.ifCond .ne 9, 3) := by decide +kernel
theorem dX3_recover_12 : decode cX3_recover 12 = .ok (.aload_n 0, 1) := by decide +kernel
theorem dX3_recover_13 : decode cX3_recover 13 = .ok (.invokevirtual 59, 3) := by decide +kernel
theorem dX3_recover_16 : decode cX3_recover 16 = .ok (.iconst 0, 1) := by decide +kernel
theorem dX3_recover_17 : decode cX3_recover 17 = .ok (.ireturn, 1) := by decide +kernel
theorem dX3_recover_18 : decode cX3_recover 18 = .ok (.aload_n 0, 1) := by decide +kernel
theorem dX3_recover_19 : decode cX3_recover 19 = .ok (.getfield 68, 3) := by decide +kernel
theorem dX3_recover_22 : decode cX3_recover 22 = .ok (.ifCond .eq 12, 3) := by decide +kernel
theorem dX3_recover_25 : decode cX3_recover 25 = .ok (.aload_n 0, 1) := by decide +kernel
theorem dX3_recover_26 : decode cX3_recover 26 = .ok (.invokevirtual 81, 3) := by decide +kernel
theorem dX3_recover_29 : decode cX3_recover 29 = .ok (.ifCond .ne 5, 3) := by decide +kernel
theorem dX3_recover_32 : decode cX3_recover 32 = .ok (.iconst 0, 1) := by decide +kernel
theorem dX3_recover_33 : decode cX3_recover 33 = .ok (.ireturn, 1) := by decide +kernel
theorem dX3_recover_34 : decode cX3_recover 34 = .ok (.aload_n 0, 1) := by decide +kernel
theorem dX3_recover_35 : decode cX3_recover 35 = .ok (.invokevirtual 56, 3) := by decide +kernel
theorem dX3_recover_38 : decode cX3_recover 38 = .ok (.aload_n 0, 1) := by decide +kernel
theorem dX3_recover_39 : decode cX3_recover 39 = .ok (.iconst 1, 1) := by decide +kernel
theorem dX3_recover_40 : decode cX3_recover 40 = .ok (.putfield 52, 3) := by decide +kernel
theorem dX3_recover_43 : decode cX3_recover 43 = .ok (.iconst 1, 1) := by decide +kernel
theorem dX3_recover_44 : decode cX3_recover 44 = .ok (.ireturn, 1) := by decide +kernel
theorem dX3_abort_0 : decode cX3_abort 0 = .ok (.aload_n 0, 1) := by decide +kernel
theorem dX3_abort_1 : decode cX3_abort 1 = .ok (.iconst 0, 1) := by decide +kernel
theorem dX3_abort_2 : decode cX3_abort 2 = .ok (.putfield 1, 3) := by decide +kernel
theorem dX3_abort_5 : decode cX3_abort 5 = .ok (.aload_n 0, 1) := by decide +kernel
theorem dX3_abort_6 : decode cX3_abort 6 = .ok (.getfield 52, 3) := by decide +kernel
theorem dX3_abort_9 : decode cX3_abort 9 = .ok (.ifCond .ne 5, 3) := by decide +kernel
theorem dX3_abort_12 : decode cX3_abort 12 = .ok (.iconst 0, 1) := by decide +kernel
theorem dX3_abort_13 : decode cX3_abort 13 = .ok (.ireturn, 1) := by decide +kernel
theorem dX3_abort_14 : decode cX3_abort 14 = .ok (.iconst 0, 1) := by decide +kernel
theorem dX3_abort_15 : decode cX3_abort 15 = .ok (.istore_n 1, 1) := by decide +kernel
theorem dX3_abort_16 : decode cX3_abort 16 = .ok (.iload_n 1, 1) := by decide +kernel
theorem dX3_abort_17 : decode cX3_abort 17 = .ok (.bipush 25, 2) := by decide +kernel
theorem dX3_abort_19 : decode cX3_abort 19 = .ok (.if_icmp .ge 16, 3) := by decide +kernel
theorem dX3_abort_22 : decode cX3_abort 22 = .ok (.aload_n 0, 1) := by decide +kernel
theorem dX3_abort_23 : decode cX3_abort 23 = .ok (.getfield 29, 3) := by decide +kernel
theorem dX3_abort_26 : decode cX3_abort 26 = .ok (.iload_n 1, 1) := by decide +kernel
theorem dX3_abort_27 : decode cX3_abort 27 = .ok (.iconst 0, 1) := by decide +kernel
theorem dX3_abort_28 : decode cX3_abort 28 = .ok (.bastore, 1) := by decide +kernel
theorem dX3_abort_29 : decode cX3_abort 29 = .ok (.iinc 1 1, 3) := by decide +kernel
theorem dX3_abort_32 : decode cX3_abort 32 = .ok (.goto (-16), 3) := by decide +kernel
theorem dX3_abort_35 : decode cX3_abort 35 = .ok (.iconst 0, 1) := by decide +kernel
theorem dX3_abort_36 : decode cX3_abort 36 = .ok (.istore_n 1, 1) := by decide +kernel
theorem dX3_abort_37 : decode cX3_abort 37 = .ok (.iload_n 1, 1) := by decide +kernel
theorem dX3_abort_38 : decode cX3_abort 38 = .ok (.sipush 550, 3) := by decide +kernel
theorem dX3_abort_41 : decode cX3_abort 41 = .ok (.if_icmp .ge 21, 3) := by decide +kernel
theorem dX3_abort_44 : decode cX3_abort 44 = .ok (.aload_n 0, 1) := by decide +kernel
theorem dX3_abort_45 : decode cX3_abort 45 = .ok (.getfield 13, 3) := by decide +kernel
theorem dX3_abort_48 : decode cX3_abort 48 = .ok (.iload_n 1, 1) := by decide +kernel
theorem dX3_abort_49 : decode cX3_abort 49 = .ok (.aload_n 0, 1) := by decide +kernel
theorem dX3_abort_50 : decode cX3_abort 50 = .ok (.getfield 17, 3) := by decide +kernel
theorem dX3_abort_53 : decode cX3_abort 53 = .ok (.iload_n 1, 1) := by decide +kernel
theorem dX3_abort_54 : decode cX3_abort 54 = .ok (.iaload, 1) := by decide +kernel
theorem dX3_abort_55 : decode cX3_abort 55 = .ok (.iastore, 1) := by decide +kernel
theorem dX3_abort_56 : decode cX3_abort 56 = .ok (.iinc 1 1, 3) := by decide +kernel
theorem dX3_abort_59 : decode cX3_abort 59 = .ok (.goto (-22), 3) := by decide +kernel
theorem dX3_abort_62 : decode cX3_abort 62 = .ok (.iconst 1, 1) := by decide +kernel
theorem dX3_abort_63 : decode cX3_abort 63 = .ok (.ireturn, 1) := by decide +kernel
theorem dX3_stopAfter_0 : decode cX3_stopAfter 0 = .ok (.aload_n 0, 1) := by decide +kernel
theorem dX3_stopAfter_1 : decode cX3_stopAfter 1 = .ok (.iconst 0, 1) := by decide +kernel
theorem dX3_stopAfter_2 : decode cX3_stopAfter 2 = .ok (.putfield 1, 3) := by decide +kernel
theorem dX3_stopAfter_5 : decode cX3_stopAfter 5 = .ok (.aload_n 0, 1) := by decide +kernel
theorem dX3_stopAfter_6 : decode cX3_stopAfter 6 = .ok (.iload_n 1, 1) := by decide +kernel
theorem dX3_stopAfter_7 : decode cX3_stopAfter 7 = .ok (.ifCond .ge 7, 3) := by decide +kernel
theorem dX3_stopAfter_10 : decode cX3_stopAfter 10 = .ok (.iconst (-1), 1) := by decide +kernel
theorem dX3_stopAfter_11 : decode cX3_stopAfter 11 = .ok (.goto 4, 3) := by decide +kernel
theorem dX3_stopAfter_14 : decode cX3_stopAfter 14 = .ok (.iload_n 1, 1) := by decide +kernel
theorem dX3_stopAfter_15 : decode cX3_stopAfter 15 = .ok (.putfield 36, 3) := by decide +kernel
theorem dX3_stopAfter_18 : decode cX3_stopAfter 18 = .ok (.return_, 1) := by decide +kernel
theorem dX3_touches_0 : decode cX3_touches 0 = .ok (.iconst 0, 1) := by decide +kernel
theorem dX3_touches_1 : decode cX3_touches 1 = .ok (.istore_n 1, 1) := by decide +kernel
theorem dX3_touches_2 : decode cX3_touches 2 = .ok (.iconst 0, 1) := by decide +kernel
theorem dX3_touches_3 : decode cX3_touches 3 = .ok (.istore_n 2, 1) := by decide +kernel
theorem dX3_touches_4 : decode cX3_touches 4 = .ok (.iload_n 2, 1) := by decide +kernel
theorem dX3_touches_5 : decode cX3_touches 5 = .ok (.bipush 25, 2) := by decide +kernel
theorem dX3_touches_7 : decode cX3_touches 7 = .ok (.if_icmp .ge 26, 3) := by decide +kernel
theorem dX3_touches_10 : decode cX3_touches 10 = .ok (.iload_n 1, 1) := by decide +kernel
theorem dX3_touches_11 : decode cX3_touches 11 = .ok (.aload_n 0, 1) := by decide +kernel
theorem dX3_touches_12 : decode cX3_touches 12 = .ok (.getfield 29, 3) := by decide +kernel
theorem dX3_touches_15 : decode cX3_touches 15 = .ok (.iload_n 2, 1) := by decide +kernel
theorem dX3_touches_16 : decode cX3_touches 16 = .ok (.baload, 1) := by decide +kernel
theorem dX3_touches_17 : decode cX3_touches 17 = .ok (.ifCond .eq 7, 3) := by decide +kernel
theorem dX3_touches_20 : decode cX3_touches 20 = .ok (.iconst 1, 1) := by decide +kernel
theorem dX3_touches_21 : decode cX3_touches 21 = .ok (.goto 4, 3) := by decide +kernel
theorem dX3_touches_24 : decode cX3_touches 24 = .ok (.iconst 0, 1) := by decide +kernel
theorem dX3_touches_25 : decode cX3_touches 25 = .ok (.iadd, 1) := by decide +kernel
theorem dX3_touches_26 : decode cX3_touches 26 = .ok (.istore_n 1, 1) := by decide +kernel
theorem dX3_touches_27 : decode cX3_touches 27 = .ok (.iinc 2 1, 3) := by decide +kernel
theorem dX3_touches_30 : decode cX3_touches 30 = .ok (.goto (-26), 3) := by decide +kernel
theorem dX3_touches_33 : decode cX3_touches 33 = .ok (.iload_n 1, 1) := by decide +kernel
theorem dX3_touches_34 : decode cX3_touches 34 = .ok (.ireturn, 1) := by decide +kernel
theorem dX3_size_0 : decode cX3_size 0 = .ok (.bipush 22, 2) := by decide +kernel
theorem dX3_size_2 : decode cX3_size 2 = .ok (.istore_n 2, 1) := by decide +kernel
theorem dX3_size_3 : decode cX3_size 3 = .ok (.iload_n 2, 1) := by decide +kernel
theorem dX3_size_4 : decode cX3_size 4 = .ok (.ifCond .le 19, 3) := by decide +kernel
theorem dX3_size_7 : decode cX3_size 7 = .ok (.aload_n 0, 1) := by decide +kernel
theorem dX3_size_8 : decode cX3_size 8 = .ok (.iload_n 1, 1) := by decide +kernel
theorem dX3_size_9 : decode cX3_size 9 = .ok (.iload_n 2, 1) := by decide +kernel
theorem dX3_size_10 : decode cX3_size 10 = .ok (.iadd, 1) := by decide +kernel
theorem dX3_size_11 : decode cX3_size 11 = .ok (.iconst 1, 1) := by decide +kernel
theorem dX3_size_12 : decode cX3_size 12 = .ok (.isub, 1) := by decide +kernel
theorem dX3_size_13 : decode cX3_size 13 = .ok (.iaload, 1) := by decide +kernel
theorem dX3_size_14 : decode cX3_size 14 = .ok (.ifCond .ne 9, 3) := by decide +kernel
theorem dX3_size_17 : decode cX3_size 17 = .ok (.iinc 2 (-1), 3) := by decide +kernel
theorem dX3_size_20 : decode cX3_size 20 = .ok (.goto (-17), 3) := by decide +kernel
theorem dX3_size_23 : decode cX3_size 23 = .ok (.iload_n 2, 1) := by decide +kernel
theorem dX3_size_24 : decode cX3_size 24 = .ok (.ireturn, 1) := by decide +kernel
theorem dX3_compared_0 : decode cX3_compared 0 = .ok (.bipush 21, 2) := by decide +kernel
theorem dX3_compared_2 : decode cX3_compared 2 = .ok (.istore 4, 2) := by decide +kernel
theorem dX3_compared_4 : decode cX3_compared 4 = .ok (.iload 4, 2) := by decide +kernel
theorem dX3_compared_6 : decode cX3_compared 6 = .ok (.ifCond .lt 45, 3) := by decide +kernel
theorem dX3_compared_9 : decode cX3_compared 9 = .ok (.aload_n 0, 1) := by decide +kernel
theorem dX3_compared_10 : decode cX3_compared 10 = .ok (.iload_n 1, 1) := by decide +kernel
theorem dX3_compared_11 : decode cX3_compared 11 = .ok (.iload 4, 2) := by decide +kernel
theorem dX3_compared_13 : decode cX3_compared 13 = .ok (.iadd, 1) := by decide +kernel
theorem dX3_compared_14 : decode cX3_compared 14 = .ok (.iaload, 1) := by decide +kernel
theorem dX3_compared_15 : decode cX3_compared 15 = .ok (.aload_n 2, 1) := by decide +kernel
theorem dX3_compared_16 : decode cX3_compared 16 = .ok (.iload_n 3, 1) := by decide +kernel
theorem dX3_compared_17 : decode cX3_compared 17 = .ok (.iload 4, 2) := by decide +kernel
theorem dX3_compared_19 : decode cX3_compared 19 = .ok (.iadd, 1) := by decide +kernel
theorem dX3_compared_20 : decode cX3_compared 20 = .ok (.iaload, 1) := by decide +kernel
theorem dX3_compared_21 : decode cX3_compared 21 = .ok (.if_icmp .eq 24, 3) := by decide +kernel
theorem dX3_compared_24 : decode cX3_compared 24 = .ok (.aload_n 0, 1) := by decide +kernel
theorem dX3_compared_25 : decode cX3_compared 25 = .ok (.iload_n 1, 1) := by decide +kernel
theorem dX3_compared_26 : decode cX3_compared 26 = .ok (.iload 4, 2) := by decide +kernel
theorem dX3_compared_28 : decode cX3_compared 28 = .ok (.iadd, 1) := by decide +kernel
theorem dX3_compared_29 : decode cX3_compared 29 = .ok (.iaload, 1) := by decide +kernel
theorem dX3_compared_30 : decode cX3_compared 30 = .ok (.aload_n 2, 1) := by decide +kernel
theorem dX3_compared_31 : decode cX3_compared 31 = .ok (.iload_n 3, 1) := by decide +kernel
theorem dX3_compared_32 : decode cX3_compared 32 = .ok (.iload 4, 2) := by decide +kernel
theorem dX3_compared_34 : decode cX3_compared 34 = .ok (.iadd, 1) := by decide +kernel
theorem dX3_compared_35 : decode cX3_compared 35 = .ok (.iaload, 1) := by decide +kernel
theorem dX3_compared_36 : decode cX3_compared 36 = .ok (.if_icmp .le 7, 3) := by decide +kernel
theorem dX3_compared_39 : decode cX3_compared 39 = .ok (.iconst 1, 1) := by decide +kernel
theorem dX3_compared_40 : decode cX3_compared 40 = .ok (.goto 4, 3) := by decide +kernel
theorem dX3_compared_43 : decode cX3_compared 43 = .ok (.iconst (-1), 1) := by decide +kernel
theorem dX3_compared_44 : decode cX3_compared 44 = .ok (.ireturn, 1) := by decide +kernel
theorem dX3_compared_45 : decode cX3_compared 45 = .ok (.iinc 4 (-1), 3) := by decide +kernel
theorem dX3_compared_48 : decode cX3_compared 48 = .ok (.goto (-44), 3) := by decide +kernel
theorem dX3_compared_51 : decode cX3_compared 51 = .ok (.iconst 0, 1) := by decide +kernel
theorem dX3_compared_52 : decode cX3_compared 52 = .ok (.ireturn, 1) := by decide +kernel
theorem dX3_change_0 : decode cX3_change 0 = .ok (.lconst 0, 1) := by decide +kernel
theorem dX3_change_1 : decode cX3_change 1 = .ok (.lstore_n 3, 1) := by decide +kernel
theorem dX3_change_2 : decode cX3_change 2 = .ok (.iconst 0, 1) := by decide +kernel
theorem dX3_change_3 : decode cX3_change 3 = .ok (.istore 5, 2) := by decide +kernel
theorem dX3_change_5 : decode cX3_change 5 = .ok (.iload 5, 2) := by decide +kernel
theorem dX3_change_7 : decode cX3_change 7 = .ok (.bipush 22, 2) := by decide +kernel
theorem dX3_change_9 : decode cX3_change 9 = .ok (.if_icmp .ge 100, 3) := by decide +kernel
theorem dX3_change_12 : decode cX3_change 12 = .ok (.aload_n 0, 1) := by decide +kernel
theorem dX3_change_13 : decode cX3_change 13 = .ok (.getfield 13, 3) := by decide +kernel
theorem dX3_change_16 : decode cX3_change 16 = .ok (.bipush 22, 2) := by decide +kernel
theorem dX3_change_18 : decode cX3_change 18 = .ok (.iload_n 1, 1) := by decide +kernel
theorem dX3_change_19 : decode cX3_change 19 = .ok (.imul, 1) := by decide +kernel
theorem dX3_change_20 : decode cX3_change 20 = .ok (.iload 5, 2) := by decide +kernel
theorem dX3_change_22 : decode cX3_change 22 = .ok (.iadd, 1) := by decide +kernel
theorem dX3_change_23 : decode cX3_change 23 = .ok (.iaload, 1) := by decide +kernel
theorem dX3_change_24 : decode cX3_change 24 = .ok (.i2l, 1) := by decide +kernel
theorem dX3_change_25 : decode cX3_change 25 = .ok (.lload_n 3, 1) := by decide +kernel
theorem dX3_change_26 : decode cX3_change 26 = .ok (.ladd, 1) := by decide +kernel
theorem dX3_change_27 : decode cX3_change 27 = .ok (.iload_n 2, 1) := by decide +kernel
theorem dX3_change_28 : decode cX3_change 28 = .ok (.ifCond .eq 14, 3) := by decide +kernel
theorem dX3_change_31 : decode cX3_change 31 = .ok (.aload_n 0, 1) := by decide +kernel
theorem dX3_change_32 : decode cX3_change 32 = .ok (.getfield 23, 3) := by decide +kernel
theorem dX3_change_35 : decode cX3_change 35 = .ok (.iload 5, 2) := by decide +kernel
theorem dX3_change_37 : decode cX3_change 37 = .ok (.iaload, 1) := by decide +kernel
theorem dX3_change_38 : decode cX3_change 38 = .ok (.i2l, 1) := by decide +kernel
theorem dX3_change_39 : decode cX3_change 39 = .ok (.goto 12, 3) := by decide +kernel
theorem dX3_change_42 : decode cX3_change 42 = .ok (.aload_n 0, 1) := by decide +kernel
theorem dX3_change_43 : decode cX3_change 43 = .ok (.getfield 23, 3) := by decide +kernel
theorem dX3_change_46 : decode cX3_change 46 = .ok (.iload 5, 2) := by decide +kernel
theorem dX3_change_48 : decode cX3_change 48 = .ok (.iaload, 1) := by decide +kernel
theorem dX3_change_49 : decode cX3_change 49 = .ok (.i2l, 1) := by decide +kernel
theorem dX3_change_50 : decode cX3_change 50 = .ok (.lneg, 1) := by decide +kernel
theorem dX3_change_51 : decode cX3_change 51 = .ok (.ladd, 1) := by decide +kernel
theorem dX3_change_52 : decode cX3_change 52 = .ok (.lstore 6, 2) := by decide +kernel
theorem dX3_change_54 : decode cX3_change 54 = .ok (.lload 6, 2) := by decide +kernel
theorem dX3_change_56 : decode cX3_change 56 = .ok (.lconst 0, 1) := by decide +kernel
theorem dX3_change_57 : decode cX3_change 57 = .ok (.lcmp, 1) := by decide +kernel
theorem dX3_change_58 : decode cX3_change 58 = .ok (.ifCond .ge 9, 3) := by decide +kernel
theorem dX3_change_61 : decode cX3_change 61 = .ok (.ldc2_w 84, 3) := by decide +kernel
theorem dX3_change_64 : decode cX3_change 64 = .ok (.goto 17, 3) := by decide +kernel
theorem dX3_change_67 : decode cX3_change 67 = .ok (.lload 6, 2) := by decide +kernel
theorem dX3_change_69 : decode cX3_change 69 = .ok (.ldc2_w 86, 3) := by decide +kernel
theorem dX3_change_72 : decode cX3_change 72 = .ok (.lcmp, 1) := by decide +kernel
theorem dX3_change_73 : decode cX3_change 73 = .ok (.ifCond .lt 7, 3) := by decide +kernel
theorem dX3_change_76 : decode cX3_change 76 = .ok (.lconst 1, 1) := by decide +kernel
theorem dX3_change_77 : decode cX3_change 77 = .ok (.goto 4, 3) := by decide +kernel
theorem dX3_change_80 : decode cX3_change 80 = .ok (.lconst 0, 1) := by decide +kernel
theorem dX3_change_81 : decode cX3_change 81 = .ok (.lstore_n 3, 1) := by decide +kernel
theorem dX3_change_82 : decode cX3_change 82 = .ok (.aload_n 0, 1) := by decide +kernel
theorem dX3_change_83 : decode cX3_change 83 = .ok (.getfield 13, 3) := by decide +kernel
theorem dX3_change_86 : decode cX3_change 86 = .ok (.bipush 22, 2) := by decide +kernel
theorem dX3_change_88 : decode cX3_change 88 = .ok (.iload_n 1, 1) := by decide +kernel
theorem dX3_change_89 : decode cX3_change 89 = .ok (.imul, 1) := by decide +kernel
theorem dX3_change_90 : decode cX3_change 90 = .ok (.iload 5, 2) := by decide +kernel
theorem dX3_change_92 : decode cX3_change 92 = .ok (.iadd, 1) := by decide +kernel
theorem dX3_change_93 : decode cX3_change 93 = .ok (.lload 6, 2) := by decide +kernel
theorem dX3_change_95 : decode cX3_change 95 = .ok (.lload_n 3, 1) := by decide +kernel
theorem dX3_change_96 : decode cX3_change 96 = .ok (.ldc2_w 86, 3) := by decide +kernel
theorem dX3_change_99 : decode cX3_change 99 = .ok (.lmul, 1) := by decide +kernel
theorem dX3_change_100 : decode cX3_change 100 = .ok (.lsub, 1) := by decide +kernel
theorem dX3_change_101 : decode cX3_change 101 = .ok (.l2i, 1) := by decide +kernel
theorem dX3_change_102 : decode cX3_change 102 = .ok (.iastore, 1) := by decide +kernel
theorem dX3_change_103 : decode cX3_change 103 = .ok (.iinc 5 1, 3) := by decide +kernel
theorem dX3_change_106 : decode cX3_change 106 = .ok (.goto (-101), 3) := by decide +kernel
theorem dX3_change_109 : decode cX3_change 109 = .ok (.return_, 1) := by decide +kernel
theorem dX3_isGreat_0 : decode cX3_isGreat 0 = .ok (.lconst 0, 1) := by decide +kernel
theorem dX3_isGreat_1 : decode cX3_isGreat 1 = .ok (.lstore_n 2, 1) := by decide +kernel
theorem dX3_isGreat_2 : decode cX3_isGreat 2 = .ok (.iconst 0, 1) := by decide +kernel
theorem dX3_isGreat_3 : decode cX3_isGreat 3 = .ok (.istore 4, 2) := by decide +kernel
theorem dX3_isGreat_5 : decode cX3_isGreat 5 = .ok (.iload 4, 2) := by decide +kernel
theorem dX3_isGreat_7 : decode cX3_isGreat 7 = .ok (.aload_n 0, 1) := by decide +kernel
theorem dX3_isGreat_8 : decode cX3_isGreat 8 = .ok (.getfield 46, 3) := by decide +kernel
theorem dX3_isGreat_11 : decode cX3_isGreat 11 = .ok (.if_icmp .ge 38, 3) := by decide +kernel
theorem dX3_isGreat_14 : decode cX3_isGreat 14 = .ok (.aload_n 0, 1) := by decide +kernel
theorem dX3_isGreat_15 : decode cX3_isGreat 15 = .ok (.getfield 13, 3) := by decide +kernel
theorem dX3_isGreat_18 : decode cX3_isGreat 18 = .ok (.bipush 22, 2) := by decide +kernel
theorem dX3_isGreat_20 : decode cX3_isGreat 20 = .ok (.iload_n 1, 1) := by decide +kernel
theorem dX3_isGreat_21 : decode cX3_isGreat 21 = .ok (.imul, 1) := by decide +kernel
theorem dX3_isGreat_22 : decode cX3_isGreat 22 = .ok (.iload 4, 2) := by decide +kernel
theorem dX3_isGreat_24 : decode cX3_isGreat 24 = .ok (.iadd, 1) := by decide +kernel
theorem dX3_isGreat_25 : decode cX3_isGreat 25 = .ok (.iaload, 1) := by decide +kernel
theorem dX3_isGreat_26 : decode cX3_isGreat 26 = .ok (.i2l, 1) := by decide +kernel
theorem dX3_isGreat_27 : decode cX3_isGreat 27 = .ok (.aload_n 0, 1) := by decide +kernel
theorem dX3_isGreat_28 : decode cX3_isGreat 28 = .ok (.getfield 23, 3) := by decide +kernel
theorem dX3_isGreat_31 : decode cX3_isGreat 31 = .ok (.iload 4, 2) := by decide +kernel
theorem dX3_isGreat_33 : decode cX3_isGreat 33 = .ok (.iaload, 1) := by decide +kernel
theorem dX3_isGreat_34 : decode cX3_isGreat 34 = .ok (.i2l, 1) := by decide +kernel
theorem dX3_isGreat_35 : decode cX3_isGreat 35 = .ok (.ladd, 1) := by decide +kernel
theorem dX3_isGreat_36 : decode cX3_isGreat 36 = .ok (.lload_n 2, 1) := by decide +kernel
theorem dX3_isGreat_37 : decode cX3_isGreat 37 = .ok (.ladd, 1) := by decide +kernel
theorem dX3_isGreat_38 : decode cX3_isGreat 38 = .ok (.ldc2_w 86, 3) := by decide +kernel
theorem dX3_isGreat_41 : decode cX3_isGreat 41 = .ok (.ldiv, 1) := by decide +kernel
theorem dX3_isGreat_42 : decode cX3_isGreat 42 = .ok (.lstore_n 2, 1) := by decide +kernel
theorem dX3_isGreat_43 : decode cX3_isGreat 43 = .ok (.iinc 4 1, 3) := by decide +kernel
theorem dX3_isGreat_46 : decode cX3_isGreat 46 = .ok (.goto (-41), 3) := by decide +kernel
theorem dX3_isGreat_49 : decode cX3_isGreat 49 = .ok (.lload_n 2, 1) := by decide +kernel
theorem dX3_isGreat_50 : decode cX3_isGreat 50 = .ok (.lconst 0, 1) := by decide +kernel
theorem dX3_isGreat_51 : decode cX3_isGreat 51 = .ok (.lcmp, 1) := by decide +kernel
theorem dX3_isGreat_52 : decode cX3_isGreat 52 = .ok (.ifCond .le 7, 3) := by decide +kernel
theorem dX3_isGreat_55 : decode cX3_isGreat 55 = .ok (.iconst 1, 1) := by decide +kernel
theorem dX3_isGreat_56 : decode cX3_isGreat 56 = .ok (.goto 4, 3) := by decide +kernel
theorem dX3_isGreat_59 : decode cX3_isGreat 59 = .ok (.iconst 0, 1) := by decide +kernel
theorem dX3_isGreat_60 : decode cX3_isGreat 60 = .ok (.ireturn, 1) := by decide +kernel
theorem dX3_amountLimb_0 : decode cX3_amountLimb 0 = .ok (.aload_n 0, 1) := by decide +kernel
theorem dX3_amountLimb_1 : decode cX3_amountLimb 1 = .ok (.iconst 0, 1) := by decide +kernel
theorem dX3_amountLimb_2 : decode cX3_amountLimb 2 = .ok (.putfield 1, 3) := by decide +kernel
theorem dX3_amountLimb_5 : decode cX3_amountLimb 5 = .ok (.iload_n 1, 1) := by decide +kernel
theorem dX3_amountLimb_6 : decode cX3_amountLimb 6 = .ok (.ifCond .lt 24, 3) := by decide +kernel
theorem dX3_amountLimb_9 : decode cX3_amountLimb 9 = .ok (.aload_n 0, 1) := by decide +kernel
theorem dX3_amountLimb_10 : decode cX3_amountLimb 10 = .ok (.getfield 52, 3) := by decide +kernel
theorem dX3_amountLimb_13 : decode cX3_amountLimb 13 = .ok (.ifCond .eq 17, 3) := by decide +kernel
theorem dX3_amountLimb_16 : decode cX3_amountLimb 16 = .ok (.aload_n 0, 1) := by decide +kernel
theorem dX3_amountLimb_17 : decode cX3_amountLimb 17 = .ok (.getfield 23, 3) := by decide +kernel
theorem dX3_amountLimb_20 : decode cX3_amountLimb 20 = .ok (.aload_n 0, 1) := by decide +kernel
theorem dX3_amountLimb_21 : decode cX3_amountLimb 21 = .ok (.getfield 46, 3) := by decide +kernel
theorem dX3_amountLimb_24 : decode cX3_amountLimb 24 = .ok (.iconst 1, 1) := by decide +kernel
theorem dX3_amountLimb_25 : decode cX3_amountLimb 25 = .ok (.isub, 1) := by decide +kernel
theorem dX3_amountLimb_26 : decode cX3_amountLimb 26 = .ok (.iaload, 1) := by decide +kernel
theorem dX3_amountLimb_27 : decode cX3_amountLimb 27 = .ok (.ifCond .eq 5, 3) := by decide +kernel
theorem dX3_amountLimb_30 : decode cX3_amountLimb 30 = .ok (.iconst 0, 1) := by decide +kernel
theorem dX3_amountLimb_31 : decode cX3_amountLimb 31 = .ok (.ireturn, 1) := by decide +kernel
theorem dX3_amountLimb_32 : decode cX3_amountLimb 32 = .ok (.aload_n 0, 1) := by decide +kernel
theorem dX3_amountLimb_33 : decode cX3_amountLimb 33 = .ok (.getfield 46, 3) := by decide +kernel
theorem dX3_amountLimb_36 : decode cX3_amountLimb 36 = .ok (.iconst 1, 1) := by decide +kernel
theorem dX3_amountLimb_37 : decode cX3_amountLimb 37 = .ok (.isub, 1) := by decide +kernel
theorem dX3_amountLimb_38 : decode cX3_amountLimb 38 = .ok (.istore_n 2, 1) := by decide +kernel
theorem dX3_amountLimb_39 : decode cX3_amountLimb 39 = .ok (.iload_n 2, 1) := by decide +kernel
theorem dX3_amountLimb_40 : decode cX3_amountLimb 40 = .ok (.ifCond .le 23, 3) := by decide +kernel
theorem dX3_amountLimb_43 : decode cX3_amountLimb 43 = .ok (.aload_n 0, 1) := by decide +kernel
theorem dX3_amountLimb_44 : decode cX3_amountLimb 44 = .ok (.getfield 23, 3) := by decide +kernel
theorem dX3_amountLimb_47 : decode cX3_amountLimb 47 = .ok (.iload_n 2, 1) := by decide +kernel
theorem dX3_amountLimb_48 : decode cX3_amountLimb 48 = .ok (.aload_n 0, 1) := by decide +kernel
theorem dX3_amountLimb_49 : decode cX3_amountLimb 49 = .ok (.getfield 23, 3) := by decide +kernel
theorem dX3_amountLimb_52 : decode cX3_amountLimb 52 = .ok (.iload_n 2, 1) := by decide +kernel
theorem dX3_amountLimb_53 : decode cX3_amountLimb 53 = .ok (.iconst 1, 1) := by decide +kernel
theorem dX3_amountLimb_54 : decode cX3_amountLimb 54 = .ok (.isub, 1) := by decide +kernel
theorem dX3_amountLimb_55 : decode cX3_amountLimb 55 = .ok (.iaload, 1) := by decide +kernel
theorem dX3_amountLimb_56 : decode cX3_amountLimb 56 = .ok (.iastore, 1) := by decide +kernel
theorem dX3_amountLimb_57 : decode cX3_amountLimb 57 = .ok (.iinc 2 (-1), 3) := by decide +kernel
theorem dX3_amountLimb_60 : decode cX3_amountLimb 60 = .ok (.goto (-21), 3) := by decide +kernel
theorem dX3_amountLimb_63 : decode cX3_amountLimb 63 = .ok (.aload_n 0, 1) := by decide +kernel
theorem dX3_amountLimb_64 : decode cX3_amountLimb 64 = .ok (.getfield 23, 3) := by decide +kernel
theorem dX3_amountLimb_67 : decode cX3_amountLimb 67 = .ok (.iconst 0, 1) := by decide +kernel
theorem dX3_amountLimb_68 : decode cX3_amountLimb 68 = .ok (.iload_n 1, 1) := by decide +kernel
theorem dX3_amountLimb_69 : decode cX3_amountLimb 69 = .ok (.iastore, 1) := by decide +kernel
theorem dX3_amountLimb_70 : decode cX3_amountLimb 70 = .ok (.iconst 1, 1) := by decide +kernel
theorem dX3_amountLimb_71 : decode cX3_amountLimb 71 = .ok (.ireturn, 1) := by decide +kernel
theorem dX3_clearAmount_0 : decode cX3_clearAmount 0 = .ok (.aload_n 0, 1) := by decide +kernel
theorem dX3_clearAmount_1 : decode cX3_clearAmount 1 = .ok (.iconst 0, 1) := by decide +kernel
theorem dX3_clearAmount_2 : decode cX3_clearAmount 2 = .ok (.putfield 1, 3) := by decide +kernel
theorem dX3_clearAmount_5 : decode cX3_clearAmount 5 = .ok (.aload_n 0, 1) := by decide +kernel
theorem dX3_clearAmount_6 : decode cX3_clearAmount 6 = .ok (.getfield 52, 3) := by decide +kernel
theorem dX3_clearAmount_9 : decode cX3_clearAmount 9 = .ok (.ifCond .ne 5, 3) := by decide +kernel
theorem dX3_clearAmount_12 : decode cX3_clearAmount 12 = .ok (.iconst 0, 1) := by decide +kernel
theorem dX3_clearAmount_13 : decode cX3_clearAmount 13 = .ok (.ireturn, 1) := by decide +kernel
theorem dX3_clearAmount_14 : decode cX3_clearAmount 14 = .ok (.iconst 0, 1) := by decide +kernel
theorem dX3_clearAmount_15 : decode cX3_clearAmount 15 = .ok (.istore_n 1, 1) := by decide +kernel
theorem dX3_clearAmount_16 : decode cX3_clearAmount 16 = .ok (.iload_n 1, 1) := by decide +kernel
theorem dX3_clearAmount_17 : decode cX3_clearAmount 17 = .ok (.bipush 22, 2) := by decide +kernel
theorem dX3_clearAmount_19 : decode cX3_clearAmount 19 = .ok (.if_icmp .ge 16, 3) := by decide +kernel
theorem dX3_clearAmount_22 : decode cX3_clearAmount 22 = .ok (.aload_n 0, 1) := by decide +kernel
theorem dX3_clearAmount_23 : decode cX3_clearAmount 23 = .ok (.getfield 23, 3) := by decide +kernel
theorem dX3_clearAmount_26 : decode cX3_clearAmount 26 = .ok (.iload_n 1, 1) := by decide +kernel
theorem dX3_clearAmount_27 : decode cX3_clearAmount 27 = .ok (.iconst 0, 1) := by decide +kernel
theorem dX3_clearAmount_28 : decode cX3_clearAmount 28 = .ok (.iastore, 1) := by decide +kernel
theorem dX3_clearAmount_29 : decode cX3_clearAmount 29 = .ok (.iinc 1 1, 3) := by decide +kernel
theorem dX3_clearAmount_32 : decode cX3_clearAmount 32 = .ok (.goto (-16), 3) := by decide +kernel
theorem dX3_clearAmount_35 : decode cX3_clearAmount 35 = .ok (.iconst 1, 1) := by decide +kernel
theorem dX3_clearAmount_36 : decode cX3_clearAmount 36 = .ok (.ireturn, 1) := by decide +kernel
theorem dX3_no_0 : decode cX3_no 0 = .ok (.iload_n 1, 1) := by decide +kernel
theorem dX3_no_1 : decode cX3_no 1 = .ok (.ifCond .lt 11, 3) := by decide +kernel
theorem dX3_no_4 : decode cX3_no 4 = .ok (.iload_n 1, 1) := by decide +kernel
theorem dX3_no_5 : decode cX3_no 5 = .ok (.aload_n 0, 1) := by decide +kernel
theorem dX3_no_6 : decode cX3_no 6 = .ok (.getfield 43, 3) := by decide +kernel
theorem dX3_no_9 : decode cX3_no 9 = .ok (.if_icmp .lt 7, 3) := by decide +kernel
theorem dX3_no_12 : decode cX3_no 12 = .ok (.iconst 1, 1) := by decide +kernel
theorem dX3_no_13 : decode cX3_no 13 = .ok (.goto 4, 3) := by decide +kernel
theorem dX3_no_16 : decode cX3_no 16 = .ok (.iconst 0, 1) := by decide +kernel
theorem dX3_no_17 : decode cX3_no 17 = .ok (.ireturn, 1) := by decide +kernel
theorem dX3_isFull_0 : decode cX3_isFull 0 = .ok (.aload_n 0, 1) := by decide +kernel
theorem dX3_isFull_1 : decode cX3_isFull 1 = .ok (.getfield 29, 3) := by decide +kernel
theorem dX3_isFull_4 : decode cX3_isFull 4 = .ok (.iload_n 1, 1) := by decide +kernel
theorem dX3_isFull_5 : decode cX3_isFull 5 = .ok (.baload, 1) := by decide +kernel
theorem dX3_isFull_6 : decode cX3_isFull 6 = .ok (.ifCond .eq 7, 3) := by decide +kernel
theorem dX3_isFull_9 : decode cX3_isFull 9 = .ok (.iconst 0, 1) := by decide +kernel
theorem dX3_isFull_10 : decode cX3_isFull 10 = .ok (.goto 4, 3) := by decide +kernel
theorem dX3_isFull_13 : decode cX3_isFull 13 = .ok (.iconst 1, 1) := by decide +kernel
theorem dX3_isFull_14 : decode cX3_isFull 14 = .ok (.istore_n 3, 1) := by decide +kernel
theorem dX3_isFull_15 : decode cX3_isFull 15 = .ok (.iload_n 2, 1) := by decide +kernel
theorem dX3_isFull_16 : decode cX3_isFull 16 = .ok (.iload_n 1, 1) := by decide +kernel
theorem dX3_isFull_17 : decode cX3_isFull 17 = .ok (.if_icmp .eq 15, 3) := by decide +kernel
theorem dX3_isFull_20 : decode cX3_isFull 20 = .ok (.aload_n 0, 1) := by decide +kernel
theorem dX3_isFull_21 : decode cX3_isFull 21 = .ok (.getfield 29, 3) := by decide +kernel
theorem dX3_isFull_24 : decode cX3_isFull 24 = .ok (.iload_n 2, 1) := by decide +kernel
theorem dX3_isFull_25 : decode cX3_isFull 25 = .ok (.baload, 1) := by decide +kernel
theorem dX3_isFull_26 : decode cX3_isFull 26 = .ok (.ifCond .ne 6, 3) := by decide +kernel
theorem dX3_isFull_29 : decode cX3_isFull 29 = .ok (.iinc 3 1, 3) := by decide +kernel
theorem dX3_isFull_32 : decode cX3_isFull 32 = .ok (.aload_n 0, 1) := by decide +kernel
theorem dX3_isFull_33 : decode cX3_isFull 33 = .ok (.invokevirtual 77, 3) := by decide +kernel
theorem dX3_isFull_36 : decode cX3_isFull 36 = .ok (.iload_n 3, 1) := by decide +kernel
theorem dX3_isFull_37 : decode cX3_isFull 37 = .ok (.iadd, 1) := by decide +kernel
theorem dX3_isFull_38 : decode cX3_isFull 38 = .ok (.aload_n 0, 1) := by decide +kernel
theorem dX3_isFull_39 : decode cX3_isFull 39 = .ok (.getfield 49, 3) := by decide +kernel
theorem dX3_isFull_42 : decode cX3_isFull 42 = .ok (.if_icmp .le 7, 3) := by decide +kernel
theorem dX3_isFull_45 : decode cX3_isFull 45 = .ok (.iconst 1, 1) := by decide +kernel
theorem dX3_isFull_46 : decode cX3_isFull 46 = .ok (.goto 4, 3) := by decide +kernel
theorem dX3_isFull_49 : decode cX3_isFull 49 = .ok (.iconst 0, 1) := by decide +kernel
theorem dX3_isFull_50 : decode cX3_isFull 50 = .ok (.ireturn, 1) := by decide +kernel
theorem dX3_deposit_0 : decode cX3_deposit 0 = .ok (.aload_n 0, 1) := by decide +kernel
theorem dX3_deposit_1 : decode cX3_deposit 1 = .ok (.iconst 0, 1) := by decide +kernel
theorem dX3_deposit_2 : decode cX3_deposit 2 = .ok (.putfield 1, 3) := by decide +kernel
theorem dX3_deposit_5 : decode cX3_deposit 5 = .ok (.aload_n 0, 1) := by decide +kernel
theorem dX3_deposit_6 : decode cX3_deposit 6 = .ok (.getfield 52, 3) := by decide +kernel
theorem dX3_deposit_9 : decode cX3_deposit 9 = .ok (.ifCond .ne 6, 3) := by decide +kernel
theorem dX3_deposit_12 : decode cX3_deposit 12 = .ok (.bipush 6, 2) := by decide +kernel
theorem dX3_deposit_14 : decode cX3_deposit 14 = .ok (.ireturn, 1) := by decide +kernel
theorem dX3_deposit_15 : decode cX3_deposit 15 = .ok (.aload_n 0, 1) := by decide +kernel
theorem dX3_deposit_16 : decode cX3_deposit 16 = .ok (.iload_n 1, 1) := by decide +kernel
theorem dX3_deposit_17 : decode cX3_deposit 17 = .ok (.invokevirtual 88, 3) := by decide +kernel
theorem dX3_deposit_20 : decode cX3_deposit 20 = .ok (.ifCond .eq 5, 3) := by decide +kernel
theorem dX3_deposit_23 : decode cX3_deposit 23 = .ok (.iconst 1, 1) := by decide +kernel
theorem dX3_deposit_24 : decode cX3_deposit 24 = .ok (.ireturn, 1) := by decide +kernel
theorem dX3_deposit_25 : decode cX3_deposit 25 = .ok (.aload_n 0, 1) := by decide +kernel
theorem dX3_deposit_26 : decode cX3_deposit 26 = .ok (.iload_n 1, 1) := by decide +kernel
theorem dX3_deposit_27 : decode cX3_deposit 27 = .ok (.invokevirtual 92, 3) := by decide +kernel
theorem dX3_deposit_30 : decode cX3_deposit 30 = .ok (.ifCond .eq 5, 3) := by decide +kernel
theorem dX3_deposit_33 : decode cX3_deposit 33 = .ok (.iconst 3, 1) := by decide +kernel
theorem dX3_deposit_34 : decode cX3_deposit 34 = .ok (.ireturn, 1) := by decide +kernel
theorem dX3_deposit_35 : decode cX3_deposit 35 = .ok (.aload_n 0, 1) := by decide +kernel
theorem dX3_deposit_36 : decode cX3_deposit 36 = .ok (.iload_n 1, 1) := by decide +kernel
theorem dX3_deposit_37 : decode cX3_deposit 37 = .ok (.bipush 24, 2) := by decide +kernel
theorem dX3_deposit_39 : decode cX3_deposit 39 = .ok (.invokevirtual 95, 3) := by decide +kernel
theorem dX3_deposit_42 : decode cX3_deposit 42 = .ok (.ifCond .eq 5, 3) := by decide +kernel
theorem dX3_deposit_45 : decode cX3_deposit 45 = .ok (.iconst 4, 1) := by decide +kernel
theorem dX3_deposit_46 : decode cX3_deposit 46 = .ok (.ireturn, 1) := by decide +kernel
theorem dX3_deposit_47 : decode cX3_deposit 47 = .ok (.aload_n 0, 1) := by decide +kernel
theorem dX3_deposit_48 : decode cX3_deposit 48 = .ok (.iload_n 1, 1) := by decide +kernel
theorem dX3_deposit_49 : decode cX3_deposit 49 = .ok (.iconst 1, 1) := by decide +kernel
theorem dX3_deposit_50 : decode cX3_deposit 50 = .ok (.invokevirtual 99, 3) := by decide +kernel
theorem dX3_deposit_53 : decode cX3_deposit 53 = .ok (.aload_n 0, 1) := by decide +kernel
theorem dX3_deposit_54 : decode cX3_deposit 54 = .ok (.bipush 24, 2) := by decide +kernel
theorem dX3_deposit_56 : decode cX3_deposit 56 = .ok (.iconst 1, 1) := by decide +kernel
theorem dX3_deposit_57 : decode cX3_deposit 57 = .ok (.invokevirtual 99, 3) := by decide +kernel
theorem dX3_deposit_60 : decode cX3_deposit 60 = .ok (.aload_n 0, 1) := by decide +kernel
theorem dX3_deposit_61 : decode cX3_deposit 61 = .ok (.getfield 29, 3) := by decide +kernel
theorem dX3_deposit_64 : decode cX3_deposit 64 = .ok (.iload_n 1, 1) := by decide +kernel
theorem dX3_deposit_65 : decode cX3_deposit 65 = .ok (.iconst 1, 1) := by decide +kernel
theorem dX3_deposit_66 : decode cX3_deposit 66 = .ok (.bastore, 1) := by decide +kernel
theorem dX3_deposit_67 : decode cX3_deposit 67 = .ok (.aload_n 0, 1) := by decide +kernel
theorem dX3_deposit_68 : decode cX3_deposit 68 = .ok (.getfield 29, 3) := by decide +kernel
theorem dX3_deposit_71 : decode cX3_deposit 71 = .ok (.bipush 24, 2) := by decide +kernel
theorem dX3_deposit_73 : decode cX3_deposit 73 = .ok (.iconst 1, 1) := by decide +kernel
theorem dX3_deposit_74 : decode cX3_deposit 74 = .ok (.bastore, 1) := by decide +kernel
theorem dX3_deposit_75 : decode cX3_deposit 75 = .ok (.iconst 0, 1) := by decide +kernel
theorem dX3_deposit_76 : decode cX3_deposit 76 = .ok (.ireturn, 1) := by decide +kernel
theorem dX3_withdraw_0 : decode cX3_withdraw 0 = .ok (.aload_n 0, 1) := by decide +kernel
theorem dX3_withdraw_1 : decode cX3_withdraw 1 = .ok (.iconst 0, 1) := by decide +kernel
theorem dX3_withdraw_2 : decode cX3_withdraw 2 = .ok (.putfield 1, 3) := by decide +kernel
theorem dX3_withdraw_5 : decode cX3_withdraw 5 = .ok (.aload_n 0, 1) := by decide +kernel
theorem dX3_withdraw_6 : decode cX3_withdraw 6 = .ok (.getfield 52, 3) := by decide +kernel
theorem dX3_withdraw_9 : decode cX3_withdraw 9 = .ok (.ifCond .ne 6, 3) := by decide +kernel
theorem dX3_withdraw_12 : decode cX3_withdraw 12 = .ok (.bipush 6, 2) := by decide +kernel
theorem dX3_withdraw_14 : decode cX3_withdraw 14 = .ok (.ireturn, 1) := by decide +kernel
theorem dX3_withdraw_15 : decode cX3_withdraw 15 = .ok (.aload_n 0, 1) := by decide +kernel
theorem dX3_withdraw_16 : decode cX3_withdraw 16 = .ok (.iload_n 1, 1) := by decide +kernel
theorem dX3_withdraw_17 : decode cX3_withdraw 17 = .ok (.invokevirtual 88, 3) := by decide +kernel
theorem dX3_withdraw_20 : decode cX3_withdraw 20 = .ok (.ifCond .eq 5, 3) := by decide +kernel
theorem dX3_withdraw_23 : decode cX3_withdraw 23 = .ok (.iconst 1, 1) := by decide +kernel
theorem dX3_withdraw_24 : decode cX3_withdraw 24 = .ok (.ireturn, 1) := by decide +kernel
theorem dX3_withdraw_25 : decode cX3_withdraw 25 = .ok (.aload_n 0, 1) := by decide +kernel
theorem dX3_withdraw_26 : decode cX3_withdraw 26 = .ok (.getfield 23, 3) := by decide +kernel
theorem dX3_withdraw_29 : decode cX3_withdraw 29 = .ok (.iconst 0, 1) := by decide +kernel
theorem dX3_withdraw_30 : decode cX3_withdraw 30 = .ok (.aload_n 0, 1) := by decide +kernel
theorem dX3_withdraw_31 : decode cX3_withdraw 31 = .ok (.getfield 13, 3) := by decide +kernel
theorem dX3_withdraw_34 : decode cX3_withdraw 34 = .ok (.bipush 22, 2) := by decide +kernel
theorem dX3_withdraw_36 : decode cX3_withdraw 36 = .ok (.iload_n 1, 1) := by decide +kernel
theorem dX3_withdraw_37 : decode cX3_withdraw 37 = .ok (.imul, 1) := by decide +kernel
theorem dX3_withdraw_38 : decode cX3_withdraw 38 = .ok (.invokestatic 103, 3) := by decide +kernel
theorem dX3_withdraw_41 : decode cX3_withdraw 41 = .ok (.ifCond .le 5, 3) := by decide +kernel
theorem dX3_withdraw_44 : decode cX3_withdraw 44 = .ok (.iconst 2, 1) := by decide +kernel
theorem dX3_withdraw_45 : decode cX3_withdraw 45 = .ok (.ireturn, 1) := by decide +kernel
theorem dX3_withdraw_46 : decode cX3_withdraw 46 = .ok (.aload_n 0, 1) := by decide +kernel
theorem dX3_withdraw_47 : decode cX3_withdraw 47 = .ok (.iload_n 1, 1) := by decide +kernel
theorem dX3_withdraw_48 : decode cX3_withdraw 48 = .ok (.bipush 24, 2) := by decide +kernel
theorem dX3_withdraw_50 : decode cX3_withdraw 50 = .ok (.invokevirtual 95, 3) := by decide +kernel
theorem dX3_withdraw_53 : decode cX3_withdraw 53 = .ok (.ifCond .eq 5, 3) := by decide +kernel
theorem dX3_withdraw_56 : decode cX3_withdraw 56 = .ok (.iconst 4, 1) := by decide +kernel
theorem dX3_withdraw_57 : decode cX3_withdraw 57 = .ok (.ireturn, 1) := by decide +kernel
theorem dX3_withdraw_58 : decode cX3_withdraw 58 = .ok (.aload_n 0, 1) := by decide +kernel
theorem dX3_withdraw_59 : decode cX3_withdraw 59 = .ok (.iload_n 1, 1) := by decide +kernel
theorem dX3_withdraw_60 : decode cX3_withdraw 60 = .ok (.iconst 0, 1) := by decide +kernel
theorem dX3_withdraw_61 : decode cX3_withdraw 61 = .ok (.invokevirtual 99, 3) := by decide +kernel
theorem dX3_withdraw_64 : decode cX3_withdraw 64 = .ok (.aload_n 0, 1) := by decide +kernel
theorem dX3_withdraw_65 : decode cX3_withdraw 65 = .ok (.bipush 24, 2) := by decide +kernel
theorem dX3_withdraw_67 : decode cX3_withdraw 67 = .ok (.iconst 0, 1) := by decide +kernel
theorem dX3_withdraw_68 : decode cX3_withdraw 68 = .ok (.invokevirtual 99, 3) := by decide +kernel
theorem dX3_withdraw_71 : decode cX3_withdraw 71 = .ok (.aload_n 0, 1) := by decide +kernel
theorem dX3_withdraw_72 : decode cX3_withdraw 72 = .ok (.getfield 29, 3) := by decide +kernel
theorem dX3_withdraw_75 : decode cX3_withdraw 75 = .ok (.iload_n 1, 1) := by decide +kernel
theorem dX3_withdraw_76 : decode cX3_withdraw 76 = .ok (.iconst 1, 1) := by decide +kernel
theorem dX3_withdraw_77 : decode cX3_withdraw 77 = .ok (.bastore, 1) := by decide +kernel
theorem dX3_withdraw_78 : decode cX3_withdraw 78 = .ok (.aload_n 0, 1) := by decide +kernel
theorem dX3_withdraw_79 : decode cX3_withdraw 79 = .ok (.getfield 29, 3) := by decide +kernel
theorem dX3_withdraw_82 : decode cX3_withdraw 82 = .ok (.bipush 24, 2) := by decide +kernel
theorem dX3_withdraw_84 : decode cX3_withdraw 84 = .ok (.iconst 1, 1) := by decide +kernel
theorem dX3_withdraw_85 : decode cX3_withdraw 85 = .ok (.bastore, 1) := by decide +kernel
theorem dX3_withdraw_86 : decode cX3_withdraw 86 = .ok (.iconst 0, 1) := by decide +kernel
theorem dX3_withdraw_87 : decode cX3_withdraw 87 = .ok (.ireturn, 1) := by decide +kernel
theorem dX3_transfer_0 : decode cX3_transfer 0 = .ok (.aload_n 0, 1) := by decide +kernel
theorem dX3_transfer_1 : decode cX3_transfer 1 = .ok (.iconst 0, 1) := by decide +kernel
theorem dX3_transfer_2 : decode cX3_transfer 2 = .ok (.putfield 1, 3) := by decide +kernel
theorem dX3_transfer_5 : decode cX3_transfer 5 = .ok (.aload_n 0, 1) := by decide +kernel
theorem dX3_transfer_6 : decode cX3_transfer 6 = .ok (.getfield 52, 3) := by decide +kernel
theorem dX3_transfer_9 : decode cX3_transfer 9 = .ok (.ifCond .ne 6, 3) := by decide +kernel
theorem dX3_transfer_12 : decode cX3_transfer 12 = .ok (.bipush 6, 2) := by decide +kernel
theorem dX3_transfer_14 : decode cX3_transfer 14 = .ok (.ireturn, 1) := by decide +kernel
theorem dX3_transfer_15 : decode cX3_transfer 15 = .ok (.aload_n 0, 1) := by decide +kernel
theorem dX3_transfer_16 : decode cX3_transfer 16 = .ok (.iload_n 1, 1) := by decide +kernel
theorem dX3_transfer_17 : decode cX3_transfer 17 = .ok (.invokevirtual 88, 3) := by decide +kernel
theorem dX3_transfer_20 : decode cX3_transfer 20 = .ok (.ifCond .ne 11, 3) := by decide +kernel
theorem dX3_transfer_23 : decode cX3_transfer 23 = .ok (.aload_n 0, 1) := by decide +kernel
theorem dX3_transfer_24 : decode cX3_transfer 24 = .ok (.iload_n 2, 1) := by decide +kernel
theorem dX3_transfer_25 : decode cX3_transfer 25 = .ok (.invokevirtual 88, 3) := by decide +kernel
theorem dX3_transfer_28 : decode cX3_transfer 28 = .ok (.ifCond .eq 5, 3) := by decide +kernel
theorem dX3_transfer_31 : decode cX3_transfer 31 = .ok (.iconst 1, 1) := by decide +kernel
theorem dX3_transfer_32 : decode cX3_transfer 32 = .ok (.ireturn, 1) := by decide +kernel
theorem dX3_transfer_33 : decode cX3_transfer 33 = .ok (.aload_n 0, 1) := by decide +kernel
theorem dX3_transfer_34 : decode cX3_transfer 34 = .ok (.getfield 23, 3) := by decide +kernel
theorem dX3_transfer_37 : decode cX3_transfer 37 = .ok (.iconst 0, 1) := by decide +kernel
theorem dX3_transfer_38 : decode cX3_transfer 38 = .ok (.aload_n 0, 1) := by decide +kernel
theorem dX3_transfer_39 : decode cX3_transfer 39 = .ok (.getfield 13, 3) := by decide +kernel
theorem dX3_transfer_42 : decode cX3_transfer 42 = .ok (.bipush 22, 2) := by decide +kernel
theorem dX3_transfer_44 : decode cX3_transfer 44 = .ok (.iload_n 1, 1) := by decide +kernel
theorem dX3_transfer_45 : decode cX3_transfer 45 = .ok (.imul, 1) := by decide +kernel
theorem dX3_transfer_46 : decode cX3_transfer 46 = .ok (.invokestatic 103, 3) := by decide +kernel
theorem dX3_transfer_49 : decode cX3_transfer 49 = .ok (.ifCond .le 5, 3) := by decide +kernel
