theorem dX3_transfer_52 : decode cX3_transfer 52 = .ok (.iconst 2, 1) := by decide +kernel
theorem dX3_transfer_53 : decode cX3_transfer 53 = .ok (.ireturn, 1) := by decide +kernel
theorem dX3_transfer_54 : decode cX3_transfer 54 = .ok (.iload_n 1, 1) := by decide +kernel
theorem dX3_transfer_55 : decode cX3_transfer 55 = .ok (.iload_n 2, 1) := by decide +kernel
theorem dX3_transfer_56 : decode cX3_transfer 56 = .ok (.if_icmp .eq 13, 3) := by decide +kernel
theorem dX3_transfer_59 : decode cX3_transfer 59 = .ok (.aload_n 0, 1) := by decide +kernel
theorem dX3_transfer_60 : decode cX3_transfer 60 = .ok (.iload_n 2, 1) := by decide +kernel
theorem dX3_transfer_61 : decode cX3_transfer 61 = .ok (.invokevirtual 92, 3) := by decide +kernel
theorem dX3_transfer_64 : decode cX3_transfer 64 = .ok (.ifCond .eq 5, 3) := by decide +kernel
theorem dX3_transfer_67 : decode cX3_transfer 67 = .ok (.iconst 3, 1) := by decide +kernel
theorem dX3_transfer_68 : decode cX3_transfer 68 = .ok (.ireturn, 1) := by decide +kernel
theorem dX3_transfer_69 : decode cX3_transfer 69 = .ok (.aload_n 0, 1) := by decide +kernel
theorem dX3_transfer_70 : decode cX3_transfer 70 = .ok (.iload_n 1, 1) := by decide +kernel
theorem dX3_transfer_71 : decode cX3_transfer 71 = .ok (.iload_n 2, 1) := by decide +kernel
theorem dX3_transfer_72 : decode cX3_transfer 72 = .ok (.invokevirtual 95, 3) := by decide +kernel
theorem dX3_transfer_75 : decode cX3_transfer 75 = .ok (.ifCond .eq 5, 3) := by decide +kernel
theorem dX3_transfer_78 : decode cX3_transfer 78 = .ok (.iconst 4, 1) := by decide +kernel
theorem dX3_transfer_79 : decode cX3_transfer 79 = .ok (.ireturn, 1) := by decide +kernel
theorem dX3_transfer_80 : decode cX3_transfer 80 = .ok (.aload_n 0, 1) := by decide +kernel
theorem dX3_transfer_81 : decode cX3_transfer 81 = .ok (.iload_n 1, 1) := by decide +kernel
theorem dX3_transfer_82 : decode cX3_transfer 82 = .ok (.iconst 0, 1) := by decide +kernel
theorem dX3_transfer_83 : decode cX3_transfer 83 = .ok (.invokevirtual 99, 3) := by decide +kernel
theorem dX3_transfer_86 : decode cX3_transfer 86 = .ok (.aload_n 0, 1) := by decide +kernel
theorem dX3_transfer_87 : decode cX3_transfer 87 = .ok (.iload_n 2, 1) := by decide +kernel
theorem dX3_transfer_88 : decode cX3_transfer 88 = .ok (.iconst 1, 1) := by decide +kernel
theorem dX3_transfer_89 : decode cX3_transfer 89 = .ok (.invokevirtual 99, 3) := by decide +kernel
theorem dX3_transfer_92 : decode cX3_transfer 92 = .ok (.aload_n 0, 1) := by decide +kernel
theorem dX3_transfer_93 : decode cX3_transfer 93 = .ok (.getfield 29, 3) := by decide +kernel
theorem dX3_transfer_96 : decode cX3_transfer 96 = .ok (.iload_n 1, 1) := by decide +kernel
theorem dX3_transfer_97 : decode cX3_transfer 97 = .ok (.iconst 1, 1) := by decide +kernel
theorem dX3_transfer_98 : decode cX3_transfer 98 = .ok (.bastore, 1) := by decide +kernel
theorem dX3_transfer_99 : decode cX3_transfer 99 = .ok (.aload_n 0, 1) := by decide +kernel
theorem dX3_transfer_100 : decode cX3_transfer 100 = .ok (.getfield 29, 3) := by decide +kernel
theorem dX3_transfer_103 : decode cX3_transfer 103 = .ok (.iload_n 2, 1) := by decide +kernel
theorem dX3_transfer_104 : decode cX3_transfer 104 = .ok (.iconst 1, 1) := by decide +kernel
theorem dX3_transfer_105 : decode cX3_transfer 105 = .ok (.bastore, 1) := by decide +kernel
theorem dX3_transfer_106 : decode cX3_transfer 106 = .ok (.iconst 0, 1) := by decide +kernel
theorem dX3_transfer_107 : decode cX3_transfer 107 = .ok (.ireturn, 1) := by decide +kernel
theorem dX3_part_0 : decode cX3_part 0 = .ok (.aload_n 0, 1) := by decide +kernel
theorem dX3_part_1 : decode cX3_part 1 = .ok (.iconst 0, 1) := by decide +kernel
theorem dX3_part_2 : decode cX3_part 2 = .ok (.putfield 1, 3) := by decide +kernel
theorem dX3_part_5 : decode cX3_part 5 = .ok (.aload_n 0, 1) := by decide +kernel
theorem dX3_part_6 : decode cX3_part 6 = .ok (.getfield 52, 3) := by decide +kernel
theorem dX3_part_9 : decode cX3_part 9 = .ok (.ifCond .ne 6, 3) := by decide +kernel
theorem dX3_part_12 : decode cX3_part 12 = .ok (.bipush 6, 2) := by decide +kernel
theorem dX3_part_14 : decode cX3_part 14 = .ok (.ireturn, 1) := by decide +kernel
theorem dX3_part_15 : decode cX3_part 15 = .ok (.aload_n 0, 1) := by decide +kernel
theorem dX3_part_16 : decode cX3_part 16 = .ok (.iload_n 1, 1) := by decide +kernel
theorem dX3_part_17 : decode cX3_part 17 = .ok (.invokevirtual 88, 3) := by decide +kernel
theorem dX3_part_20 : decode cX3_part 20 = .ok (.ifCond .eq 5, 3) := by decide +kernel
theorem dX3_part_23 : decode cX3_part 23 = .ok (.iconst 1, 1) := by decide +kernel
theorem dX3_part_24 : decode cX3_part 24 = .ok (.ireturn, 1) := by decide +kernel
theorem dX3_part_25 : decode cX3_part 25 = .ok (.iload_n 2, 1) := by decide +kernel
theorem dX3_part_26 : decode cX3_part 26 = .ok (.ifCond .lt 13, 3) := by decide +kernel
theorem dX3_part_29 : decode cX3_part 29 = .ok (.iload_n 2, 1) := by decide +kernel
theorem dX3_part_30 : decode cX3_part 30 = .ok (.iload_n 3, 1) := by decide +kernel
theorem dX3_part_31 : decode cX3_part 31 = .ok (.if_icmp .gt 8, 3) := by decide +kernel
theorem dX3_part_34 : decode cX3_part 34 = .ok (.iload_n 3, 1) := by decide +kernel
theorem dX3_part_35 : decode cX3_part 35 = .ok (.iconst 1, 1) := by decide +kernel
theorem dX3_part_36 : decode cX3_part 36 = .ok (.if_icmp .ge 5, 3) := by decide +kernel
theorem dX3_part_39 : decode cX3_part 39 = .ok (.iconst 5, 1) := by decide +kernel
theorem dX3_part_40 : decode cX3_part 40 = .ok (.ireturn, 1) := by decide +kernel
theorem dX3_part_41 : decode cX3_part 41 = .ok (.lconst 0, 1) := by decide +kernel
theorem dX3_part_42 : decode cX3_part 42 = .ok (.lstore 4, 2) := by decide +kernel
theorem dX3_part_44 : decode cX3_part 44 = .ok (.iconst 0, 1) := by decide +kernel
theorem dX3_part_45 : decode cX3_part 45 = .ok (.istore 6, 2) := by decide +kernel
theorem dX3_part_47 : decode cX3_part 47 = .ok (.iload 6, 2) := by decide +kernel
theorem dX3_part_49 : decode cX3_part 49 = .ok (.bipush 22, 2) := by decide +kernel
theorem dX3_part_51 : decode cX3_part 51 = .ok (.if_icmp .ge 52, 3) := by decide +kernel
theorem dX3_part_54 : decode cX3_part 54 = .ok (.lload 4, 2) := by decide +kernel
theorem dX3_part_56 : decode cX3_part 56 = .ok (.aload_n 0, 1) := by decide +kernel
theorem dX3_part_57 : decode cX3_part 57 = .ok (.getfield 13, 3) := by decide +kernel
theorem dX3_part_60 : decode cX3_part 60 = .ok (.bipush 22, 2) := by decide +kernel
theorem dX3_part_62 : decode cX3_part 62 = .ok (.iload_n 1, 1) := by decide +kernel
theorem dX3_part_63 : decode cX3_part 63 = .ok (.imul, 1) := by decide +kernel
theorem dX3_part_64 : decode cX3_part 64 = .ok (.iload 6, 2) := by decide +kernel
theorem dX3_part_66 : decode cX3_part 66 = .ok (.iadd, 1) := by decide +kernel
theorem dX3_part_67 : decode cX3_part 67 = .ok (.iaload, 1) := by decide +kernel
theorem dX3_part_68 : decode cX3_part 68 = .ok (.i2l, 1) := by decide +kernel
theorem dX3_part_69 : decode cX3_part 69 = .ok (.iload_n 2, 1) := by decide +kernel
theorem dX3_part_70 : decode cX3_part 70 = .ok (.i2l, 1) := by decide +kernel
theorem dX3_part_71 : decode cX3_part 71 = .ok (.lmul, 1) := by decide +kernel
theorem dX3_part_72 : decode cX3_part 72 = .ok (.ladd, 1) := by decide +kernel
theorem dX3_part_73 : decode cX3_part 73 = .ok (.lstore 4, 2) := by decide +kernel
theorem dX3_part_75 : decode cX3_part 75 = .ok (.aload_n 0, 1) := by decide +kernel
theorem dX3_part_76 : decode cX3_part 76 = .ok (.getfield 26, 3) := by decide +kernel
theorem dX3_part_79 : decode cX3_part 79 = .ok (.iload 6, 2) := by decide +kernel
theorem dX3_part_81 : decode cX3_part 81 = .ok (.lload 4, 2) := by decide +kernel
theorem dX3_part_83 : decode cX3_part 83 = .ok (.ldc2_w 86, 3) := by decide +kernel
theorem dX3_part_86 : decode cX3_part 86 = .ok (.lrem, 1) := by decide +kernel
theorem dX3_part_87 : decode cX3_part 87 = .ok (.l2i, 1) := by decide +kernel
theorem dX3_part_88 : decode cX3_part 88 = .ok (.iastore, 1) := by decide +kernel
theorem dX3_part_89 : decode cX3_part 89 = .ok (.lload 4, 2) := by decide +kernel
theorem dX3_part_91 : decode cX3_part 91 = .ok (.ldc2_w 86, 3) := by decide +kernel
theorem dX3_part_94 : decode cX3_part 94 = .ok (.ldiv, 1) := by decide +kernel
theorem dX3_part_95 : decode cX3_part 95 = .ok (.lstore 4, 2) := by decide +kernel
theorem dX3_part_97 : decode cX3_part 97 = .ok (.iinc 6 1, 3) := by decide +kernel
theorem dX3_part_100 : decode cX3_part 100 = .ok (.goto (-53), 3) := by decide +kernel
theorem dX3_part_103 : decode cX3_part 103 = .ok (.lconst 0, 1) := by decide +kernel
theorem dX3_part_104 : decode cX3_part 104 = .ok (.lstore 6, 2) := by decide +kernel
theorem dX3_part_106 : decode cX3_part 106 = .ok (.bipush 21, 2) := by decide +kernel
theorem dX3_part_108 : decode cX3_part 108 = .ok (.istore 8, 2) := by decide +kernel
theorem dX3_part_110 : decode cX3_part 110 = .ok (.iload 8, 2) := by decide +kernel
theorem dX3_part_112 : decode cX3_part 112 = .ok (.ifCond .lt 46, 3) := by decide +kernel
theorem dX3_part_115 : decode cX3_part 115 = .ok (.lload 6, 2) := by decide +kernel
theorem dX3_part_117 : decode cX3_part 117 = .ok (.ldc2_w 86, 3) := by decide +kernel
theorem dX3_part_120 : decode cX3_part 120 = .ok (.lmul, 1) := by decide +kernel
theorem dX3_part_121 : decode cX3_part 121 = .ok (.aload_n 0, 1) := by decide +kernel
theorem dX3_part_122 : decode cX3_part 122 = .ok (.getfield 26, 3) := by decide +kernel
theorem dX3_part_125 : decode cX3_part 125 = .ok (.iload 8, 2) := by decide +kernel
theorem dX3_part_127 : decode cX3_part 127 = .ok (.iaload, 1) := by decide +kernel
theorem dX3_part_128 : decode cX3_part 128 = .ok (.i2l, 1) := by decide +kernel
theorem dX3_part_129 : decode cX3_part 129 = .ok (.ladd, 1) := by decide +kernel
theorem dX3_part_130 : decode cX3_part 130 = .ok (.lstore 6, 2) := by decide +kernel
theorem dX3_part_132 : decode cX3_part 132 = .ok (.aload_n 0, 1) := by decide +kernel
theorem dX3_part_133 : decode cX3_part 133 = .ok (.getfield 23, 3) := by decide +kernel
theorem dX3_part_136 : decode cX3_part 136 = .ok (.iload 8, 2) := by decide +kernel
theorem dX3_part_138 : decode cX3_part 138 = .ok (.lload 6, 2) := by decide +kernel
theorem dX3_part_140 : decode cX3_part 140 = .ok (.iload_n 3, 1) := by decide +kernel
theorem dX3_part_141 : decode cX3_part 141 = .ok (.i2l, 1) := by decide +kernel
theorem dX3_part_142 : decode cX3_part 142 = .ok (.ldiv, 1) := by decide +kernel
theorem dX3_part_143 : decode cX3_part 143 = .ok (.l2i, 1) := by decide +kernel
theorem dX3_part_144 : decode cX3_part 144 = .ok (.iastore, 1) := by decide +kernel
theorem dX3_part_145 : decode cX3_part 145 = .ok (.lload 6, 2) := by decide +kernel
theorem dX3_part_147 : decode cX3_part 147 = .ok (.iload_n 3, 1) := by decide +kernel
theorem dX3_part_148 : decode cX3_part 148 = .ok (.i2l, 1) := by decide +kernel
theorem dX3_part_149 : decode cX3_part 149 = .ok (.lrem, 1) := by decide +kernel
theorem dX3_part_150 : decode cX3_part 150 = .ok (.lstore 6, 2) := by decide +kernel
theorem dX3_part_152 : decode cX3_part 152 = .ok (.iinc 8 (-1), 3) := by decide +kernel
theorem dX3_part_155 : decode cX3_part 155 = .ok (.goto (-45), 3) := by decide +kernel
theorem dX3_part_158 : decode cX3_part 158 = .ok (.iconst 0, 1) := by decide +kernel
theorem dX3_part_159 : decode cX3_part 159 = .ok (.ireturn, 1) := by decide +kernel
theorem dX3_balanceSize_0 : decode cX3_balanceSize 0 = .ok (.aload_n 0, 1) := by decide +kernel
theorem dX3_balanceSize_1 : decode cX3_balanceSize 1 = .ok (.iconst 0, 1) := by decide +kernel
theorem dX3_balanceSize_2 : decode cX3_balanceSize 2 = .ok (.putfield 1, 3) := by decide +kernel
theorem dX3_balanceSize_5 : decode cX3_balanceSize 5 = .ok (.aload_n 0, 1) := by decide +kernel
theorem dX3_balanceSize_6 : decode cX3_balanceSize 6 = .ok (.getfield 52, 3) := by decide +kernel
theorem dX3_balanceSize_9 : decode cX3_balanceSize 9 = .ok (.ifCond .eq 11, 3) := by decide +kernel
theorem dX3_balanceSize_12 : decode cX3_balanceSize 12 = .ok (.aload_n 0, 1) := by decide +kernel
theorem dX3_balanceSize_13 : decode cX3_balanceSize 13 = .ok (.iload_n 1, 1) := by decide +kernel
theorem dX3_balanceSize_14 : decode cX3_balanceSize 14 = .ok (.invokevirtual 88, 3) := by decide +kernel
theorem dX3_balanceSize_17 : decode cX3_balanceSize 17 = .ok (.ifCond .eq 7, 3) := by decide +kernel
theorem dX3_balanceSize_20 : decode cX3_balanceSize 20 = .ok (.iconst (-1), 1) := by decide +kernel
theorem dX3_balanceSize_21 : decode cX3_balanceSize 21 = .ok (.goto 14, 3) := by decide +kernel
theorem dX3_balanceSize_24 : decode cX3_balanceSize 24 = .ok (.aload_n 0, 1) := by decide +kernel
theorem dX3_balanceSize_25 : decode cX3_balanceSize 25 = .ok (.getfield 13, 3) := by decide +kernel
theorem dX3_balanceSize_28 : decode cX3_balanceSize 28 = .ok (.bipush 22, 2) := by decide +kernel
theorem dX3_balanceSize_30 : decode cX3_balanceSize 30 = .ok (.iload_n 1, 1) := by decide +kernel
theorem dX3_balanceSize_31 : decode cX3_balanceSize 31 = .ok (.imul, 1) := by decide +kernel
theorem dX3_balanceSize_32 : decode cX3_balanceSize 32 = .ok (.invokestatic 107, 3) := by decide +kernel
theorem dX3_balanceSize_35 : decode cX3_balanceSize 35 = .ok (.ireturn, 1) := by decide +kernel
theorem dX3_balanceLimb_0 : decode cX3_balanceLimb 0 = .ok (.aload_n 0, 1) := by decide +kernel
theorem dX3_balanceLimb_1 : decode cX3_balanceLimb 1 = .ok (.iconst 0, 1) := by decide +kernel
theorem dX3_balanceLimb_2 : decode cX3_balanceLimb 2 = .ok (.putfield 1, 3) := by decide +kernel
theorem dX3_balanceLimb_5 : decode cX3_balanceLimb 5 = .ok (.aload_n 0, 1) := by decide +kernel
theorem dX3_balanceLimb_6 : decode cX3_balanceLimb 6 = .ok (.getfield 52, 3) := by decide +kernel
theorem dX3_balanceLimb_9 : decode cX3_balanceLimb 9 = .ok (.ifCond .eq 15, 3) := by decide +kernel
theorem dX3_balanceLimb_12 : decode cX3_balanceLimb 12 = .ok (.aload_n 0, 1) := by decide +kernel
theorem dX3_balanceLimb_13 : decode cX3_balanceLimb 13 = .ok (.iload_n 1, 1) := by decide +kernel
theorem dX3_balanceLimb_14 : decode cX3_balanceLimb 14 = .ok (.invokevirtual 88, 3) := by decide +kernel
theorem dX3_balanceLimb_17 : decode cX3_balanceLimb 17 = .ok (.ifCond .ne 7, 3) := by decide +kernel
theorem dX3_balanceLimb_20 : decode cX3_balanceLimb 20 = .ok (.iload_n 2, 1) := by decide +kernel
theorem dX3_balanceLimb_21 : decode cX3_balanceLimb 21 = .ok (.ifCond .ge 5, 3) := by decide +kernel
theorem dX3_balanceLimb_24 : decode cX3_balanceLimb 24 = .ok (.iconst (-1), 1) := by decide +kernel
theorem dX3_balanceLimb_25 : decode cX3_balanceLimb 25 = .ok (.ireturn, 1) := by decide +kernel
theorem dX3_balanceLimb_26 : decode cX3_balanceLimb 26 = .ok (.iload_n 2, 1) := by decide +kernel
theorem dX3_balanceLimb_27 : decode cX3_balanceLimb 27 = .ok (.bipush 22, 2) := by decide +kernel
theorem dX3_balanceLimb_29 : decode cX3_balanceLimb 29 = .ok (.if_icmp .ge 17, 3) := by decide +kernel
theorem dX3_balanceLimb_32 : decode cX3_balanceLimb 32 = .ok (.aload_n 0, 1) := by decide +kernel
theorem dX3_balanceLimb_33 : decode cX3_balanceLimb 33 = .ok (.getfield 13, 3) := by decide +kernel
theorem dX3_balanceLimb_36 : decode cX3_balanceLimb 36 = .ok (.bipush 22, 2) := by decide +kernel
theorem dX3_balanceLimb_38 : decode cX3_balanceLimb 38 = .ok (.iload_n 1, 1) := by decide +kernel
theorem dX3_balanceLimb_39 : decode cX3_balanceLimb 39 = .ok (.imul, 1) := by decide +kernel
theorem dX3_balanceLimb_40 : decode cX3_balanceLimb 40 = .ok (.iload_n 2, 1) := by decide +kernel
theorem dX3_balanceLimb_41 : decode cX3_balanceLimb 41 = .ok (.iadd, 1) := by decide +kernel
theorem dX3_balanceLimb_42 : decode cX3_balanceLimb 42 = .ok (.iaload, 1) := by decide +kernel
theorem dX3_balanceLimb_43 : decode cX3_balanceLimb 43 = .ok (.goto 4, 3) := by decide +kernel
theorem dX3_balanceLimb_46 : decode cX3_balanceLimb 46 = .ok (.iconst 0, 1) := by decide +kernel
theorem dX3_balanceLimb_47 : decode cX3_balanceLimb 47 = .ok (.ireturn, 1) := by decide +kernel
theorem dX3_totalLimb_0 : decode cX3_totalLimb 0 = .ok (.aload_n 0, 1) := by decide +kernel
theorem dX3_totalLimb_1 : decode cX3_totalLimb 1 = .ok (.iconst 0, 1) := by decide +kernel
theorem dX3_totalLimb_2 : decode cX3_totalLimb 2 = .ok (.putfield 1, 3) := by decide +kernel
theorem dX3_totalLimb_5 : decode cX3_totalLimb 5 = .ok (.aload_n 0, 1) := by decide +kernel
theorem dX3_totalLimb_6 : decode cX3_totalLimb 6 = .ok (.getfield 52, 3) := by decide +kernel
theorem dX3_totalLimb_9 : decode cX3_totalLimb 9 = .ok (.ifCond .eq 7, 3) := by decide +kernel
theorem dX3_totalLimb_12 : decode cX3_totalLimb 12 = .ok (.iload_n 1, 1) := by decide +kernel
theorem dX3_totalLimb_13 : decode cX3_totalLimb 13 = .ok (.ifCond .ge 5, 3) := by decide +kernel
theorem dX3_totalLimb_16 : decode cX3_totalLimb 16 = .ok (.iconst (-1), 1) := by decide +kernel
theorem dX3_totalLimb_17 : decode cX3_totalLimb 17 = .ok (.ireturn, 1) := by decide +kernel
theorem dX3_totalLimb_18 : decode cX3_totalLimb 18 = .ok (.iload_n 1, 1) := by decide +kernel
theorem dX3_totalLimb_19 : decode cX3_totalLimb 19 = .ok (.bipush 22, 2) := by decide +kernel
theorem dX3_totalLimb_21 : decode cX3_totalLimb 21 = .ok (.if_icmp .ge 16, 3) := by decide +kernel
theorem dX3_totalLimb_24 : decode cX3_totalLimb 24 = .ok (.aload_n 0, 1) := by decide +kernel
theorem dX3_totalLimb_25 : decode cX3_totalLimb 25 = .ok (.getfield 13, 3) := by decide +kernel
theorem dX3_totalLimb_28 : decode cX3_totalLimb 28 = .ok (.sipush 528, 3) := by decide +kernel
theorem dX3_totalLimb_31 : decode cX3_totalLimb 31 = .ok (.iload_n 1, 1) := by decide +kernel
theorem dX3_totalLimb_32 : decode cX3_totalLimb 32 = .ok (.iadd, 1) := by decide +kernel
theorem dX3_totalLimb_33 : decode cX3_totalLimb 33 = .ok (.iaload, 1) := by decide +kernel
theorem dX3_totalLimb_34 : decode cX3_totalLimb 34 = .ok (.goto 4, 3) := by decide +kernel
theorem dX3_totalLimb_37 : decode cX3_totalLimb 37 = .ok (.iconst 0, 1) := by decide +kernel
theorem dX3_totalLimb_38 : decode cX3_totalLimb 38 = .ok (.ireturn, 1) := by decide +kernel
theorem dX3_amount_0 : decode cX3_amount 0 = .ok (.aload_n 0, 1) := by decide +kernel
theorem dX3_amount_1 : decode cX3_amount 1 = .ok (.iconst 0, 1) := by decide +kernel
theorem dX3_amount_2 : decode cX3_amount 2 = .ok (.putfield 1, 3) := by decide +kernel
theorem dX3_amount_5 : decode cX3_amount 5 = .ok (.aload_n 0, 1) := by decide +kernel
theorem dX3_amount_6 : decode cX3_amount 6 = .ok (.getfield 52, 3) := by decide +kernel
theorem dX3_amount_9 : decode cX3_amount 9 = .ok (.ifCond .eq 7, 3) := by decide +kernel
theorem dX3_amount_12 : decode cX3_amount 12 = .ok (.iload_n 1, 1) := by decide +kernel
theorem dX3_amount_13 : decode cX3_amount 13 = .ok (.ifCond .ge 5, 3) := by decide +kernel
theorem dX3_amount_16 : decode cX3_amount 16 = .ok (.iconst (-1), 1) := by decide +kernel
theorem dX3_amount_17 : decode cX3_amount 17 = .ok (.ireturn, 1) := by decide +kernel
theorem dX3_amount_18 : decode cX3_amount 18 = .ok (.iload_n 1, 1) := by decide +kernel
theorem dX3_amount_19 : decode cX3_amount 19 = .ok (.bipush 22, 2) := by decide +kernel
theorem dX3_amount_21 : decode cX3_amount 21 = .ok (.if_icmp .ge 12, 3) := by decide +kernel
theorem dX3_amount_24 : decode cX3_amount 24 = .ok (.aload_n 0, 1) := by decide +kernel
theorem dX3_amount_25 : decode cX3_amount 25 = .ok (.getfield 23, 3) := by decide +kernel
theorem dX3_amount_28 : decode cX3_amount 28 = .ok (.iload_n 1, 1) := by decide +kernel
theorem dX3_amount_29 : decode cX3_amount 29 = .ok (.iaload, 1) := by decide +kernel
theorem dX3_amount_30 : decode cX3_amount 30 = .ok (.goto 4, 3) := by decide +kernel
theorem dX3_amount_33 : decode cX3_amount 33 = .ok (.iconst 0, 1) := by decide +kernel
theorem dX3_amount_34 : decode cX3_amount 34 = .ok (.ireturn, 1) := by decide +kernel
theorem dX3_compare_0 : decode cX3_compare 0 = .ok (.aload_n 0, 1) := by decide +kernel
theorem dX3_compare_1 : decode cX3_compare 1 = .ok (.iconst 0, 1) := by decide +kernel
theorem dX3_compare_2 : decode cX3_compare 2 = .ok (.putfield 1, 3) := by decide +kernel
theorem dX3_compare_5 : decode cX3_compare 5 = .ok (.aload_n 0, 1) := by decide +kernel
theorem dX3_compare_6 : decode cX3_compare 6 = .ok (.getfield 52, 3) := by decide +kernel
theorem dX3_compare_9 : decode cX3_compare 9 = .ok (.ifCond .eq 19, 3) := by decide +kernel
theorem dX3_compare_12 : decode cX3_compare 12 = .ok (.aload_n 0, 1) := by decide +kernel
theorem dX3_compare_13 : decode cX3_compare 13 = .ok (.iload_n 1, 1) := by decide +kernel
theorem dX3_compare_14 : decode cX3_compare 14 = .ok (.invokevirtual 88, 3) := by decide +kernel
theorem dX3_compare_17 : decode cX3_compare 17 = .ok (.ifCond .ne 11, 3) := by decide +kernel
theorem dX3_compare_20 : decode cX3_compare 20 = .ok (.aload_n 0, 1) := by decide +kernel
theorem dX3_compare_21 : decode cX3_compare 21 = .ok (.iload_n 2, 1) := by decide +kernel
theorem dX3_compare_22 : decode cX3_compare 22 = .ok (.invokevirtual 88, 3) := by decide +kernel
theorem dX3_compare_25 : decode cX3_compare 25 = .ok (.ifCond .eq 8, 3) := by decide +kernel
theorem dX3_compare_28 : decode cX3_compare 28 = .ok (.bipush (-2), 2) := by decide +kernel
theorem dX3_compare_30 : decode cX3_compare 30 = .ok (.goto 22, 3) := by decide +kernel
theorem dX3_compare_33 : decode cX3_compare 33 = .ok (.aload_n 0, 1) := by decide +kernel
theorem dX3_compare_34 : decode cX3_compare 34 = .ok (.getfield 13, 3) := by decide +kernel
theorem dX3_compare_37 : decode cX3_compare 37 = .ok (.bipush 22, 2) := by decide +kernel
theorem dX3_compare_39 : decode cX3_compare 39 = .ok (.iload_n 1, 1) := by decide +kernel
theorem dX3_compare_40 : decode cX3_compare 40 = .ok (.imul, 1) := by decide +kernel
theorem dX3_compare_41 : decode cX3_compare 41 = .ok (.aload_n 0, 1) := by decide +kernel
theorem dX3_compare_42 : decode cX3_compare 42 = .ok (.getfield 13, 3) := by decide +kernel
theorem dX3_compare_45 : decode cX3_compare 45 = .ok (.bipush 22, 2) := by decide +kernel
theorem dX3_compare_47 : decode cX3_compare 47 = .ok (.iload_n 2, 1) := by decide +kernel
theorem dX3_compare_48 : decode cX3_compare 48 = .ok (.imul, 1) := by decide +kernel
theorem dX3_compare_49 : decode cX3_compare 49 = .ok (.invokestatic 103, 3) := by decide +kernel
theorem dX3_compare_52 : decode cX3_compare 52 = .ok (.ireturn, 1) := by decide +kernel
theorem dX3_write_0 : decode cX3_write 0 = .ok (.aload_n 0, 1) := by decide +kernel
theorem dX3_write_1 : decode cX3_write 1 = .ok (.iconst 0, 1) := by decide +kernel
theorem dX3_write_2 : decode cX3_write 2 = .ok (.putfield 1, 3) := by decide +kernel
theorem dX3_write_5 : decode cX3_write 5 = .ok (.aload_n 0, 1) := by decide +kernel
theorem dX3_write_6 : decode cX3_write 6 = .ok (.getfield 52, 3) := by decide +kernel
theorem dX3_write_9 : decode cX3_write 9 = .ok (.ifCond .eq 11, 3) := by decide +kernel
theorem dX3_write_12 : decode cX3_write 12 = .ok (.aload_n 0, 1) := by decide +kernel
theorem dX3_write_13 : decode cX3_write 13 = .ok (.iload_n 1, 1) := by decide +kernel
theorem dX3_write_14 : decode cX3_write 14 = .ok (.invokevirtual 88, 3) := by decide +kernel
theorem dX3_write_17 : decode cX3_write 17 = .ok (.ifCond .eq 5, 3) := by decide +kernel
theorem dX3_write_20 : decode cX3_write 20 = .ok (.iconst (-1), 1) := by decide +kernel
theorem dX3_write_21 : decode cX3_write 21 = .ok (.ireturn, 1) := by decide +kernel
theorem dX3_write_22 : decode cX3_write 22 = .ok (.iconst 0, 1) := by decide +kernel
theorem dX3_write_23 : decode cX3_write 23 = .ok (.istore_n 2, 1) := by decide +kernel
theorem dX3_write_24 : decode cX3_write 24 = .ok (.iload_n 2, 1) := by decide +kernel
theorem dX3_write_25 : decode cX3_write 25 = .ok (.bipush 22, 2) := by decide +kernel
theorem dX3_write_27 : decode cX3_write 27 = .ok (.if_icmp .ge 26, 3) := by decide +kernel
theorem dX3_write_30 : decode cX3_write 30 = .ok (.aload_n 0, 1) := by decide +kernel
theorem dX3_write_31 : decode cX3_write 31 = .ok (.getfield 26, 3) := by decide +kernel
theorem dX3_write_34 : decode cX3_write 34 = .ok (.iload_n 2, 1) := by decide +kernel
theorem dX3_write_35 : decode cX3_write 35 = .ok (.aload_n 0, 1) := by decide +kernel
theorem dX3_write_36 : decode cX3_write 36 = .ok (.getfield 13, 3) := by decide +kernel
theorem dX3_write_39 : decode cX3_write 39 = .ok (.bipush 22, 2) := by decide +kernel
theorem dX3_write_41 : decode cX3_write 41 = .ok (.iload_n 1, 1) := by decide +kernel
theorem dX3_write_42 : decode cX3_write 42 = .ok (.imul, 1) := by decide +kernel
theorem dX3_write_43 : decode cX3_write 43 = .ok (.iload_n 2, 1) := by decide +kernel
theorem dX3_write_44 : decode cX3_write 44 = .ok (.iadd, 1) := by decide +kernel
theorem dX3_write_45 : decode cX3_write 45 = .ok (.iaload, 1) := by decide +kernel
theorem dX3_write_46 : decode cX3_write 46 = .ok (.iastore, 1) := by decide +kernel
theorem dX3_write_47 : decode cX3_write 47 = .ok (.iinc 2 1, 3) := by decide +kernel
theorem dX3_write_50 : decode cX3_write 50 = .ok (.goto (-26), 3) := by decide +kernel
theorem dX3_write_53 : decode cX3_write 53 = .ok (.iconst 0, 1) := by decide +kernel
theorem dX3_write_54 : decode cX3_write 54 = .ok (.istore_n 2, 1) := by decide +kernel
theorem dX3_write_55 : decode cX3_write 55 = .ok (.lconst 0, 1) := by decide +kernel
theorem dX3_write_56 : decode cX3_write 56 = .ok (.lstore_n 3, 1) := by decide +kernel
theorem dX3_write_57 : decode cX3_write 57 = .ok (.bipush 21, 2) := by decide +kernel
theorem dX3_write_59 : decode cX3_write 59 = .ok (.istore 5, 2) := by decide +kernel
theorem dX3_write_61 : decode cX3_write 61 = .ok (.iload 5, 2) := by decide +kernel
theorem dX3_write_63 : decode cX3_write 63 = .ok (.ifCond .lt 43, 3) := by decide +kernel
theorem dX3_write_66 : decode cX3_write 66 = .ok (.lload_n 3, 1) := by decide +kernel
theorem dX3_write_67 : decode cX3_write 67 = .ok (.ldc2_w 86, 3) := by decide +kernel
theorem dX3_write_70 : decode cX3_write 70 = .ok (.lmul, 1) := by decide +kernel
theorem dX3_write_71 : decode cX3_write 71 = .ok (.aload_n 0, 1) := by decide +kernel
theorem dX3_write_72 : decode cX3_write 72 = .ok (.getfield 26, 3) := by decide +kernel
theorem dX3_write_75 : decode cX3_write 75 = .ok (.iload 5, 2) := by decide +kernel
theorem dX3_write_77 : decode cX3_write 77 = .ok (.iaload, 1) := by decide +kernel
theorem dX3_write_78 : decode cX3_write 78 = .ok (.i2l, 1) := by decide +kernel
theorem dX3_write_79 : decode cX3_write 79 = .ok (.ladd, 1) := by decide +kernel
theorem dX3_write_80 : decode cX3_write 80 = .ok (.lstore_n 3, 1) := by decide +kernel
theorem dX3_write_81 : decode cX3_write 81 = .ok (.aload_n 0, 1) := by decide +kernel
theorem dX3_write_82 : decode cX3_write 82 = .ok (.getfield 26, 3) := by decide +kernel
theorem dX3_write_85 : decode cX3_write 85 = .ok (.iload 5, 2) := by decide +kernel
theorem dX3_write_87 : decode cX3_write 87 = .ok (.lload_n 3, 1) := by decide +kernel
theorem dX3_write_88 : decode cX3_write 88 = .ok (.ldc2_w 111, 3) := by decide +kernel
theorem dX3_write_91 : decode cX3_write 91 = .ok (.ldiv, 1) := by decide +kernel
theorem dX3_write_92 : decode cX3_write 92 = .ok (.l2i, 1) := by decide +kernel
theorem dX3_write_93 : decode cX3_write 93 = .ok (.iastore, 1) := by decide +kernel
theorem dX3_write_94 : decode cX3_write 94 = .ok (.lload_n 3, 1) := by decide +kernel
theorem dX3_write_95 : decode cX3_write 95 = .ok (.ldc2_w 111, 3) := by decide +kernel
theorem dX3_write_98 : decode cX3_write 98 = .ok (.lrem, 1) := by decide +kernel
theorem dX3_write_99 : decode cX3_write 99 = .ok (.lstore_n 3, 1) := by decide +kernel
theorem dX3_write_100 : decode cX3_write 100 = .ok (.iinc 5 (-1), 3) := by decide +kernel
theorem dX3_write_103 : decode cX3_write 103 = .ok (.goto (-42), 3) := by decide +kernel
theorem dX3_write_106 : decode cX3_write 106 = .ok (.aload_n 0, 1) := by decide +kernel
theorem dX3_write_107 : decode cX3_write 107 = .ok (.getfield 39, 3) := by decide +kernel
theorem dX3_write_110 : decode cX3_write 110 = .ok (.iload_n 2, 1) := by decide +kernel
theorem dX3_write_111 : decode cX3_write 111 = .ok (.ldc2_w 113, 3) := by decide +kernel
theorem dX3_write_114 : decode cX3_write 114 = .ok (.lload_n 3, 1) := by decide +kernel
theorem dX3_write_115 : decode cX3_write 115 = .ok (.ladd, 1) := by decide +kernel
theorem dX3_write_116 : decode cX3_write 116 = .ok (.l2i, 1) := by decide +kernel
theorem dX3_write_117 : decode cX3_write 117 = .ok (.i2b, 1) := by decide +kernel
theorem dX3_write_118 : decode cX3_write 118 = .ok (.bastore, 1) := by decide +kernel
theorem dX3_write_119 : decode cX3_write 119 = .ok (.iinc 2 1, 3) := by decide +kernel
theorem dX3_write_122 : decode cX3_write 122 = .ok (.aload_n 0, 1) := by decide +kernel
theorem dX3_write_123 : decode cX3_write 123 = .ok (.getfield 26, 3) := by decide +kernel
theorem dX3_write_126 : decode cX3_write 126 = .ok (.iconst 0, 1) := by decide +kernel
theorem dX3_write_127 : decode cX3_write 127 = .ok (.invokestatic 107, 3) := by decide +kernel
theorem dX3_write_130 : decode cX3_write 130 = .ok (.ifCond .gt (-75), 3) := by decide +kernel
theorem dX3_write_133 : decode cX3_write 133 = .ok (.iconst 0, 1) := by decide +kernel
theorem dX3_write_134 : decode cX3_write 134 = .ok (.istore_n 3, 1) := by decide +kernel
theorem dX3_write_135 : decode cX3_write 135 = .ok (.iload_n 2, 1) := by decide +kernel
theorem dX3_write_136 : decode cX3_write 136 = .ok (.iconst 1, 1) := by decide +kernel
theorem dX3_write_137 : decode cX3_write 137 = .ok (.isub, 1) := by decide +kernel
theorem dX3_write_138 : decode cX3_write 138 = .ok (.istore 4, 2) := by decide +kernel
theorem dX3_write_140 : decode cX3_write 140 = .ok (.iload_n 3, 1) := by decide +kernel
theorem dX3_write_141 : decode cX3_write 141 = .ok (.iload 4, 2) := by decide +kernel
theorem dX3_write_143 : decode cX3_write 143 = .ok (.if_icmp .ge 42, 3) := by decide +kernel
theorem dX3_write_146 : decode cX3_write 146 = .ok (.aload_n 0, 1) := by decide +kernel
theorem dX3_write_147 : decode cX3_write 147 = .ok (.getfield 39, 3) := by decide +kernel
theorem dX3_write_150 : decode cX3_write 150 = .ok (.iload_n 3, 1) := by decide +kernel
theorem dX3_write_151 : decode cX3_write 151 = .ok (.baload, 1) := by decide +kernel
theorem dX3_write_152 : decode cX3_write 152 = .ok (.istore 5, 2) := by decide +kernel
theorem dX3_write_154 : decode cX3_write 154 = .ok (.aload_n 0, 1) := by decide +kernel
theorem dX3_write_155 : decode cX3_write 155 = .ok (.getfield 39, 3) := by decide +kernel
theorem dX3_write_158 : decode cX3_write 158 = .ok (.iload_n 3, 1) := by decide +kernel
theorem dX3_write_159 : decode cX3_write 159 = .ok (.aload_n 0, 1) := by decide +kernel
theorem dX3_write_160 : decode cX3_write 160 = .ok (.getfield 39, 3) := by decide +kernel
theorem dX3_write_163 : decode cX3_write 163 = .ok (.iload 4, 2) := by decide +kernel
theorem dX3_write_165 : decode cX3_write 165 = .ok (.baload, 1) := by decide +kernel
theorem dX3_write_166 : decode cX3_write 166 = .ok (.bastore, 1) := by decide +kernel
theorem dX3_write_167 : decode cX3_write 167 = .ok (.aload_n 0, 1) := by decide +kernel
theorem dX3_write_168 : decode cX3_write 168 = .ok (.getfield 39, 3) := by decide +kernel
theorem dX3_write_171 : decode cX3_write 171 = .ok (.iload 4, 2) := by decide +kernel
theorem dX3_write_173 : decode cX3_write 173 = .ok (.iload 5, 2) := by decide +kernel
theorem dX3_write_175 : decode cX3_write 175 = .ok (.bastore, 1) := by decide +kernel
theorem dX3_write_176 : decode cX3_write 176 = .ok (.iinc 3 1, 3) := by decide +kernel
theorem dX3_write_179 : decode cX3_write 179 = .ok (.iinc 4 (-1), 3) := by decide +kernel
theorem dX3_write_182 : decode cX3_write 182 = .ok (.goto (-42), 3) := by decide +kernel
theorem dX3_write_185 : decode cX3_write 185 = .ok (.aload_n 0, 1) := by decide +kernel
theorem dX3_write_186 : decode cX3_write 186 = .ok (.iload_n 2, 1) := by decide +kernel
theorem dX3_write_187 : decode cX3_write 187 = .ok (.putfield 115, 3) := by decide +kernel
theorem dX3_write_190 : decode cX3_write 190 = .ok (.iload_n 2, 1) := by decide +kernel
theorem dX3_write_191 : decode cX3_write 191 = .ok (.ireturn, 1) := by decide +kernel
theorem dX3_octet_0 : decode cX3_octet 0 = .ok (.aload_n 0, 1) := by decide +kernel
theorem dX3_octet_1 : decode cX3_octet 1 = .ok (.iload_n 1, 1) := by decide +kernel
theorem dX3_octet_2 : decode cX3_octet 2 = .ok (.ifCond .lt 11, 3) := by decide +kernel
theorem dX3_octet_5 : decode cX3_octet 5 = .ok (.iload_n 1, 1) := by decide +kernel
theorem dX3_octet_6 : decode cX3_octet 6 = .ok (.aload_n 0, 1) := by decide +kernel
theorem dX3_octet_7 : decode cX3_octet 7 = .ok (.getfield 115, 3) := by decide +kernel
theorem dX3_octet_10 : decode cX3_octet 10 = .ok (.if_icmp .lt 7, 3) := by decide +kernel
theorem dX3_octet_13 : decode cX3_octet 13 = .ok (.iconst 1, 1) := by decide +kernel
theorem dX3_octet_14 : decode cX3_octet 14 = .ok (.goto 4, 3) := by decide +kernel
theorem dX3_octet_17 : decode cX3_octet 17 = .ok (.iconst 0, 1) := by decide +kernel
theorem dX3_octet_18 : decode cX3_octet 18 = .ok (.putfield 1, 3) := by decide +kernel
theorem dX3_octet_21 : decode cX3_octet 21 = .ok (.aload_n 0, 1) := by decide +kernel
theorem dX3_octet_22 : decode cX3_octet 22 = .ok (.getfield 1, 3) := by decide +kernel
theorem dX3_octet_25 : decode cX3_octet 25 = .ok (.iconst 1, 1) := by decide +kernel
theorem dX3_octet_26 : decode cX3_octet 26 = .ok (.if_icmp .ne 7, 3) := by decide +kernel
theorem dX3_octet_29 : decode cX3_octet 29 = .ok (.iconst 0, 1) := by decide +kernel
theorem dX3_octet_30 : decode cX3_octet 30 = .ok (.goto 9, 3) := by decide +kernel
theorem dX3_octet_33 : decode cX3_octet 33 = .ok (.aload_n 0, 1) := by decide +kernel
theorem dX3_octet_34 : decode cX3_octet 34 = .ok (.getfield 39, 3) := by decide +kernel
theorem dX3_octet_37 : decode cX3_octet 37 = .ok (.iload_n 1, 1) := by decide +kernel
theorem dX3_octet_38 : decode cX3_octet 38 = .ok (.baload, 1) := by decide +kernel
theorem dX3_octet_39 : decode cX3_octet 39 = .ok (.ireturn, 1) := by decide +kernel
theorem dX3_count_0 : decode cX3_count 0 = .ok (.aload_n 0, 1) := by decide +kernel
theorem dX3_count_1 : decode cX3_count 1 = .ok (.iconst 0, 1) := by decide +kernel
theorem dX3_count_2 : decode cX3_count 2 = .ok (.putfield 1, 3) := by decide +kernel
theorem dX3_count_5 : decode cX3_count 5 = .ok (.iload_n 1, 1) := by decide +kernel
theorem dX3_count_6 : decode cX3_count 6 = .ok (.tableswitch 124 0 8 #[50, 55, 60, 65, 70, 83, 88, 93, 115], 50) := by decide +kernel
theorem dX3_count_56 : decode cX3_count 56 = .ok (.aload_n 0, 1) := by decide +kernel
theorem dX3_count_57 : decode cX3_count 57 = .ok (.getfield 43, 3) := by decide +kernel
theorem dX3_count_60 : decode cX3_count 60 = .ok (.ireturn, 1) := by decide +kernel
theorem dX3_count_61 : decode cX3_count 61 = .ok (.aload_n 0, 1) := by decide +kernel
theorem dX3_count_62 : decode cX3_count 62 = .ok (.getfield 46, 3) := by decide +kernel
theorem dX3_count_65 : decode cX3_count 65 = .ok (.ireturn, 1) := by decide +kernel
theorem dX3_count_66 : decode cX3_count 66 = .ok (.aload_n 0, 1) := by decide +kernel
theorem dX3_count_67 : decode cX3_count 67 = .ok (.getfield 49, 3) := by decide +kernel
theorem dX3_count_70 : decode cX3_count 70 = .ok (.ireturn, 1) := by decide +kernel
theorem dX3_count_71 : decode cX3_count 71 = .ok (.aload_n 0, 1) := by decide +kernel
theorem dX3_count_72 : decode cX3_count 72 = .ok (.getfield 62, 3) := by decide +kernel
theorem dX3_count_75 : decode cX3_count 75 = .ok (.ireturn, 1) := by decide +kernel
theorem dX3_count_76 : decode cX3_count 76 = .ok (.aload_n 0, 1) := by decide +kernel
theorem dX3_count_77 : decode cX3_count 77 = .ok (.getfield 52, 3) := by decide +kernel
theorem dX3_count_80 : decode cX3_count 80 = .ok (.ifCond .eq 7, 3) := by decide +kernel
theorem dX3_count_83 : decode cX3_count 83 = .ok (.iconst 1, 1) := by decide +kernel
theorem dX3_count_84 : decode cX3_count 84 = .ok (.goto 4, 3) := by decide +kernel
theorem dX3_count_87 : decode cX3_count 87 = .ok (.iconst 0, 1) := by decide +kernel
theorem dX3_count_88 : decode cX3_count 88 = .ok (.ireturn, 1) := by decide +kernel
theorem dX3_count_89 : decode cX3_count 89 = .ok (.aload_n 0, 1) := by decide +kernel
theorem dX3_count_90 : decode cX3_count 90 = .ok (.invokevirtual 77, 3) := by decide +kernel
theorem dX3_count_93 : decode cX3_count 93 = .ok (.ireturn, 1) := by decide +kernel
theorem dX3_count_94 : decode cX3_count 94 = .ok (.aload_n 0, 1) := by decide +kernel
theorem dX3_count_95 : decode cX3_count 95 = .ok (.getfield 36, 3) := by decide +kernel
theorem dX3_count_98 : decode cX3_count 98 = .ok (.ireturn, 1) := by decide +kernel
theorem dX3_count_99 : decode cX3_count 99 = .ok (.aload_n 0, 1) := by decide +kernel
theorem dX3_count_100 : decode cX3_count 100 = .ok (.getfield 52, 3) := by decide +kernel
theorem dX3_count_103 : decode cX3_count 103 = .ok (.ifCond .eq 16, 3) := by decide +kernel
theorem dX3_count_106 : decode cX3_count 106 = .ok (.aload_n 0, 1) := by decide +kernel
theorem dX3_count_107 : decode cX3_count 107 = .ok (.getfield 13, 3) := by decide +kernel
theorem dX3_count_110 : decode cX3_count 110 = .ok (.sipush 528, 3) := by decide +kernel
theorem dX3_count_113 : decode cX3_count 113 = .ok (.invokestatic 107, 3) := by decide +kernel
theorem dX3_count_116 : decode cX3_count 116 = .ok (.goto 4, 3) := by decide +kernel
theorem dX3_count_119 : decode cX3_count 119 = .ok (.iconst 0, 1) := by decide +kernel
theorem dX3_count_120 : decode cX3_count 120 = .ok (.ireturn, 1) := by decide +kernel
theorem dX3_count_121 : decode cX3_count 121 = .ok (.aload_n 0, 1) := by decide +kernel
theorem dX3_count_122 : decode cX3_count 122 = .ok (.getfield 23, 3) := by decide +kernel
theorem dX3_count_125 : decode cX3_count 125 = .ok (.iconst 0, 1) := by decide +kernel
theorem dX3_count_126 : decode cX3_count 126 = .ok (.invokestatic 107, 3) := by decide +kernel
theorem dX3_count_129 : decode cX3_count 129 = .ok (.ireturn, 1) := by decide +kernel
theorem dX3_count_130 : decode cX3_count 130 = .ok (.iconst (-1), 1) := by decide +kernel
theorem dX3_count_131 : decode cX3_count 131 = .ok (.ireturn, 1) := by decide +kernel
theorem dJ6_compare_7cf53_0 : decode cJ6_compare_7cf53 0 = .ok (.iload_n 0, 1) := by decide +kernel
theorem dJ6_compare_7cf53_1 : decode cJ6_compare_7cf53 1 = .ok (.iload_n 1, 1) := by decide +kernel
theorem dJ6_compare_7cf53_2 : decode cJ6_compare_7cf53 2 = .ok (.if_icmp .ge 7, 3) := by decide +kernel
theorem dJ6_compare_7cf53_5 : decode cJ6_compare_7cf53 5 = .ok (.iconst (-1), 1) := by decide +kernel
theorem dJ6_compare_7cf53_6 : decode cJ6_compare_7cf53 6 = .ok (.goto 13, 3) := by decide +kernel
theorem dJ6_compare_7cf53_9 : decode cJ6_compare_7cf53 9 = .ok (.iload_n 0, 1) := by decide +kernel
theorem dJ6_compare_7cf53_10 : decode cJ6_compare_7cf53 10 = .ok (.iload_n 1, 1) := by decide +kernel
theorem dJ6_compare_7cf53_11 : decode cJ6_compare_7cf53 11 = .ok (.if_icmp .ne 7, 3) := by decide +kernel
theorem dJ6_compare_7cf53_14 : decode cJ6_compare_7cf53 14 = .ok (.iconst 0, 1) := by decide +kernel
theorem dJ6_compare_7cf53_15 : decode cJ6_compare_7cf53 15 = .ok (.goto 4, 3) := by decide +kernel
theorem dJ6_compare_7cf53_18 : decode cJ6_compare_7cf53 18 = .ok (.iconst 1, 1) := by decide +kernel
theorem dJ6_compare_7cf53_19 : decode cJ6_compare_7cf53 19 = .ok (.ireturn, 1) := by decide +kernel
theorem dJ6_bitCount_0f7a4_0 : decode cJ6_bitCount_0f7a4 0 = .ok (.iload_n 0, 1) := by decide +kernel
theorem dJ6_bitCount_0f7a4_1 : decode cJ6_bitCount_0f7a4 1 = .ok (.iload_n 0, 1) := by decide +kernel
theorem dJ6_bitCount_0f7a4_2 : decode cJ6_bitCount_0f7a4 2 = .ok (.iconst 1, 1) := by decide +kernel
theorem dJ6_bitCount_0f7a4_3 : decode cJ6_bitCount_0f7a4 3 = .ok (.iushr, 1) := by decide +kernel
theorem dJ6_bitCount_0f7a4_4 : decode cJ6_bitCount_0f7a4 4 = .ok (.ldc_w 265, 3) := by decide +kernel
theorem dJ6_bitCount_0f7a4_7 : decode cJ6_bitCount_0f7a4 7 = .ok (.iand, 1) := by decide +kernel
theorem dJ6_bitCount_0f7a4_8 : decode cJ6_bitCount_0f7a4 8 = .ok (.isub, 1) := by decide +kernel
theorem dJ6_bitCount_0f7a4_9 : decode cJ6_bitCount_0f7a4 9 = .ok (.istore_n 0, 1) := by decide +kernel
theorem dJ6_bitCount_0f7a4_10 : decode cJ6_bitCount_0f7a4 10 = .ok (.iload_n 0, 1) := by decide +kernel
theorem dJ6_bitCount_0f7a4_11 : decode cJ6_bitCount_0f7a4 11 = .ok (.ldc_w 266, 3) := by decide +kernel
theorem dJ6_bitCount_0f7a4_14 : decode cJ6_bitCount_0f7a4 14 = .ok (.iand, 1) := by decide +kernel
theorem dJ6_bitCount_0f7a4_15 : decode cJ6_bitCount_0f7a4 15 = .ok (.iload_n 0, 1) := by decide +kernel
theorem dJ6_bitCount_0f7a4_16 : decode cJ6_bitCount_0f7a4 16 = .ok (.iconst 2, 1) := by decide +kernel
theorem dJ6_bitCount_0f7a4_17 : decode cJ6_bitCount_0f7a4 17 = .ok (.iushr, 1) := by decide +kernel
theorem dJ6_bitCount_0f7a4_18 : decode cJ6_bitCount_0f7a4 18 = .ok (.ldc_w 266, 3) := by decide +kernel
theorem dJ6_bitCount_0f7a4_21 : decode cJ6_bitCount_0f7a4 21 = .ok (.iand, 1) := by decide +kernel
theorem dJ6_bitCount_0f7a4_22 : decode cJ6_bitCount_0f7a4 22 = .ok (.iadd, 1) := by decide +kernel
theorem dJ6_bitCount_0f7a4_23 : decode cJ6_bitCount_0f7a4 23 = .ok (.istore_n 0, 1) := by decide +kernel
theorem dJ6_bitCount_0f7a4_24 : decode cJ6_bitCount_0f7a4 24 = .ok (.iload_n 0, 1) := by decide +kernel
theorem dJ6_bitCount_0f7a4_25 : decode cJ6_bitCount_0f7a4 25 = .ok (.iload_n 0, 1) := by decide +kernel
theorem dJ6_bitCount_0f7a4_26 : decode cJ6_bitCount_0f7a4 26 = .ok (.iconst 4, 1) := by decide +kernel
theorem dJ6_bitCount_0f7a4_27 : decode cJ6_bitCount_0f7a4 27 = .ok (.iushr, 1) := by decide +kernel
theorem dJ6_bitCount_0f7a4_28 : decode cJ6_bitCount_0f7a4 28 = .ok (.iadd, 1) := by decide +kernel
theorem dJ6_bitCount_0f7a4_29 : decode cJ6_bitCount_0f7a4 29 = .ok (.ldc_w 267, 3) := by decide +kernel
theorem dJ6_bitCount_0f7a4_32 : decode cJ6_bitCount_0f7a4 32 = .ok (.iand, 1) := by decide +kernel
theorem dJ6_bitCount_0f7a4_33 : decode cJ6_bitCount_0f7a4 33 = .ok (.istore_n 0, 1) := by decide +kernel
theorem dJ6_bitCount_0f7a4_34 : decode cJ6_bitCount_0f7a4 34 = .ok (.iload_n 0, 1) := by decide +kernel
theorem dJ6_bitCount_0f7a4_35 : decode cJ6_bitCount_0f7a4 35 = .ok (.iload_n 0, 1) := by decide +kernel
theorem dJ6_bitCount_0f7a4_36 : decode cJ6_bitCount_0f7a4 36 = .ok (.bipush 8, 2) := by decide +kernel
theorem dJ6_bitCount_0f7a4_38 : decode cJ6_bitCount_0f7a4 38 = .ok (.iushr, 1) := by decide +kernel
theorem dJ6_bitCount_0f7a4_39 : decode cJ6_bitCount_0f7a4 39 = .ok (.iadd, 1) := by decide +kernel
theorem dJ6_bitCount_0f7a4_40 : decode cJ6_bitCount_0f7a4 40 = .ok (.istore_n 0, 1) := by decide +kernel
theorem dJ6_bitCount_0f7a4_41 : decode cJ6_bitCount_0f7a4 41 = .ok (.iload_n 0, 1) := by decide +kernel
theorem dJ6_bitCount_0f7a4_42 : decode cJ6_bitCount_0f7a4 42 = .ok (.iload_n 0, 1) := by decide +kernel
theorem dJ6_bitCount_0f7a4_43 : decode cJ6_bitCount_0f7a4 43 = .ok (.bipush 16, 2) := by decide +kernel
theorem dJ6_bitCount_0f7a4_45 : decode cJ6_bitCount_0f7a4 45 = .ok (.iushr, 1) := by decide +kernel
theorem dJ6_bitCount_0f7a4_46 : decode cJ6_bitCount_0f7a4 46 = .ok (.iadd, 1) := by decide +kernel
theorem dJ6_bitCount_0f7a4_47 : decode cJ6_bitCount_0f7a4 47 = .ok (.istore_n 0, 1) := by decide +kernel
theorem dJ6_bitCount_0f7a4_48 : decode cJ6_bitCount_0f7a4 48 = .ok (.iload_n 0, 1) := by decide +kernel
theorem dJ6_bitCount_0f7a4_49 : decode cJ6_bitCount_0f7a4 49 = .ok (.bipush 63, 2) := by decide +kernel
theorem dJ6_bitCount_0f7a4_51 : decode cJ6_bitCount_0f7a4 51 = .ok (.iand, 1) := by decide +kernel
theorem dJ6_bitCount_0f7a4_52 : decode cJ6_bitCount_0f7a4 52 = .ok (.ireturn, 1) := by decide +kernel
theorem dJ9_max_7cf53_0 : decode cJ9_max_7cf53 0 = .ok (.iload_n 0, 1) := by decide +kernel
theorem dJ9_max_7cf53_1 : decode cJ9_max_7cf53 1 = .ok (.iload_n 1, 1) := by decide +kernel
theorem dJ9_max_7cf53_2 : decode cJ9_max_7cf53 2 = .ok (.if_icmp .lt 7, 3) := by decide +kernel
theorem dJ9_max_7cf53_5 : decode cJ9_max_7cf53 5 = .ok (.iload_n 0, 1) := by decide +kernel
theorem dJ9_max_7cf53_6 : decode cJ9_max_7cf53 6 = .ok (.goto 4, 3) := by decide +kernel
theorem dJ9_max_7cf53_9 : decode cJ9_max_7cf53 9 = .ok (.iload_n 1, 1) := by decide +kernel
theorem dJ9_max_7cf53_10 : decode cJ9_max_7cf53 10 = .ok (.ireturn, 1) := by decide +kernel
theorem dJ9_min_7cf53_0 : decode cJ9_min_7cf53 0 = .ok (.iload_n 0, 1) := by decide +kernel
theorem dJ9_min_7cf53_1 : decode cJ9_min_7cf53 1 = .ok (.iload_n 1, 1) := by decide +kernel
theorem dJ9_min_7cf53_2 : decode cJ9_min_7cf53 2 = .ok (.if_icmp .gt 7, 3) := by decide +kernel
theorem dJ9_min_7cf53_5 : decode cJ9_min_7cf53 5 = .ok (.iload_n 0, 1) := by decide +kernel
theorem dJ9_min_7cf53_6 : decode cJ9_min_7cf53 6 = .ok (.goto 4, 3) := by decide +kernel
theorem dJ9_min_7cf53_9 : decode cJ9_min_7cf53 9 = .ok (.iload_n 1, 1) := by decide +kernel
theorem dJ9_min_7cf53_10 : decode cJ9_min_7cf53 10 = .ok (.ireturn, 1) := by decide +kernel
theorem dL_cell_0 : decode cL_cell 0 = .ok (.iload_n 1, 1) := by decide +kernel
theorem dL_cell_1 : decode cL_cell 1 = .ok (.aload_n 0, 1) := by decide +kernel
theorem dL_cell_2 : decode cL_cell 2 = .ok (.arraylength, 1) := by decide +kernel
theorem dL_cell_3 : decode cL_cell 3 = .ok (.if_icmp .ge 9, 3) := by decide +kernel
theorem dL_cell_6 : decode cL_cell 6 = .ok (.aload_n 0, 1) := by decide +kernel
theorem dL_cell_7 : decode cL_cell 7 = .ok (.iload_n 1, 1) := by decide +kernel
theorem dL_cell_8 : decode cL_cell 8 = .ok (.iaload, 1) := by decide +kernel
theorem dL_cell_9 : decode cL_cell 9 = .ok (.goto 4, 3) := by decide +kernel
theorem dL_cell_12 : decode cL_cell 12 = .ok (.iconst 0, 1) := by decide +kernel
theorem dL_cell_13 : decode cL_cell 13 = .ok (.ireturn, 1) := by decide +kernel
theorem dL_octet_0 : decode cL_octet 0 = .ok (.aload_n 2, 1) := by decide +kernel
theorem dL_octet_1 : decode cL_octet 1 = .ok (.iconst 0, 1) := by decide +kernel
theorem dL_octet_2 : decode cL_octet 2 = .ok (.aload_n 0, 1) := by decide +kernel
theorem dL_octet_3 : decode cL_octet 3 = .ok (.iload_n 1, 1) := by decide +kernel
theorem dL_octet_4 : decode cL_octet 4 = .ok (.invokevirtual 7, 3) := by decide +kernel
theorem dL_octet_7 : decode cL_octet 7 = .ok (.i2l, 1) := by decide +kernel
theorem dL_octet_8 : decode cL_octet 8 = .ok (.lastore, 1) := by decide +kernel
theorem dL_octet_9 : decode cL_octet 9 = .ok (.goto 6, 3) := by decide +kernel
theorem dL_octet_12 : decode cL_octet 12 = .ok (.astore_n 3, 1) := by decide +kernel
theorem dL_octet_13 : decode cL_octet 13 = .ok (.iconst 1, 1) := by decide +kernel
theorem dL_octet_14 : decode cL_octet 14 = .ok (.ireturn, 1) := by decide +kernel
theorem dL_octet_15 : decode cL_octet 15 = .ok (.iconst 0, 1) := by decide +kernel
theorem dL_octet_16 : decode cL_octet 16 = .ok (.ireturn, 1) := by decide +kernel
theorem dL_law_0 : decode cL_law 0 = .ok (.new 8, 3) := by decide +kernel
theorem dL_law_3 : decode cL_law 3 = .ok (.dup, 1) := by decide +kernel
theorem dL_law_4 : decode cL_law 4 = .ok (.aload_n 0, 1) := by decide +kernel
theorem dL_law_5 : decode cL_law 5 = .ok (.iconst 0, 1) := by decide +kernel
theorem dL_law_6 : decode cL_law 6 = .ok (.invokestatic 15, 3) := by decide +kernel
theorem dL_law_9 : decode cL_law 9 = .ok (.aload_n 0, 1) := by decide +kernel
theorem dL_law_10 : decode cL_law 10 = .ok (.iconst 1, 1) := by decide +kernel
theorem dL_law_11 : decode cL_law 11 = .ok (.invokestatic 15, 3) := by decide +kernel
theorem dL_law_14 : decode cL_law 14 = .ok (.aload_n 0, 1) := by decide +kernel
theorem dL_law_15 : decode cL_law 15 = .ok (.iconst 2, 1) := by decide +kernel
theorem dL_law_16 : decode cL_law 16 = .ok (.invokestatic 15, 3) := by decide +kernel
theorem dL_law_19 : decode cL_law 19 = .ok (.invokespecial 21, 3) := by decide +kernel
theorem dL_law_22 : decode cL_law 22 = .ok (.astore_n 1, 1) := by decide +kernel
theorem dL_law_23 : decode cL_law 23 = .ok (.new 24, 3) := by decide +kernel
theorem dL_law_26 : decode cL_law 26 = .ok (.dup, 1) := by decide +kernel
theorem dL_law_27 : decode cL_law 27 = .ok (.aload_n 0, 1) := by decide +kernel
theorem dL_law_28 : decode cL_law 28 = .ok (.iconst 0, 1) := by decide +kernel
theorem dL_law_29 : decode cL_law 29 = .ok (.invokestatic 15, 3) := by decide +kernel
theorem dL_law_32 : decode cL_law 32 = .ok (.aload_n 0, 1) := by decide +kernel
theorem dL_law_33 : decode cL_law 33 = .ok (.iconst 1, 1) := by decide +kernel
theorem dL_law_34 : decode cL_law 34 = .ok (.invokestatic 15, 3) := by decide +kernel
theorem dL_law_37 : decode cL_law 37 = .ok (.aload_n 0, 1) := by decide +kernel
theorem dL_law_38 : decode cL_law 38 = .ok (.iconst 2, 1) := by decide +kernel
theorem dL_law_39 : decode cL_law 39 = .ok (.invokestatic 15, 3) := by decide +kernel
theorem dL_law_42 : decode cL_law 42 = .ok (.invokespecial 26, 3) := by decide +kernel
theorem dL_law_45 : decode cL_law 45 = .ok (.astore_n 2, 1) := by decide +kernel
theorem dL_law_46 : decode cL_law 46 = .ok (.iconst 1, 1) := by decide +kernel
theorem dL_law_47 : decode cL_law 47 = .ok (.newarray .long, 2) := by decide +kernel
theorem dL_law_49 : decode cL_law 49 = .ok (.astore_n 3, 1) := by decide +kernel
theorem dL_law_50 : decode cL_law 50 = .ok (.iconst 3, 1) := by decide +kernel
theorem dL_law_51 : decode cL_law 51 = .ok (.istore 4, 2) := by decide +kernel
theorem dL_law_53 : decode cL_law 53 = .ok (.iload 4, 2) := by decide +kernel
theorem dL_law_55 : decode cL_law 55 = .ok (.aload_n 0, 1) := by decide +kernel
theorem dL_law_56 : decode cL_law 56 = .ok (.arraylength, 1) := by decide +kernel
theorem dL_law_57 : decode cL_law 57 = .ok (.iconst 4, 1) := by decide +kernel
theorem dL_law_58 : decode cL_law 58 = .ok (.isub, 1) := by decide +kernel
theorem dL_law_59 : decode cL_law 59 = .ok (.if_icmp .gt 611, 3) := by decide +kernel
theorem dL_law_62 : decode cL_law 62 = .ok (.aload_n 0, 1) := by decide +kernel
theorem dL_law_63 : decode cL_law 63 = .ok (.iload 4, 2) := by decide +kernel
theorem dL_law_65 : decode cL_law 65 = .ok (.iaload, 1) := by decide +kernel
theorem dL_law_66 : decode cL_law 66 = .ok (.bipush 31, 2) := by decide +kernel
theorem dL_law_68 : decode cL_law 68 = .ok (.iand, 1) := by decide +kernel
theorem dL_law_69 : decode cL_law 69 = .ok (.tableswitch 595 0 18 #[91, 104, 129, 142, 167, 192, 229, 278, 291, 304, 329, 366, 391, 416, 453, 476, 489, 514, 570], 91) := by decide +kernel
theorem dL_law_160 : decode cL_law 160 = .ok (.aload_n 1, 1) := by decide +kernel
theorem dL_law_161 : decode cL_law 161 = .ok (.invokevirtual 27, 3) := by decide +kernel
theorem dL_law_164 : decode cL_law 164 = .ok (.aload_n 2, 1) := by decide +kernel
theorem dL_law_165 : decode cL_law 165 = .ok (.invokevirtual 31, 3) := by decide +kernel
theorem dL_law_168 : decode cL_law 168 = .ok (.if_icmp .eq 496, 3) := by decide +kernel
theorem dL_law_171 : decode cL_law 171 = .ok (.iconst 0, 1) := by decide +kernel
theorem dL_law_172 : decode cL_law 172 = .ok (.ireturn, 1) := by decide +kernel
theorem dL_law_173 : decode cL_law 173 = .ok (.aload_n 1, 1) := by decide +kernel
theorem dL_law_174 : decode cL_law 174 = .ok (.aload_n 0, 1) := by decide +kernel
theorem dL_law_175 : decode cL_law 175 = .ok (.iload 4, 2) := by decide +kernel
theorem dL_law_177 : decode cL_law 177 = .ok (.iconst 1, 1) := by decide +kernel
theorem dL_law_178 : decode cL_law 178 = .ok (.iadd, 1) := by decide +kernel
theorem dL_law_179 : decode cL_law 179 = .ok (.iaload, 1) := by decide +kernel
theorem dL_law_180 : decode cL_law 180 = .ok (.invokevirtual 32, 3) := by decide +kernel
theorem dL_law_183 : decode cL_law 183 = .ok (.aload_n 2, 1) := by decide +kernel
theorem dL_law_184 : decode cL_law 184 = .ok (.aload_n 0, 1) := by decide +kernel
theorem dL_law_185 : decode cL_law 185 = .ok (.iload 4, 2) := by decide +kernel
theorem dL_law_187 : decode cL_law 187 = .ok (.iconst 1, 1) := by decide +kernel
theorem dL_law_188 : decode cL_law 188 = .ok (.iadd, 1) := by decide +kernel
theorem dL_law_189 : decode cL_law 189 = .ok (.iaload, 1) := by decide +kernel
theorem dL_law_190 : decode cL_law 190 = .ok (.invokevirtual 36, 3) := by decide +kernel
theorem dL_law_193 : decode cL_law 193 = .ok (.if_icmp .eq 471, 3) := by decide +kernel
theorem dL_law_196 : decode cL_law 196 = .ok (.iconst 0, 1) := by decide +kernel
theorem dL_law_197 : decode cL_law 197 = .ok (.ireturn, 1) := by decide +kernel
theorem dL_law_198 : decode cL_law 198 = .ok (.aload_n 1, 1) := by decide +kernel
theorem dL_law_199 : decode cL_law 199 = .ok (.invokevirtual 37, 3) := by decide +kernel
theorem dL_law_202 : decode cL_law 202 = .ok (.aload_n 2, 1) := by decide +kernel
theorem dL_law_203 : decode cL_law 203 = .ok (.invokevirtual 40, 3) := by decide +kernel
theorem dL_law_206 : decode cL_law 206 = .ok (.if_icmp .eq 458, 3) := by decide +kernel
theorem dL_law_209 : decode cL_law 209 = .ok (.iconst 0, 1) := by decide +kernel
theorem dL_law_210 : decode cL_law 210 = .ok (.ireturn, 1) := by decide +kernel
theorem dL_law_211 : decode cL_law 211 = .ok (.aload_n 1, 1) := by decide +kernel
theorem dL_law_212 : decode cL_law 212 = .ok (.aload_n 0, 1) := by decide +kernel
theorem dL_law_213 : decode cL_law 213 = .ok (.iload 4, 2) := by decide +kernel
theorem dL_law_215 : decode cL_law 215 = .ok (.iconst 1, 1) := by decide +kernel
theorem dL_law_216 : decode cL_law 216 = .ok (.iadd, 1) := by decide +kernel
theorem dL_law_217 : decode cL_law 217 = .ok (.iaload, 1) := by decide +kernel
theorem dL_law_218 : decode cL_law 218 = .ok (.invokevirtual 41, 3) := by decide +kernel
theorem dL_law_221 : decode cL_law 221 = .ok (.aload_n 2, 1) := by decide +kernel
theorem dL_law_222 : decode cL_law 222 = .ok (.aload_n 0, 1) := by decide +kernel
theorem dL_law_223 : decode cL_law 223 = .ok (.iload 4, 2) := by decide +kernel
theorem dL_law_225 : decode cL_law 225 = .ok (.iconst 1, 1) := by decide +kernel
theorem dL_law_226 : decode cL_law 226 = .ok (.iadd, 1) := by decide +kernel
theorem dL_law_227 : decode cL_law 227 = .ok (.iaload, 1) := by decide +kernel
theorem dL_law_228 : decode cL_law 228 = .ok (.invokevirtual 44, 3) := by decide +kernel
theorem dL_law_231 : decode cL_law 231 = .ok (.if_icmp .eq 433, 3) := by decide +kernel
theorem dL_law_234 : decode cL_law 234 = .ok (.iconst 0, 1) := by decide +kernel
theorem dL_law_235 : decode cL_law 235 = .ok (.ireturn, 1) := by decide +kernel
theorem dL_law_236 : decode cL_law 236 = .ok (.aload_n 1, 1) := by decide +kernel
theorem dL_law_237 : decode cL_law 237 = .ok (.aload_n 0, 1) := by decide +kernel
theorem dL_law_238 : decode cL_law 238 = .ok (.iload 4, 2) := by decide +kernel
theorem dL_law_240 : decode cL_law 240 = .ok (.iconst 1, 1) := by decide +kernel
theorem dL_law_241 : decode cL_law 241 = .ok (.iadd, 1) := by decide +kernel
theorem dL_law_242 : decode cL_law 242 = .ok (.iaload, 1) := by decide +kernel
theorem dL_law_243 : decode cL_law 243 = .ok (.invokevirtual 45, 3) := by decide +kernel
theorem dL_law_246 : decode cL_law 246 = .ok (.aload_n 2, 1) := by decide +kernel
theorem dL_law_247 : decode cL_law 247 = .ok (.aload_n 0, 1) := by decide +kernel
theorem dL_law_248 : decode cL_law 248 = .ok (.iload 4, 2) := by decide +kernel
theorem dL_law_250 : decode cL_law 250 = .ok (.iconst 1, 1) := by decide +kernel
theorem dL_law_251 : decode cL_law 251 = .ok (.iadd, 1) := by decide +kernel
theorem dL_law_252 : decode cL_law 252 = .ok (.iaload, 1) := by decide +kernel
theorem dL_law_253 : decode cL_law 253 = .ok (.invokevirtual 48, 3) := by decide +kernel
theorem dL_law_256 : decode cL_law 256 = .ok (.if_icmp .eq 408, 3) := by decide +kernel
theorem dL_law_259 : decode cL_law 259 = .ok (.iconst 0, 1) := by decide +kernel
theorem dL_law_260 : decode cL_law 260 = .ok (.ireturn, 1) := by decide +kernel
theorem dL_law_261 : decode cL_law 261 = .ok (.aload_n 1, 1) := by decide +kernel
theorem dL_law_262 : decode cL_law 262 = .ok (.aload_n 0, 1) := by decide +kernel
theorem dL_law_263 : decode cL_law 263 = .ok (.iload 4, 2) := by decide +kernel
theorem dL_law_265 : decode cL_law 265 = .ok (.iconst 1, 1) := by decide +kernel
theorem dL_law_266 : decode cL_law 266 = .ok (.iadd, 1) := by decide +kernel
theorem dL_law_267 : decode cL_law 267 = .ok (.iaload, 1) := by decide +kernel
theorem dL_law_268 : decode cL_law 268 = .ok (.aload_n 0, 1) := by decide +kernel
theorem dL_law_269 : decode cL_law 269 = .ok (.iload 4, 2) := by decide +kernel
theorem dL_law_271 : decode cL_law 271 = .ok (.iconst 2, 1) := by decide +kernel
theorem dL_law_272 : decode cL_law 272 = .ok (.iadd, 1) := by decide +kernel
theorem dL_law_273 : decode cL_law 273 = .ok (.iaload, 1) := by decide +kernel
theorem dL_law_274 : decode cL_law 274 = .ok (.invokevirtual 49, 3) := by decide +kernel
theorem dL_law_277 : decode cL_law 277 = .ok (.aload_n 2, 1) := by decide +kernel
theorem dL_law_278 : decode cL_law 278 = .ok (.aload_n 0, 1) := by decide +kernel
theorem dL_law_279 : decode cL_law 279 = .ok (.iload 4, 2) := by decide +kernel
theorem dL_law_281 : decode cL_law 281 = .ok (.iconst 1, 1) := by decide +kernel
theorem dL_law_282 : decode cL_law 282 = .ok (.iadd, 1) := by decide +kernel
theorem dL_law_283 : decode cL_law 283 = .ok (.iaload, 1) := by decide +kernel
theorem dL_law_284 : decode cL_law 284 = .ok (.aload_n 0, 1) := by decide +kernel
theorem dL_law_285 : decode cL_law 285 = .ok (.iload 4, 2) := by decide +kernel
theorem dL_law_287 : decode cL_law 287 = .ok (.iconst 2, 1) := by decide +kernel
theorem dL_law_288 : decode cL_law 288 = .ok (.iadd, 1) := by decide +kernel
theorem dL_law_289 : decode cL_law 289 = .ok (.iaload, 1) := by decide +kernel
theorem dL_law_290 : decode cL_law 290 = .ok (.invokevirtual 53, 3) := by decide +kernel
theorem dL_law_293 : decode cL_law 293 = .ok (.if_icmp .eq 371, 3) := by decide +kernel
theorem dL_law_296 : decode cL_law 296 = .ok (.iconst 0, 1) := by decide +kernel
theorem dL_law_297 : decode cL_law 297 = .ok (.ireturn, 1) := by decide +kernel
theorem dL_law_298 : decode cL_law 298 = .ok (.aload_n 1, 1) := by decide +kernel
theorem dL_law_299 : decode cL_law 299 = .ok (.aload_n 0, 1) := by decide +kernel
theorem dL_law_300 : decode cL_law 300 = .ok (.iload 4, 2) := by decide +kernel
theorem dL_law_302 : decode cL_law 302 = .ok (.iconst 1, 1) := by decide +kernel
theorem dL_law_303 : decode cL_law 303 = .ok (.iadd, 1) := by decide +kernel
theorem dL_law_304 : decode cL_law 304 = .ok (.iaload, 1) := by decide +kernel
theorem dL_law_305 : decode cL_law 305 = .ok (.aload_n 0, 1) := by decide +kernel
theorem dL_law_306 : decode cL_law 306 = .ok (.iload 4, 2) := by decide +kernel
theorem dL_law_308 : decode cL_law 308 = .ok (.iconst 2, 1) := by decide +kernel
theorem dL_law_309 : decode cL_law 309 = .ok (.iadd, 1) := by decide +kernel
theorem dL_law_310 : decode cL_law 310 = .ok (.iaload, 1) := by decide +kernel
theorem dL_law_311 : decode cL_law 311 = .ok (.aload_n 0, 1) := by decide +kernel
theorem dL_law_312 : decode cL_law 312 = .ok (.iload 4, 2) := by decide +kernel
theorem dL_law_314 : decode cL_law 314 = .ok (.iconst 3, 1) := by decide +kernel
theorem dL_law_315 : decode cL_law 315 = .ok (.iadd, 1) := by decide +kernel
theorem dL_law_316 : decode cL_law 316 = .ok (.iaload, 1) := by decide +kernel
theorem dL_law_317 : decode cL_law 317 = .ok (.invokevirtual 54, 3) := by decide +kernel
theorem dL_law_320 : decode cL_law 320 = .ok (.aload_n 2, 1) := by decide +kernel
theorem dL_law_321 : decode cL_law 321 = .ok (.aload_n 0, 1) := by decide +kernel
theorem dL_law_322 : decode cL_law 322 = .ok (.iload 4, 2) := by decide +kernel
theorem dL_law_324 : decode cL_law 324 = .ok (.iconst 1, 1) := by decide +kernel
theorem dL_law_325 : decode cL_law 325 = .ok (.iadd, 1) := by decide +kernel
theorem dL_law_326 : decode cL_law 326 = .ok (.iaload, 1) := by decide +kernel
theorem dL_law_327 : decode cL_law 327 = .ok (.aload_n 0, 1) := by decide +kernel
theorem dL_law_328 : decode cL_law 328 = .ok (.iload 4, 2) := by decide +kernel
theorem dL_law_330 : decode cL_law 330 = .ok (.iconst 2, 1) := by decide +kernel
theorem dL_law_331 : decode cL_law 331 = .ok (.iadd, 1) := by decide +kernel
theorem dL_law_332 : decode cL_law 332 = .ok (.iaload, 1) := by decide +kernel
theorem dL_law_333 : decode cL_law 333 = .ok (.aload_n 0, 1) := by decide +kernel
theorem dL_law_334 : decode cL_law 334 = .ok (.iload 4, 2) := by decide +kernel
theorem dL_law_336 : decode cL_law 336 = .ok (.iconst 3, 1) := by decide +kernel
theorem dL_law_337 : decode cL_law 337 = .ok (.iadd, 1) := by decide +kernel
theorem dL_law_338 : decode cL_law 338 = .ok (.iaload, 1) := by decide +kernel
theorem dL_law_339 : decode cL_law 339 = .ok (.invokevirtual 58, 3) := by decide +kernel
theorem dL_law_342 : decode cL_law 342 = .ok (.if_icmp .eq 322, 3) := by decide +kernel
theorem dL_law_345 : decode cL_law 345 = .ok (.iconst 0, 1) := by decide +kernel
theorem dL_law_346 : decode cL_law 346 = .ok (.ireturn, 1) := by decide +kernel
theorem dL_law_347 : decode cL_law 347 = .ok (.aload_n 1, 1) := by decide +kernel
theorem dL_law_348 : decode cL_law 348 = .ok (.invokevirtual 59, 3) := by decide +kernel
theorem dL_law_351 : decode cL_law 351 = .ok (.aload_n 2, 1) := by decide +kernel
theorem dL_law_352 : decode cL_law 352 = .ok (.invokevirtual 63, 3) := by decide +kernel
theorem dL_law_355 : decode cL_law 355 = .ok (.if_icmp .eq 309, 3) := by decide +kernel
theorem dL_law_358 : decode cL_law 358 = .ok (.iconst 0, 1) := by decide +kernel
theorem dL_law_359 : decode cL_law 359 = .ok (.ireturn, 1) := by decide +kernel
theorem dL_law_360 : decode cL_law 360 = .ok (.aload_n 1, 1) := by decide +kernel
theorem dL_law_361 : decode cL_law 361 = .ok (.invokevirtual 64, 3) := by decide +kernel
theorem dL_law_364 : decode cL_law 364 = .ok (.aload_n 2, 1) := by decide +kernel
theorem dL_law_365 : decode cL_law 365 = .ok (.invokevirtual 67, 3) := by decide +kernel
theorem dL_law_368 : decode cL_law 368 = .ok (.if_icmp .eq 296, 3) := by decide +kernel
theorem dL_law_371 : decode cL_law 371 = .ok (.iconst 0, 1) := by decide +kernel
theorem dL_law_372 : decode cL_law 372 = .ok (.ireturn, 1) := by decide +kernel
theorem dL_law_373 : decode cL_law 373 = .ok (.aload_n 1, 1) := by decide +kernel
theorem dL_law_374 : decode cL_law 374 = .ok (.aload_n 0, 1) := by decide +kernel
theorem dL_law_375 : decode cL_law 375 = .ok (.iload 4, 2) := by decide +kernel
theorem dL_law_377 : decode cL_law 377 = .ok (.iconst 1, 1) := by decide +kernel
theorem dL_law_378 : decode cL_law 378 = .ok (.iadd, 1) := by decide +kernel
theorem dL_law_379 : decode cL_law 379 = .ok (.iaload, 1) := by decide +kernel
theorem dL_law_380 : decode cL_law 380 = .ok (.invokevirtual 68, 3) := by decide +kernel
theorem dL_law_383 : decode cL_law 383 = .ok (.aload_n 2, 1) := by decide +kernel
theorem dL_law_384 : decode cL_law 384 = .ok (.aload_n 0, 1) := by decide +kernel
theorem dL_law_385 : decode cL_law 385 = .ok (.iload 4, 2) := by decide +kernel
theorem dL_law_387 : decode cL_law 387 = .ok (.iconst 1, 1) := by decide +kernel
theorem dL_law_388 : decode cL_law 388 = .ok (.iadd, 1) := by decide +kernel
theorem dL_law_389 : decode cL_law 389 = .ok (.iaload, 1) := by decide +kernel
theorem dL_law_390 : decode cL_law 390 = .ok (.invokevirtual 71, 3) := by decide +kernel
theorem dL_law_393 : decode cL_law 393 = .ok (.if_icmp .eq 271, 3) := by decide +kernel
theorem dL_law_396 : decode cL_law 396 = .ok (.iconst 0, 1) := by decide +kernel
theorem dL_law_397 : decode cL_law 397 = .ok (.ireturn, 1) := by decide +kernel
theorem dL_law_398 : decode cL_law 398 = .ok (.aload_n 1, 1) := by decide +kernel
theorem dL_law_399 : decode cL_law 399 = .ok (.aload_n 0, 1) := by decide +kernel
theorem dL_law_400 : decode cL_law 400 = .ok (.iload 4, 2) := by decide +kernel
theorem dL_law_402 : decode cL_law 402 = .ok (.iconst 1, 1) := by decide +kernel
theorem dL_law_403 : decode cL_law 403 = .ok (.iadd, 1) := by decide +kernel
theorem dL_law_404 : decode cL_law 404 = .ok (.iaload, 1) := by decide +kernel
theorem dL_law_405 : decode cL_law 405 = .ok (.aload_n 0, 1) := by decide +kernel
theorem dL_law_406 : decode cL_law 406 = .ok (.iload 4, 2) := by decide +kernel
theorem dL_law_408 : decode cL_law 408 = .ok (.iconst 2, 1) := by decide +kernel
theorem dL_law_409 : decode cL_law 409 = .ok (.iadd, 1) := by decide +kernel
theorem dL_law_410 : decode cL_law 410 = .ok (.iaload, 1) := by decide +kernel
theorem dL_law_411 : decode cL_law 411 = .ok (.invokevirtual 72, 3) := by decide +kernel
theorem dL_law_414 : decode cL_law 414 = .ok (.aload_n 2, 1) := by decide +kernel
theorem dL_law_415 : decode cL_law 415 = .ok (.aload_n 0, 1) := by decide +kernel
theorem dL_law_416 : decode cL_law 416 = .ok (.iload 4, 2) := by decide +kernel
theorem dL_law_418 : decode cL_law 418 = .ok (.iconst 1, 1) := by decide +kernel
theorem dL_law_419 : decode cL_law 419 = .ok (.iadd, 1) := by decide +kernel
theorem dL_law_420 : decode cL_law 420 = .ok (.iaload, 1) := by decide +kernel
theorem dL_law_421 : decode cL_law 421 = .ok (.aload_n 0, 1) := by decide +kernel
theorem dL_law_422 : decode cL_law 422 = .ok (.iload 4, 2) := by decide +kernel
theorem dL_law_424 : decode cL_law 424 = .ok (.iconst 2, 1) := by decide +kernel
theorem dL_law_425 : decode cL_law 425 = .ok (.iadd, 1) := by decide +kernel
theorem dL_law_426 : decode cL_law 426 = .ok (.iaload, 1) := by decide +kernel
theorem dL_law_427 : decode cL_law 427 = .ok (.invokevirtual 75, 3) := by decide +kernel
theorem dL_law_430 : decode cL_law 430 = .ok (.if_icmp .eq 234, 3) := by decide +kernel
theorem dL_law_433 : decode cL_law 433 = .ok (.iconst 0, 1) := by decide +kernel
theorem dL_law_434 : decode cL_law 434 = .ok (.ireturn, 1) := by decide +kernel
theorem dL_law_435 : decode cL_law 435 = .ok (.aload_n 1, 1) := by decide +kernel
theorem dL_law_436 : decode cL_law 436 = .ok (.aload_n 0, 1) := by decide +kernel
theorem dL_law_437 : decode cL_law 437 = .ok (.iload 4, 2) := by decide +kernel
theorem dL_law_439 : decode cL_law 439 = .ok (.iconst 1, 1) := by decide +kernel
theorem dL_law_440 : decode cL_law 440 = .ok (.iadd, 1) := by decide +kernel
theorem dL_law_441 : decode cL_law 441 = .ok (.iaload, 1) := by decide +kernel
theorem dL_law_442 : decode cL_law 442 = .ok (.invokevirtual 76, 3) := by decide +kernel
theorem dL_law_445 : decode cL_law 445 = .ok (.aload_n 2, 1) := by decide +kernel
theorem dL_law_446 : decode cL_law 446 = .ok (.aload_n 0, 1) := by decide +kernel
theorem dL_law_447 : decode cL_law 447 = .ok (.iload 4, 2) := by decide +kernel
theorem dL_law_449 : decode cL_law 449 = .ok (.iconst 1, 1) := by decide +kernel
theorem dL_law_450 : decode cL_law 450 = .ok (.iadd, 1) := by decide +kernel
theorem dL_law_451 : decode cL_law 451 = .ok (.iaload, 1) := by decide +kernel
theorem dL_law_452 : decode cL_law 452 = .ok (.invokevirtual 79, 3) := by decide +kernel
theorem dL_law_455 : decode cL_law 455 = .ok (.if_icmp .eq 209, 3) := by decide +kernel
theorem dL_law_458 : decode cL_law 458 = .ok (.iconst 0, 1) := by decide +kernel
theorem dL_law_459 : decode cL_law 459 = .ok (.ireturn, 1) := by decide +kernel
theorem dL_law_460 : decode cL_law 460 = .ok (.aload_n 1, 1) := by decide +kernel
theorem dL_law_461 : decode cL_law 461 = .ok (.aload_n 0, 1) := by decide +kernel
theorem dL_law_462 : decode cL_law 462 = .ok (.iload 4, 2) := by decide +kernel
theorem dL_law_464 : decode cL_law 464 = .ok (.iconst 1, 1) := by decide +kernel
theorem dL_law_465 : decode cL_law 465 = .ok (.iadd, 1) := by decide +kernel
theorem dL_law_466 : decode cL_law 466 = .ok (.iaload, 1) := by decide +kernel
theorem dL_law_467 : decode cL_law 467 = .ok (.invokevirtual 80, 3) := by decide +kernel
theorem dL_law_470 : decode cL_law 470 = .ok (.aload_n 2, 1) := by decide +kernel
theorem dL_law_471 : decode cL_law 471 = .ok (.aload_n 0, 1) := by decide +kernel
theorem dL_law_472 : decode cL_law 472 = .ok (.iload 4, 2) := by decide +kernel
theorem dL_law_474 : decode cL_law 474 = .ok (.iconst 1, 1) := by decide +kernel
theorem dL_law_475 : decode cL_law 475 = .ok (.iadd, 1) := by decide +kernel
theorem dL_law_476 : decode cL_law 476 = .ok (.iaload, 1) := by decide +kernel
theorem dL_law_477 : decode cL_law 477 = .ok (.invokevirtual 83, 3) := by decide +kernel
theorem dL_law_480 : decode cL_law 480 = .ok (.if_icmp .eq 184, 3) := by decide +kernel
theorem dL_law_483 : decode cL_law 483 = .ok (.iconst 0, 1) := by decide +kernel
theorem dL_law_484 : decode cL_law 484 = .ok (.ireturn, 1) := by decide +kernel
theorem dL_law_485 : decode cL_law 485 = .ok (.aload_n 1, 1) := by decide +kernel
theorem dL_law_486 : decode cL_law 486 = .ok (.aload_n 0, 1) := by decide +kernel
theorem dL_law_487 : decode cL_law 487 = .ok (.iload 4, 2) := by decide +kernel
theorem dL_law_489 : decode cL_law 489 = .ok (.iconst 1, 1) := by decide +kernel
theorem dL_law_490 : decode cL_law 490 = .ok (.iadd, 1) := by decide +kernel
theorem dL_law_491 : decode cL_law 491 = .ok (.iaload, 1) := by decide +kernel
theorem dL_law_492 : decode cL_law 492 = .ok (.aload_n 0, 1) := by decide +kernel
theorem dL_law_493 : decode cL_law 493 = .ok (.iload 4, 2) := by decide +kernel
theorem dL_law_495 : decode cL_law 495 = .ok (.iconst 2, 1) := by decide +kernel
theorem dL_law_496 : decode cL_law 496 = .ok (.iadd, 1) := by decide +kernel
theorem dL_law_497 : decode cL_law 497 = .ok (.iaload, 1) := by decide +kernel
theorem dL_law_498 : decode cL_law 498 = .ok (.invokevirtual 84, 3) := by decide +kernel
theorem dL_law_501 : decode cL_law 501 = .ok (.aload_n 2, 1) := by decide +kernel
theorem dL_law_502 : decode cL_law 502 = .ok (.aload_n 0, 1) := by decide +kernel
theorem dL_law_503 : decode cL_law 503 = .ok (.iload 4, 2) := by decide +kernel
theorem dL_law_505 : decode cL_law 505 = .ok (.iconst 1, 1) := by decide +kernel
theorem dL_law_506 : decode cL_law 506 = .ok (.iadd, 1) := by decide +kernel
theorem dL_law_507 : decode cL_law 507 = .ok (.iaload, 1) := by decide +kernel
theorem dL_law_508 : decode cL_law 508 = .ok (.aload_n 0, 1) := by decide +kernel
theorem dL_law_509 : decode cL_law 509 = .ok (.iload 4, 2) := by decide +kernel
theorem dL_law_511 : decode cL_law 511 = .ok (.iconst 2, 1) := by decide +kernel
theorem dL_law_512 : decode cL_law 512 = .ok (.iadd, 1) := by decide +kernel
theorem dL_law_513 : decode cL_law 513 = .ok (.iaload, 1) := by decide +kernel
theorem dL_law_514 : decode cL_law 514 = .ok (.invokevirtual 87, 3) := by decide +kernel
theorem dL_law_517 : decode cL_law 517 = .ok (.if_icmp .eq 147, 3) := by decide +kernel
theorem dL_law_520 : decode cL_law 520 = .ok (.iconst 0, 1) := by decide +kernel
theorem dL_law_521 : decode cL_law 521 = .ok (.ireturn, 1) := by decide +kernel
theorem dL_law_522 : decode cL_law 522 = .ok (.aload_n 1, 1) := by decide +kernel
theorem dL_law_523 : decode cL_law 523 = .ok (.aload_n 0, 1) := by decide +kernel
theorem dL_law_524 : decode cL_law 524 = .ok (.iload 4, 2) := by decide +kernel
theorem dL_law_526 : decode cL_law 526 = .ok (.iconst 1, 1) := by decide +kernel
theorem dL_law_527 : decode cL_law 527 = .ok (.iadd, 1) := by decide +kernel
theorem dL_law_528 : decode cL_law 528 = .ok (.iaload, 1) := by decide +kernel
theorem dL_law_529 : decode cL_law 529 = .ok (.invokevirtual 88, 3) := by decide +kernel
theorem dL_law_532 : decode cL_law 532 = .ok (.aload_n 2, 1) := by decide +kernel
theorem dL_law_533 : decode cL_law 533 = .ok (.aload_n 0, 1) := by decide +kernel
theorem dL_law_534 : decode cL_law 534 = .ok (.iload 4, 2) := by decide +kernel
theorem dL_law_536 : decode cL_law 536 = .ok (.iconst 1, 1) := by decide +kernel
theorem dL_law_537 : decode cL_law 537 = .ok (.iadd, 1) := by decide +kernel
theorem dL_law_538 : decode cL_law 538 = .ok (.iaload, 1) := by decide +kernel
theorem dL_law_539 : decode cL_law 539 = .ok (.invokevirtual 92, 3) := by decide +kernel
theorem dL_law_542 : decode cL_law 542 = .ok (.goto 122, 3) := by decide +kernel
theorem dL_law_545 : decode cL_law 545 = .ok (.aload_n 1, 1) := by decide +kernel
theorem dL_law_546 : decode cL_law 546 = .ok (.invokevirtual 93, 3) := by decide +kernel
theorem dL_law_549 : decode cL_law 549 = .ok (.aload_n 2, 1) := by decide +kernel
theorem dL_law_550 : decode cL_law 550 = .ok (.invokevirtual 96, 3) := by decide +kernel
theorem dL_law_553 : decode cL_law 553 = .ok (.if_icmp .eq 111, 3) := by decide +kernel
theorem dL_law_556 : decode cL_law 556 = .ok (.iconst 0, 1) := by decide +kernel
theorem dL_law_557 : decode cL_law 557 = .ok (.ireturn, 1) := by decide +kernel
theorem dL_law_558 : decode cL_law 558 = .ok (.aload_n 1, 1) := by decide +kernel
theorem dL_law_559 : decode cL_law 559 = .ok (.aload_n 0, 1) := by decide +kernel
theorem dL_law_560 : decode cL_law 560 = .ok (.iload 4, 2) := by decide +kernel
theorem dL_law_562 : decode cL_law 562 = .ok (.iconst 1, 1) := by decide +kernel
theorem dL_law_563 : decode cL_law 563 = .ok (.iadd, 1) := by decide +kernel
theorem dL_law_564 : decode cL_law 564 = .ok (.iaload, 1) := by decide +kernel
theorem dL_law_565 : decode cL_law 565 = .ok (.invokevirtual 97, 3) := by decide +kernel
theorem dL_law_568 : decode cL_law 568 = .ok (.aload_n 2, 1) := by decide +kernel
theorem dL_law_569 : decode cL_law 569 = .ok (.aload_n 0, 1) := by decide +kernel
theorem dL_law_570 : decode cL_law 570 = .ok (.iload 4, 2) := by decide +kernel
theorem dL_law_572 : decode cL_law 572 = .ok (.iconst 1, 1) := by decide +kernel
theorem dL_law_573 : decode cL_law 573 = .ok (.iadd, 1) := by decide +kernel
theorem dL_law_574 : decode cL_law 574 = .ok (.iaload, 1) := by decide +kernel
theorem dL_law_575 : decode cL_law 575 = .ok (.invokevirtual 100, 3) := by decide +kernel
theorem dL_law_578 : decode cL_law 578 = .ok (.if_icmp .eq 86, 3) := by decide +kernel
theorem dL_law_581 : decode cL_law 581 = .ok (.iconst 0, 1) := by decide +kernel
theorem dL_law_582 : decode cL_law 582 = .ok (.ireturn, 1) := by decide +kernel
theorem dL_law_583 : decode cL_law 583 = .ok (.aload_n 1, 1) := by decide +kernel
theorem dL_law_584 : decode cL_law 584 = .ok (.aload_n 0, 1) := by decide +kernel
theorem dL_law_585 : decode cL_law 585 = .ok (.iload 4, 2) := by decide +kernel
theorem dL_law_587 : decode cL_law 587 = .ok (.iconst 1, 1) := by decide +kernel
theorem dL_law_588 : decode cL_law 588 = .ok (.iadd, 1) := by decide +kernel
theorem dL_law_589 : decode cL_law 589 = .ok (.iaload, 1) := by decide +kernel
theorem dL_law_590 : decode cL_law 590 = .ok (.aload_n 3, 1) := by decide +kernel
theorem dL_law_591 : decode cL_law 591 = .ok (.invokestatic 101, 3) := by decide +kernel
theorem dL_law_594 : decode cL_law 594 = .ok (.istore 5, 2) := by decide +kernel
theorem dL_law_596 : decode cL_law 596 = .ok (.aload_n 2, 1) := by decide +kernel
theorem dL_law_597 : decode cL_law 597 = .ok (.aload_n 0, 1) := by decide +kernel
theorem dL_law_598 : decode cL_law 598 = .ok (.iload 4, 2) := by decide +kernel
theorem dL_law_600 : decode cL_law 600 = .ok (.iconst 1, 1) := by decide +kernel
theorem dL_law_601 : decode cL_law 601 = .ok (.iadd, 1) := by decide +kernel
theorem dL_law_602 : decode cL_law 602 = .ok (.iaload, 1) := by decide +kernel
theorem dL_law_603 : decode cL_law 603 = .ok (.invokevirtual 104, 3) := by decide +kernel
theorem dL_law_606 : decode cL_law 606 = .ok (.istore 6, 2) := by decide +kernel
theorem dL_law_608 : decode cL_law 608 = .ok (.aload_n 2, 1) := by decide +kernel
theorem dL_law_609 : decode cL_law 609 = .ok (.invokevirtual 105, 3) := by decide +kernel
theorem dL_law_612 : decode cL_law 612 = .ok (.iload 5, 2) := by decide +kernel
theorem dL_law_614 : decode cL_law 614 = .ok (.if_icmp .eq 5, 3) := by decide +kernel
theorem dL_law_617 : decode cL_law 617 = .ok (.iconst 0, 1) := by decide +kernel
theorem dL_law_618 : decode cL_law 618 = .ok (.ireturn, 1) := by decide +kernel
theorem dL_law_619 : decode cL_law 619 = .ok (.iload 5, 2) := by decide +kernel
theorem dL_law_621 : decode cL_law 621 = .ok (.ifCond .ne 15, 3) := by decide +kernel
theorem dL_law_624 : decode cL_law 624 = .ok (.aload_n 3, 1) := by decide +kernel
theorem dL_law_625 : decode cL_law 625 = .ok (.iconst 0, 1) := by decide +kernel
theorem dL_law_626 : decode cL_law 626 = .ok (.laload, 1) := by decide +kernel
theorem dL_law_627 : decode cL_law 627 = .ok (.iload 6, 2) := by decide +kernel
theorem dL_law_629 : decode cL_law 629 = .ok (.i2l, 1) := by decide +kernel
theorem dL_law_630 : decode cL_law 630 = .ok (.lcmp, 1) := by decide +kernel
theorem dL_law_631 : decode cL_law 631 = .ok (.ifCond .eq 5, 3) := by decide +kernel
theorem dL_law_634 : decode cL_law 634 = .ok (.iconst 0, 1) := by decide +kernel
theorem dL_law_635 : decode cL_law 635 = .ok (.ireturn, 1) := by decide +kernel
theorem dL_law_636 : decode cL_law 636 = .ok (.goto 28, 3) := by decide +kernel
theorem dL_law_639 : decode cL_law 639 = .ok (.aload_n 1, 1) := by decide +kernel
theorem dL_law_640 : decode cL_law 640 = .ok (.aload_n 0, 1) := by decide +kernel
theorem dL_law_641 : decode cL_law 641 = .ok (.iload 4, 2) := by decide +kernel
theorem dL_law_643 : decode cL_law 643 = .ok (.iconst 1, 1) := by decide +kernel
theorem dL_law_644 : decode cL_law 644 = .ok (.iadd, 1) := by decide +kernel
theorem dL_law_645 : decode cL_law 645 = .ok (.iaload, 1) := by decide +kernel
theorem dL_law_646 : decode cL_law 646 = .ok (.invokevirtual 108, 3) := by decide +kernel
theorem dL_law_649 : decode cL_law 649 = .ok (.aload_n 2, 1) := by decide +kernel
theorem dL_law_650 : decode cL_law 650 = .ok (.aload_n 0, 1) := by decide +kernel
theorem dL_law_651 : decode cL_law 651 = .ok (.iload 4, 2) := by decide +kernel
theorem dL_law_653 : decode cL_law 653 = .ok (.iconst 1, 1) := by decide +kernel
theorem dL_law_654 : decode cL_law 654 = .ok (.iadd, 1) := by decide +kernel
theorem dL_law_655 : decode cL_law 655 = .ok (.iaload, 1) := by decide +kernel
theorem dL_law_656 : decode cL_law 656 = .ok (.invokevirtual 111, 3) := by decide +kernel
theorem dL_law_659 : decode cL_law 659 = .ok (.if_icmp .eq 5, 3) := by decide +kernel
theorem dL_law_662 : decode cL_law 662 = .ok (.iconst 0, 1) := by decide +kernel
theorem dL_law_663 : decode cL_law 663 = .ok (.ireturn, 1) := by decide +kernel
theorem dL_law_664 : decode cL_law 664 = .ok (.iinc 4 4, 3) := by decide +kernel
theorem dL_law_667 : decode cL_law 667 = .ok (.goto (-614), 3) := by decide +kernel
theorem dL_law_670 : decode cL_law 670 = .ok (.iconst 1, 1) := by decide +kernel
theorem dL_law_671 : decode cL_law 671 = .ok (.ireturn, 1) := by decide +kernel
