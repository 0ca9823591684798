theorem dX0_init_0 : decode cX0_init 0 = .ok (.aload_n 0, 1) := by decide +kernel
theorem dX0_init_1 : decode cX0_init 1 = .ok (.invokespecial 3, 3) := by decide +kernel
theorem dX0_init_4 : decode cX0_init 4 = .ok (.aload_n 0, 1) := by decide +kernel
theorem dX0_init_5 : decode cX0_init 5 = .ok (.iload_n 1, 1) := by decide +kernel
theorem dX0_init_6 : decode cX0_init 6 = .ok (.iload_n 2, 1) := by decide +kernel
theorem dX0_init_7 : decode cX0_init 7 = .ok (.invokestatic 9, 3) := by decide +kernel
theorem dX0_init_10 : decode cX0_init 10 = .ok (.putfield 13, 3) := by decide +kernel
theorem dX0_init_13 : decode cX0_init 13 = .ok (.aload_n 0, 1) := by decide +kernel
theorem dX0_init_14 : decode cX0_init 14 = .ok (.iload_n 1, 1) := by decide +kernel
theorem dX0_init_15 : decode cX0_init 15 = .ok (.iload_n 2, 1) := by decide +kernel
theorem dX0_init_16 : decode cX0_init 16 = .ok (.invokestatic 9, 3) := by decide +kernel
theorem dX0_init_19 : decode cX0_init 19 = .ok (.putfield 19, 3) := by decide +kernel
theorem dX0_init_22 : decode cX0_init 22 = .ok (.aload_n 0, 1) := by decide +kernel
theorem dX0_init_23 : decode cX0_init 23 = .ok (.iconst (-1), 1) := by decide +kernel
theorem dX0_init_24 : decode cX0_init 24 = .ok (.putfield 22, 3) := by decide +kernel
theorem dX0_init_27 : decode cX0_init 27 = .ok (.return_, 1) := by decide +kernel
theorem dX0_layOut_0 : decode cX0_layOut 0 = .ok (.aload_n 0, 1) := by decide +kernel
theorem dX0_layOut_1 : decode cX0_layOut 1 = .ok (.iconst 0, 1) := by decide +kernel
theorem dX0_layOut_2 : decode cX0_layOut 2 = .ok (.invokevirtual 26, 3) := by decide +kernel
theorem dX0_layOut_5 : decode cX0_layOut 5 = .ok (.ifCond .eq 30, 3) := by decide +kernel
theorem dX0_layOut_8 : decode cX0_layOut 8 = .ok (.aload_n 0, 1) := by decide +kernel
theorem dX0_layOut_9 : decode cX0_layOut 9 = .ok (.iconst 0, 1) := by decide +kernel
theorem dX0_layOut_10 : decode cX0_layOut 10 = .ok (.invokevirtual 30, 3) := by decide +kernel
theorem dX0_layOut_13 : decode cX0_layOut 13 = .ok (.ifCond .eq 22, 3) := by decide +kernel
theorem dX0_layOut_16 : decode cX0_layOut 16 = .ok (.aload_n 0, 1) := by decide +kernel
theorem dX0_layOut_17 : decode cX0_layOut 17 = .ok (.invokevirtual 34, 3) := by decide +kernel
theorem dX0_layOut_20 : decode cX0_layOut 20 = .ok (.ifCond .eq 15, 3) := by decide +kernel
theorem dX0_layOut_23 : decode cX0_layOut 23 = .ok (.aload_n 0, 1) := by decide +kernel
theorem dX0_layOut_24 : decode cX0_layOut 24 = .ok (.iconst 1, 1) := by decide +kernel
theorem dX0_layOut_25 : decode cX0_layOut 25 = .ok (.invokevirtual 26, 3) := by decide +kernel
theorem dX0_layOut_28 : decode cX0_layOut 28 = .ok (.ifCond .eq 7, 3) := by decide +kernel
theorem dX0_layOut_31 : decode cX0_layOut 31 = .ok (.iconst 1, 1) := by decide +kernel
theorem dX0_layOut_32 : decode cX0_layOut 32 = .ok (.goto 4, 3) := by decide +kernel
theorem dX0_layOut_35 : decode cX0_layOut 35 = .ok (.iconst 0, 1) := by decide +kernel
theorem dX0_layOut_36 : decode cX0_layOut 36 = .ok (.ireturn, 1) := by decide +kernel
theorem dX0_bringThroughLog_0 : decode cX0_bringThroughLog 0 = .ok (.iload_n 1, 1) := by decide +kernel
theorem dX0_bringThroughLog_1 : decode cX0_bringThroughLog 1 = .ok (.ifCond .ne 5, 3) := by decide +kernel
theorem dX0_bringThroughLog_4 : decode cX0_bringThroughLog 4 = .ok (.iconst 1, 1) := by decide +kernel
theorem dX0_bringThroughLog_5 : decode cX0_bringThroughLog 5 = .ok (.ireturn, 1) := by decide +kernel
theorem dX0_bringThroughLog_6 : decode cX0_bringThroughLog 6 = .ok (.aload_n 0, 1) := by decide +kernel
theorem dX0_bringThroughLog_7 : decode cX0_bringThroughLog 7 = .ok (.aload_n 0, 1) := by decide +kernel
theorem dX0_bringThroughLog_8 : decode cX0_bringThroughLog 8 = .ok (.getfield 19, 3) := by decide +kernel
theorem dX0_bringThroughLog_11 : decode cX0_bringThroughLog 11 = .ok (.iload_n 1, 1) := by decide +kernel
theorem dX0_bringThroughLog_12 : decode cX0_bringThroughLog 12 = .ok (.aload_n 2, 1) := by decide +kernel
theorem dX0_bringThroughLog_13 : decode cX0_bringThroughLog 13 = .ok (.invokevirtual 38, 3) := by decide +kernel
theorem dX0_bringThroughLog_16 : decode cX0_bringThroughLog 16 = .ok (.ifCond .eq 22, 3) := by decide +kernel
theorem dX0_bringThroughLog_19 : decode cX0_bringThroughLog 19 = .ok (.aload_n 0, 1) := by decide +kernel
theorem dX0_bringThroughLog_20 : decode cX0_bringThroughLog 20 = .ok (.iload_n 1, 1) := by decide +kernel
theorem dX0_bringThroughLog_21 : decode cX0_bringThroughLog 21 = .ok (.invokevirtual 30, 3) := by decide +kernel
theorem dX0_bringThroughLog_24 : decode cX0_bringThroughLog 24 = .ok (.ifCond .eq 14, 3) := by decide +kernel
theorem dX0_bringThroughLog_27 : decode cX0_bringThroughLog 27 = .ok (.aload_n 0, 1) := by decide +kernel
theorem dX0_bringThroughLog_28 : decode cX0_bringThroughLog 28 = .ok (.invokevirtual 42, 3) := by decide +kernel
theorem dX0_bringThroughLog_31 : decode cX0_bringThroughLog 31 = .ok (.ifCond .eq 7, 3) := by decide +kernel
theorem dX0_bringThroughLog_34 : decode cX0_bringThroughLog 34 = .ok (.iconst 1, 1) := by decide +kernel
theorem dX0_bringThroughLog_35 : decode cX0_bringThroughLog 35 = .ok (.goto 4, 3) := by decide +kernel
theorem dX0_bringThroughLog_38 : decode cX0_bringThroughLog 38 = .ok (.iconst 0, 1) := by decide +kernel
theorem dX0_bringThroughLog_39 : decode cX0_bringThroughLog 39 = .ok (.ireturn, 1) := by decide +kernel
theorem dX0_bringLogHome_0 : decode cX0_bringLogHome 0 = .ok (.aload_n 0, 1) := by decide +kernel
theorem dX0_bringLogHome_1 : decode cX0_bringLogHome 1 = .ok (.getfield 45, 3) := by decide +kernel
theorem dX0_bringLogHome_4 : decode cX0_bringLogHome 4 = .ok (.ifCond .ne 5, 3) := by decide +kernel
theorem dX0_bringLogHome_7 : decode cX0_bringLogHome 7 = .ok (.iconst 1, 1) := by decide +kernel
theorem dX0_bringLogHome_8 : decode cX0_bringLogHome 8 = .ok (.ireturn, 1) := by decide +kernel
theorem dX0_bringLogHome_9 : decode cX0_bringLogHome 9 = .ok (.aload_n 0, 1) := by decide +kernel
theorem dX0_bringLogHome_10 : decode cX0_bringLogHome 10 = .ok (.aload_n 0, 1) := by decide +kernel
theorem dX0_bringLogHome_11 : decode cX0_bringLogHome 11 = .ok (.getfield 13, 3) := by decide +kernel
theorem dX0_bringLogHome_14 : decode cX0_bringLogHome 14 = .ok (.aload_n 0, 1) := by decide +kernel
theorem dX0_bringLogHome_15 : decode cX0_bringLogHome 15 = .ok (.getfield 45, 3) := by decide +kernel
theorem dX0_bringLogHome_18 : decode cX0_bringLogHome 18 = .ok (.aload_n 0, 1) := by decide +kernel
theorem dX0_bringLogHome_19 : decode cX0_bringLogHome 19 = .ok (.getfield 19, 3) := by decide +kernel
theorem dX0_bringLogHome_22 : decode cX0_bringLogHome 22 = .ok (.invokevirtual 38, 3) := by decide +kernel
theorem dX0_bringLogHome_25 : decode cX0_bringLogHome 25 = .ok (.ifCond .eq 15, 3) := by decide +kernel
theorem dX0_bringLogHome_28 : decode cX0_bringLogHome 28 = .ok (.aload_n 0, 1) := by decide +kernel
theorem dX0_bringLogHome_29 : decode cX0_bringLogHome 29 = .ok (.iconst 0, 1) := by decide +kernel
theorem dX0_bringLogHome_30 : decode cX0_bringLogHome 30 = .ok (.invokevirtual 30, 3) := by decide +kernel
theorem dX0_bringLogHome_33 : decode cX0_bringLogHome 33 = .ok (.ifCond .eq 7, 3) := by decide +kernel
theorem dX0_bringLogHome_36 : decode cX0_bringLogHome 36 = .ok (.iconst 1, 1) := by decide +kernel
theorem dX0_bringLogHome_37 : decode cX0_bringLogHome 37 = .ok (.goto 4, 3) := by decide +kernel
theorem dX0_bringLogHome_40 : decode cX0_bringLogHome 40 = .ok (.iconst 0, 1) := by decide +kernel
theorem dX0_bringLogHome_41 : decode cX0_bringLogHome 41 = .ok (.ireturn, 1) := by decide +kernel
theorem dX0_passStop_0 : decode cX0_passStop 0 = .ok (.aload_n 0, 1) := by decide +kernel
theorem dX0_passStop_1 : decode cX0_passStop 1 = .ok (.getfield 22, 3) := by decide +kernel
theorem dX0_passStop_4 : decode cX0_passStop 4 = .ok (.ifCond .ne 10, 3) := by decide +kernel
theorem dX0_passStop_7 : decode cX0_passStop 7 = .ok (.aload_n 0, 1) := by decide +kernel
theorem dX0_passStop_8 : decode cX0_passStop 8 = .ok (.iconst (-1), 1) := by decide +kernel
theorem dX0_passStop_9 : decode cX0_passStop 9 = .ok (.putfield 22, 3) := by decide +kernel
theorem dX0_passStop_12 : decode cX0_passStop 12 = .ok (.iconst 0, 1) := by decide +kernel
theorem dX0_passStop_13 : decode cX0_passStop 13 = .ok (.ireturn, 1) := by decide +kernel
theorem dX0_passStop_14 : decode cX0_passStop 14 = .ok (.aload_n 0, 1) := by decide +kernel
theorem dX0_passStop_15 : decode cX0_passStop 15 = .ok (.getfield 22, 3) := by decide +kernel
theorem dX0_passStop_18 : decode cX0_passStop 18 = .ok (.ifCond .le 13, 3) := by decide +kernel
theorem dX0_passStop_21 : decode cX0_passStop 21 = .ok (.aload_n 0, 1) := by decide +kernel
theorem dX0_passStop_22 : decode cX0_passStop 22 = .ok (.dup, 1) := by decide +kernel
theorem dX0_passStop_23 : decode cX0_passStop 23 = .ok (.getfield 22, 3) := by decide +kernel
theorem dX0_passStop_26 : decode cX0_passStop 26 = .ok (.iconst 1, 1) := by decide +kernel
theorem dX0_passStop_27 : decode cX0_passStop 27 = .ok (.isub, 1) := by decide +kernel
theorem dX0_passStop_28 : decode cX0_passStop 28 = .ok (.putfield 22, 3) := by decide +kernel
theorem dX0_passStop_31 : decode cX0_passStop 31 = .ok (.aload_n 0, 1) := by decide +kernel
theorem dX0_passStop_32 : decode cX0_passStop 32 = .ok (.dup, 1) := by decide +kernel
theorem dX0_passStop_33 : decode cX0_passStop 33 = .ok (.getfield 48, 3) := by decide +kernel
theorem dX0_passStop_36 : decode cX0_passStop 36 = .ok (.iconst 1, 1) := by decide +kernel
theorem dX0_passStop_37 : decode cX0_passStop 37 = .ok (.iadd, 1) := by decide +kernel
theorem dX0_passStop_38 : decode cX0_passStop 38 = .ok (.putfield 48, 3) := by decide +kernel
theorem dX0_passStop_41 : decode cX0_passStop 41 = .ok (.iconst 1, 1) := by decide +kernel
theorem dX0_passStop_42 : decode cX0_passStop 42 = .ok (.ireturn, 1) := by decide +kernel
theorem dX0_writeFormatted_0 : decode cX0_writeFormatted 0 = .ok (.aload_n 0, 1) := by decide +kernel
theorem dX0_writeFormatted_1 : decode cX0_writeFormatted 1 = .ok (.invokevirtual 51, 3) := by decide +kernel
theorem dX0_writeFormatted_4 : decode cX0_writeFormatted 4 = .ok (.ifCond .ne 5, 3) := by decide +kernel
theorem dX0_writeFormatted_7 : decode cX0_writeFormatted 7 = .ok (.iconst 0, 1) := by decide +kernel
theorem dX0_writeFormatted_8 : decode cX0_writeFormatted 8 = .ok (.ireturn, 1) := by decide +kernel
theorem dX0_writeFormatted_9 : decode cX0_writeFormatted 9 = .ok (.aload_n 0, 1) := by decide +kernel
theorem dX0_writeFormatted_10 : decode cX0_writeFormatted 10 = .ok (.iload_n 1, 1) := by decide +kernel
theorem dX0_writeFormatted_11 : decode cX0_writeFormatted 11 = .ok (.putfield 54, 3) := by decide +kernel
theorem dX0_writeFormatted_14 : decode cX0_writeFormatted 14 = .ok (.iconst 1, 1) := by decide +kernel
theorem dX0_writeFormatted_15 : decode cX0_writeFormatted 15 = .ok (.ireturn, 1) := by decide +kernel
theorem dX0_writeLogState_0 : decode cX0_writeLogState 0 = .ok (.aload_n 0, 1) := by decide +kernel
theorem dX0_writeLogState_1 : decode cX0_writeLogState 1 = .ok (.invokevirtual 51, 3) := by decide +kernel
theorem dX0_writeLogState_4 : decode cX0_writeLogState 4 = .ok (.ifCond .ne 5, 3) := by decide +kernel
theorem dX0_writeLogState_7 : decode cX0_writeLogState 7 = .ok (.iconst 0, 1) := by decide +kernel
theorem dX0_writeLogState_8 : decode cX0_writeLogState 8 = .ok (.ireturn, 1) := by decide +kernel
theorem dX0_writeLogState_9 : decode cX0_writeLogState 9 = .ok (.aload_n 0, 1) := by decide +kernel
theorem dX0_writeLogState_10 : decode cX0_writeLogState 10 = .ok (.iload_n 1, 1) := by decide +kernel
theorem dX0_writeLogState_11 : decode cX0_writeLogState 11 = .ok (.putfield 45, 3) := by decide +kernel
theorem dX0_writeLogState_14 : decode cX0_writeLogState 14 = .ok (.iconst 1, 1) := by decide +kernel
theorem dX0_writeLogState_15 : decode cX0_writeLogState 15 = .ok (.ireturn, 1) := by decide +kernel
theorem dX0_writeBlocks_0 : decode cX0_writeBlocks 0 = .ok (.iconst 0, 1) := by decide +kernel
theorem dX0_writeBlocks_1 : decode cX0_writeBlocks 1 = .ok (.istore 4, 2) := by decide +kernel
theorem dX0_writeBlocks_3 : decode cX0_writeBlocks 3 = .ok (.iload 4, 2) := by decide +kernel
theorem dX0_writeBlocks_5 : decode cX0_writeBlocks 5 = .ok (.aload_n 1, 1) := by decide +kernel
theorem dX0_writeBlocks_6 : decode cX0_writeBlocks 6 = .ok (.arraylength, 1) := by decide +kernel
theorem dX0_writeBlocks_7 : decode cX0_writeBlocks 7 = .ok (.if_icmp .ge 45, 3) := by decide +kernel
theorem dX0_writeBlocks_10 : decode cX0_writeBlocks 10 = .ok (.iload 4, 2) := by decide +kernel
theorem dX0_writeBlocks_12 : decode cX0_writeBlocks 12 = .ok (.aload_n 3, 1) := by decide +kernel
theorem dX0_writeBlocks_13 : decode cX0_writeBlocks 13 = .ok (.arraylength, 1) := by decide +kernel
theorem dX0_writeBlocks_14 : decode cX0_writeBlocks 14 = .ok (.if_icmp .ge 38, 3) := by decide +kernel
theorem dX0_writeBlocks_17 : decode cX0_writeBlocks 17 = .ok (.iload_n 2, 1) := by decide +kernel
theorem dX0_writeBlocks_18 : decode cX0_writeBlocks 18 = .ok (.iload 4, 2) := by decide +kernel
theorem dX0_writeBlocks_20 : decode cX0_writeBlocks 20 = .ok (.invokestatic 58, 3) := by decide +kernel
theorem dX0_writeBlocks_23 : decode cX0_writeBlocks 23 = .ok (.ifCond .eq 23, 3) := by decide +kernel
theorem dX0_writeBlocks_26 : decode cX0_writeBlocks 26 = .ok (.aload_n 0, 1) := by decide +kernel
theorem dX0_writeBlocks_27 : decode cX0_writeBlocks 27 = .ok (.invokevirtual 51, 3) := by decide +kernel
theorem dX0_writeBlocks_30 : decode cX0_writeBlocks 30 = .ok (.ifCond .ne 5, 3) := by decide +kernel
theorem dX0_writeBlocks_33 : decode cX0_writeBlocks 33 = .ok (.iconst 0, 1) := by decide +kernel
theorem dX0_writeBlocks_34 : decode cX0_writeBlocks 34 = .ok (.ireturn, 1) := by decide +kernel
theorem dX0_writeBlocks_35 : decode cX0_writeBlocks 35 = .ok (.aload_n 1, 1) := by decide +kernel
theorem dX0_writeBlocks_36 : decode cX0_writeBlocks 36 = .ok (.iload 4, 2) := by decide +kernel
theorem dX0_writeBlocks_38 : decode cX0_writeBlocks 38 = .ok (.aaload, 1) := by decide +kernel
theorem dX0_writeBlocks_39 : decode cX0_writeBlocks 39 = .ok (.aload_n 3, 1) := by decide +kernel
theorem dX0_writeBlocks_40 : decode cX0_writeBlocks 40 = .ok (.iload 4, 2) := by decide +kernel
theorem dX0_writeBlocks_42 : decode cX0_writeBlocks 42 = .ok (.aaload, 1) := by decide +kernel
theorem dX0_writeBlocks_43 : decode cX0_writeBlocks 43 = .ok (.invokevirtual 62, 3) := by decide +kernel
theorem dX0_writeBlocks_46 : decode cX0_writeBlocks 46 = .ok (.iinc 4 1, 3) := by decide +kernel
theorem dX0_writeBlocks_49 : decode cX0_writeBlocks 49 = .ok (.goto (-46), 3) := by decide +kernel
theorem dX0_writeBlocks_52 : decode cX0_writeBlocks 52 = .ok (.iconst 1, 1) := by decide +kernel
theorem dX0_writeBlocks_53 : decode cX0_writeBlocks 53 = .ok (.ireturn, 1) := by decide +kernel
theorem dX0_clearHomes_0 : decode cX0_clearHomes 0 = .ok (.iconst 0, 1) := by decide +kernel
theorem dX0_clearHomes_1 : decode cX0_clearHomes 1 = .ok (.istore_n 1, 1) := by decide +kernel
theorem dX0_clearHomes_2 : decode cX0_clearHomes 2 = .ok (.iload_n 1, 1) := by decide +kernel
theorem dX0_clearHomes_3 : decode cX0_clearHomes 3 = .ok (.aload_n 0, 1) := by decide +kernel
theorem dX0_clearHomes_4 : decode cX0_clearHomes 4 = .ok (.getfield 13, 3) := by decide +kernel
theorem dX0_clearHomes_7 : decode cX0_clearHomes 7 = .ok (.arraylength, 1) := by decide +kernel
theorem dX0_clearHomes_8 : decode cX0_clearHomes 8 = .ok (.if_icmp .ge 27, 3) := by decide +kernel
theorem dX0_clearHomes_11 : decode cX0_clearHomes 11 = .ok (.aload_n 0, 1) := by decide +kernel
theorem dX0_clearHomes_12 : decode cX0_clearHomes 12 = .ok (.invokevirtual 51, 3) := by decide +kernel
theorem dX0_clearHomes_15 : decode cX0_clearHomes 15 = .ok (.ifCond .ne 5, 3) := by decide +kernel
theorem dX0_clearHomes_18 : decode cX0_clearHomes 18 = .ok (.iconst 0, 1) := by decide +kernel
theorem dX0_clearHomes_19 : decode cX0_clearHomes 19 = .ok (.ireturn, 1) := by decide +kernel
theorem dX0_clearHomes_20 : decode cX0_clearHomes 20 = .ok (.aload_n 0, 1) := by decide +kernel
theorem dX0_clearHomes_21 : decode cX0_clearHomes 21 = .ok (.getfield 13, 3) := by decide +kernel
theorem dX0_clearHomes_24 : decode cX0_clearHomes 24 = .ok (.iload_n 1, 1) := by decide +kernel
theorem dX0_clearHomes_25 : decode cX0_clearHomes 25 = .ok (.aaload, 1) := by decide +kernel
theorem dX0_clearHomes_26 : decode cX0_clearHomes 26 = .ok (.invokevirtual 68, 3) := by decide +kernel
theorem dX0_clearHomes_29 : decode cX0_clearHomes 29 = .ok (.iinc 1 1, 3) := by decide +kernel
theorem dX0_clearHomes_32 : decode cX0_clearHomes 32 = .ok (.goto (-30), 3) := by decide +kernel
theorem dX0_clearHomes_35 : decode cX0_clearHomes 35 = .ok (.iconst 1, 1) := by decide +kernel
theorem dX0_clearHomes_36 : decode cX0_clearHomes 36 = .ok (.ireturn, 1) := by decide +kernel
theorem dX1_init_0 : decode cX1_init 0 = .ok (.aload_n 0, 1) := by decide +kernel
theorem dX1_init_1 : decode cX1_init 1 = .ok (.invokespecial 3, 3) := by decide +kernel
theorem dX1_init_4 : decode cX1_init 4 = .ok (.aload_n 0, 1) := by decide +kernel
theorem dX1_init_5 : decode cX1_init 5 = .ok (.iload_n 1, 1) := by decide +kernel
theorem dX1_init_6 : decode cX1_init 6 = .ok (.newarray .int, 2) := by decide +kernel
theorem dX1_init_8 : decode cX1_init 8 = .ok (.putfield 9, 3) := by decide +kernel
theorem dX1_init_11 : decode cX1_init 11 = .ok (.return_, 1) := by decide +kernel
theorem dX1_limbAt_0 : decode cX1_limbAt 0 = .ok (.iload_n 1, 1) := by decide +kernel
theorem dX1_limbAt_1 : decode cX1_limbAt 1 = .ok (.ifCond .lt 20, 3) := by decide +kernel
theorem dX1_limbAt_4 : decode cX1_limbAt 4 = .ok (.iload_n 1, 1) := by decide +kernel
theorem dX1_limbAt_5 : decode cX1_limbAt 5 = .ok (.aload_n 0, 1) := by decide +kernel
theorem dX1_limbAt_6 : decode cX1_limbAt 6 = .ok (.getfield 15, 3) := by decide +kernel
theorem dX1_limbAt_9 : decode cX1_limbAt 9 = .ok (.if_icmp .ge 12, 3) := by decide +kernel
theorem dX1_limbAt_12 : decode cX1_limbAt 12 = .ok (.aload_n 0, 1) := by decide +kernel
theorem dX1_limbAt_13 : decode cX1_limbAt 13 = .ok (.getfield 9, 3) := by decide +kernel
theorem dX1_limbAt_16 : decode cX1_limbAt 16 = .ok (.iload_n 1, 1) := by decide +kernel
theorem dX1_limbAt_17 : decode cX1_limbAt 17 = .ok (.iaload, 1) := by decide +kernel
theorem dX1_limbAt_18 : decode cX1_limbAt 18 = .ok (.goto 4, 3) := by decide +kernel
theorem dX1_limbAt_21 : decode cX1_limbAt 21 = .ok (.iconst 0, 1) := by decide +kernel
theorem dX1_limbAt_22 : decode cX1_limbAt 22 = .ok (.ireturn, 1) := by decide +kernel
theorem dX1_setZero_0 : decode cX1_setZero 0 = .ok (.iconst 0, 1) := by decide +kernel
theorem dX1_setZero_1 : decode cX1_setZero 1 = .ok (.istore_n 1, 1) := by decide +kernel
theorem dX1_setZero_2 : decode cX1_setZero 2 = .ok (.iload_n 1, 1) := by decide +kernel
theorem dX1_setZero_3 : decode cX1_setZero 3 = .ok (.aload_n 0, 1) := by decide +kernel
theorem dX1_setZero_4 : decode cX1_setZero 4 = .ok (.getfield 9, 3) := by decide +kernel
theorem dX1_setZero_7 : decode cX1_setZero 7 = .ok (.arraylength, 1) := by decide +kernel
theorem dX1_setZero_8 : decode cX1_setZero 8 = .ok (.if_icmp .ge 16, 3) := by decide +kernel
theorem dX1_setZero_11 : decode cX1_setZero 11 = .ok (.aload_n 0, 1) := by decide +kernel
theorem dX1_setZero_12 : decode cX1_setZero 12 = .ok (.getfield 9, 3) := by decide +kernel
theorem dX1_setZero_15 : decode cX1_setZero 15 = .ok (.iload_n 1, 1) := by decide +kernel
theorem dX1_setZero_16 : decode cX1_setZero 16 = .ok (.iconst 0, 1) := by decide +kernel
theorem dX1_setZero_17 : decode cX1_setZero 17 = .ok (.iastore, 1) := by decide +kernel
theorem dX1_setZero_18 : decode cX1_setZero 18 = .ok (.iinc 1 1, 3) := by decide +kernel
theorem dX1_setZero_21 : decode cX1_setZero 21 = .ok (.goto (-19), 3) := by decide +kernel
theorem dX1_setZero_24 : decode cX1_setZero 24 = .ok (.aload_n 0, 1) := by decide +kernel
theorem dX1_setZero_25 : decode cX1_setZero 25 = .ok (.iconst 0, 1) := by decide +kernel
theorem dX1_setZero_26 : decode cX1_setZero 26 = .ok (.putfield 15, 3) := by decide +kernel
theorem dX1_setZero_29 : decode cX1_setZero 29 = .ok (.return_, 1) := by decide +kernel
theorem dX1_setTo_0 : decode cX1_setTo 0 = .ok (.iconst 0, 1) := by decide +kernel
theorem dX1_setTo_1 : decode cX1_setTo 1 = .ok (.istore_n 2, 1) := by decide +kernel
theorem dX1_setTo_2 : decode cX1_setTo 2 = .ok (.iload_n 2, 1) := by decide +kernel
theorem dX1_setTo_3 : decode cX1_setTo 3 = .ok (.aload_n 0, 1) := by decide +kernel
theorem dX1_setTo_4 : decode cX1_setTo 4 = .ok (.getfield 9, 3) := by decide +kernel
theorem dX1_setTo_7 : decode cX1_setTo 7 = .ok (.arraylength, 1) := by decide +kernel
theorem dX1_setTo_8 : decode cX1_setTo 8 = .ok (.if_icmp .ge 20, 3) := by decide +kernel
theorem dX1_setTo_11 : decode cX1_setTo 11 = .ok (.aload_n 0, 1) := by decide +kernel
theorem dX1_setTo_12 : decode cX1_setTo 12 = .ok (.getfield 9, 3) := by decide +kernel
theorem dX1_setTo_15 : decode cX1_setTo 15 = .ok (.iload_n 2, 1) := by decide +kernel
theorem dX1_setTo_16 : decode cX1_setTo 16 = .ok (.aload_n 1, 1) := by decide +kernel
theorem dX1_setTo_17 : decode cX1_setTo 17 = .ok (.iload_n 2, 1) := by decide +kernel
theorem dX1_setTo_18 : decode cX1_setTo 18 = .ok (.invokevirtual 19, 3) := by decide +kernel
theorem dX1_setTo_21 : decode cX1_setTo 21 = .ok (.iastore, 1) := by decide +kernel
theorem dX1_setTo_22 : decode cX1_setTo 22 = .ok (.iinc 2 1, 3) := by decide +kernel
theorem dX1_setTo_25 : decode cX1_setTo 25 = .ok (.goto (-23), 3) := by decide +kernel
theorem dX1_setTo_28 : decode cX1_setTo 28 = .ok (.aload_n 0, 1) := by decide +kernel
theorem dX1_setTo_29 : decode cX1_setTo 29 = .ok (.invokevirtual 23, 3) := by decide +kernel
theorem dX1_setTo_32 : decode cX1_setTo 32 = .ok (.return_, 1) := by decide +kernel
theorem dX1_append_0 : decode cX1_append 0 = .ok (.aload_n 0, 1) := by decide +kernel
theorem dX1_append_1 : decode cX1_append 1 = .ok (.getfield 9, 3) := by decide +kernel
theorem dX1_append_4 : decode cX1_append 4 = .ok (.arraylength, 1) := by decide +kernel
theorem dX1_append_5 : decode cX1_append 5 = .ok (.iconst 1, 1) := by decide +kernel
theorem dX1_append_6 : decode cX1_append 6 = .ok (.isub, 1) := by decide +kernel
theorem dX1_append_7 : decode cX1_append 7 = .ok (.istore_n 2, 1) := by decide +kernel
theorem dX1_append_8 : decode cX1_append 8 = .ok (.iload_n 2, 1) := by decide +kernel
theorem dX1_append_9 : decode cX1_append 9 = .ok (.ifCond .le 23, 3) := by decide +kernel
theorem dX1_append_12 : decode cX1_append 12 = .ok (.aload_n 0, 1) := by decide +kernel
theorem dX1_append_13 : decode cX1_append 13 = .ok (.getfield 9, 3) := by decide +kernel
theorem dX1_append_16 : decode cX1_append 16 = .ok (.iload_n 2, 1) := by decide +kernel
theorem dX1_append_17 : decode cX1_append 17 = .ok (.aload_n 0, 1) := by decide +kernel
theorem dX1_append_18 : decode cX1_append 18 = .ok (.getfield 9, 3) := by decide +kernel
theorem dX1_append_21 : decode cX1_append 21 = .ok (.iload_n 2, 1) := by decide +kernel
theorem dX1_append_22 : decode cX1_append 22 = .ok (.iconst 1, 1) := by decide +kernel
theorem dX1_append_23 : decode cX1_append 23 = .ok (.isub, 1) := by decide +kernel
theorem dX1_append_24 : decode cX1_append 24 = .ok (.iaload, 1) := by decide +kernel
theorem dX1_append_25 : decode cX1_append 25 = .ok (.iastore, 1) := by decide +kernel
theorem dX1_append_26 : decode cX1_append 26 = .ok (.iinc 2 (-1), 3) := by decide +kernel
theorem dX1_append_29 : decode cX1_append 29 = .ok (.goto (-21), 3) := by decide +kernel
theorem dX1_append_32 : decode cX1_append 32 = .ok (.aload_n 0, 1) := by decide +kernel
theorem dX1_append_33 : decode cX1_append 33 = .ok (.getfield 9, 3) := by decide +kernel
theorem dX1_append_36 : decode cX1_append 36 = .ok (.iconst 0, 1) := by decide +kernel
theorem dX1_append_37 : decode cX1_append 37 = .ok (.iload_n 1, 1) := by decide +kernel
theorem dX1_append_38 : decode cX1_append 38 = .ok (.iastore, 1) := by decide +kernel
theorem dX1_append_39 : decode cX1_append 39 = .ok (.aload_n 0, 1) := by decide +kernel
theorem dX1_append_40 : decode cX1_append 40 = .ok (.invokevirtual 23, 3) := by decide +kernel
theorem dX1_append_43 : decode cX1_append 43 = .ok (.return_, 1) := by decide +kernel
theorem dX1_increase_0 : decode cX1_increase 0 = .ok (.lconst 0, 1) := by decide +kernel
theorem dX1_increase_1 : decode cX1_increase 1 = .ok (.lstore_n 2, 1) := by decide +kernel
theorem dX1_increase_2 : decode cX1_increase 2 = .ok (.iconst 0, 1) := by decide +kernel
theorem dX1_increase_3 : decode cX1_increase 3 = .ok (.istore 4, 2) := by decide +kernel
theorem dX1_increase_5 : decode cX1_increase 5 = .ok (.iload 4, 2) := by decide +kernel
theorem dX1_increase_7 : decode cX1_increase 7 = .ok (.aload_n 0, 1) := by decide +kernel
theorem dX1_increase_8 : decode cX1_increase 8 = .ok (.getfield 9, 3) := by decide +kernel
theorem dX1_increase_11 : decode cX1_increase 11 = .ok (.arraylength, 1) := by decide +kernel
theorem dX1_increase_12 : decode cX1_increase 12 = .ok (.if_icmp .ge 49, 3) := by decide +kernel
theorem dX1_increase_15 : decode cX1_increase 15 = .ok (.lload_n 2, 1) := by decide +kernel
theorem dX1_increase_16 : decode cX1_increase 16 = .ok (.aload_n 0, 1) := by decide +kernel
theorem dX1_increase_17 : decode cX1_increase 17 = .ok (.getfield 9, 3) := by decide +kernel
theorem dX1_increase_20 : decode cX1_increase 20 = .ok (.iload 4, 2) := by decide +kernel
theorem dX1_increase_22 : decode cX1_increase 22 = .ok (.iaload, 1) := by decide +kernel
theorem dX1_increase_23 : decode cX1_increase 23 = .ok (.i2l, 1) := by decide +kernel
theorem dX1_increase_24 : decode cX1_increase 24 = .ok (.ladd, 1) := by decide +kernel
theorem dX1_increase_25 : decode cX1_increase 25 = .ok (.aload_n 1, 1) := by decide +kernel
theorem dX1_increase_26 : decode cX1_increase 26 = .ok (.iload 4, 2) := by decide +kernel
theorem dX1_increase_28 : decode cX1_increase 28 = .ok (.invokevirtual 19, 3) := by decide +kernel
theorem dX1_increase_31 : decode cX1_increase 31 = .ok (.i2l, 1) := by decide +kernel
theorem dX1_increase_32 : decode cX1_increase 32 = .ok (.ladd, 1) := by decide +kernel
theorem dX1_increase_33 : decode cX1_increase 33 = .ok (.lstore 5, 2) := by decide +kernel
theorem dX1_increase_35 : decode cX1_increase 35 = .ok (.aload_n 0, 1) := by decide +kernel
theorem dX1_increase_36 : decode cX1_increase 36 = .ok (.getfield 9, 3) := by decide +kernel
theorem dX1_increase_39 : decode cX1_increase 39 = .ok (.iload 4, 2) := by decide +kernel
theorem dX1_increase_41 : decode cX1_increase 41 = .ok (.lload 5, 2) := by decide +kernel
theorem dX1_increase_43 : decode cX1_increase 43 = .ok (.ldc2_w 26, 3) := by decide +kernel
theorem dX1_increase_46 : decode cX1_increase 46 = .ok (.land, 1) := by decide +kernel
theorem dX1_increase_47 : decode cX1_increase 47 = .ok (.l2i, 1) := by decide +kernel
theorem dX1_increase_48 : decode cX1_increase 48 = .ok (.iastore, 1) := by decide +kernel
theorem dX1_increase_49 : decode cX1_increase 49 = .ok (.lload 5, 2) := by decide +kernel
theorem dX1_increase_51 : decode cX1_increase 51 = .ok (.bipush 31, 2) := by decide +kernel
theorem dX1_increase_53 : decode cX1_increase 53 = .ok (.lushr, 1) := by decide +kernel
theorem dX1_increase_54 : decode cX1_increase 54 = .ok (.lstore_n 2, 1) := by decide +kernel
theorem dX1_increase_55 : decode cX1_increase 55 = .ok (.iinc 4 1, 3) := by decide +kernel
theorem dX1_increase_58 : decode cX1_increase 58 = .ok (.goto (-53), 3) := by decide +kernel
theorem dX1_increase_61 : decode cX1_increase 61 = .ok (.aload_n 0, 1) := by decide +kernel
theorem dX1_increase_62 : decode cX1_increase 62 = .ok (.invokevirtual 23, 3) := by decide +kernel
theorem dX1_increase_65 : decode cX1_increase 65 = .ok (.return_, 1) := by decide +kernel
theorem dX1_decrease_0 : decode cX1_decrease 0 = .ok (.lconst 0, 1) := by decide +kernel
theorem dX1_decrease_1 : decode cX1_decrease 1 = .ok (.lstore_n 2, 1) := by decide +kernel
theorem dX1_decrease_2 : decode cX1_decrease 2 = .ok (.iconst 0, 1) := by decide +kernel
theorem dX1_decrease_3 : decode cX1_decrease 3 = .ok (.istore 4, 2) := by decide +kernel
theorem dX1_decrease_5 : decode cX1_decrease 5 = .ok (.iload 4, 2) := by decide +kernel
theorem dX1_decrease_7 : decode cX1_decrease 7 = .ok (.aload_n 0, 1) := by decide +kernel
theorem dX1_decrease_8 : decode cX1_decrease 8 = .ok (.getfield 9, 3) := by decide +kernel
theorem dX1_decrease_11 : decode cX1_decrease 11 = .ok (.arraylength, 1) := by decide +kernel
theorem dX1_decrease_12 : decode cX1_decrease 12 = .ok (.if_icmp .ge 56, 3) := by decide +kernel
theorem dX1_decrease_15 : decode cX1_decrease 15 = .ok (.aload_n 0, 1) := by decide +kernel
theorem dX1_decrease_16 : decode cX1_decrease 16 = .ok (.getfield 9, 3) := by decide +kernel
theorem dX1_decrease_19 : decode cX1_decrease 19 = .ok (.iload 4, 2) := by decide +kernel
theorem dX1_decrease_21 : decode cX1_decrease 21 = .ok (.iaload, 1) := by decide +kernel
theorem dX1_decrease_22 : decode cX1_decrease 22 = .ok (.i2l, 1) := by decide +kernel
theorem dX1_decrease_23 : decode cX1_decrease 23 = .ok (.aload_n 1, 1) := by decide +kernel
theorem dX1_decrease_24 : decode cX1_decrease 24 = .ok (.iload 4, 2) := by decide +kernel
theorem dX1_decrease_26 : decode cX1_decrease 26 = .ok (.invokevirtual 19, 3) := by decide +kernel
theorem dX1_decrease_29 : decode cX1_decrease 29 = .ok (.i2l, 1) := by decide +kernel
theorem dX1_decrease_30 : decode cX1_decrease 30 = .ok (.lsub, 1) := by decide +kernel
theorem dX1_decrease_31 : decode cX1_decrease 31 = .ok (.lload_n 2, 1) := by decide +kernel
theorem dX1_decrease_32 : decode cX1_decrease 32 = .ok (.lsub, 1) := by decide +kernel
theorem dX1_decrease_33 : decode cX1_decrease 33 = .ok (.lstore 5, 2) := by decide +kernel
theorem dX1_decrease_35 : decode cX1_decrease 35 = .ok (.aload_n 0, 1) := by decide +kernel
theorem dX1_decrease_36 : decode cX1_decrease 36 = .ok (.getfield 9, 3) := by decide +kernel
theorem dX1_decrease_39 : decode cX1_decrease 39 = .ok (.iload 4, 2) := by decide +kernel
theorem dX1_decrease_41 : decode cX1_decrease 41 = .ok (.lload 5, 2) := by decide +kernel
theorem dX1_decrease_43 : decode cX1_decrease 43 = .ok (.ldc2_w 26, 3) := by decide +kernel
theorem dX1_decrease_46 : decode cX1_decrease 46 = .ok (.land, 1) := by decide +kernel
theorem dX1_decrease_47 : decode cX1_decrease 47 = .ok (.l2i, 1) := by decide +kernel
theorem dX1_decrease_48 : decode cX1_decrease 48 = .ok (.iastore, 1) := by decide +kernel
theorem dX1_decrease_49 : decode cX1_decrease 49 = .ok (.lload 5, 2) := by decide +kernel
theorem dX1_decrease_51 : decode cX1_decrease 51 = .ok (.lconst 0, 1) := by decide +kernel
theorem dX1_decrease_52 : decode cX1_decrease 52 = .ok (.lcmp, 1) := by decide +kernel
theorem dX1_decrease_53 : decode cX1_decrease 53 = .ok (.ifCond .ge 7, 3) := by decide +kernel
theorem dX1_decrease_56 : decode cX1_decrease 56 = .ok (.lconst 1, 1) := by decide +kernel
theorem dX1_decrease_57 : decode cX1_decrease 57 = .ok (.goto 4, 3) := by decide +kernel
theorem dX1_decrease_60 : decode cX1_decrease 60 = .ok (.lconst 0, 1) := by decide +kernel
theorem dX1_decrease_61 : decode cX1_decrease 61 = .ok (.lstore_n 2, 1) := by decide +kernel
theorem dX1_decrease_62 : decode cX1_decrease 62 = .ok (.iinc 4 1, 3) := by decide +kernel
theorem dX1_decrease_65 : decode cX1_decrease 65 = .ok (.goto (-60), 3) := by decide +kernel
theorem dX1_decrease_68 : decode cX1_decrease 68 = .ok (.aload_n 0, 1) := by decide +kernel
theorem dX1_decrease_69 : decode cX1_decrease 69 = .ok (.invokevirtual 23, 3) := by decide +kernel
theorem dX1_decrease_72 : decode cX1_decrease 72 = .ok (.return_, 1) := by decide +kernel
theorem dX1_multiply_0 : decode cX1_multiply 0 = .ok (.lconst 0, 1) := by decide +kernel
theorem dX1_multiply_1 : decode cX1_multiply 1 = .ok (.lstore_n 2, 1) := by decide +kernel
theorem dX1_multiply_2 : decode cX1_multiply 2 = .ok (.iconst 0, 1) := by decide +kernel
theorem dX1_multiply_3 : decode cX1_multiply 3 = .ok (.istore 4, 2) := by decide +kernel
theorem dX1_multiply_5 : decode cX1_multiply 5 = .ok (.iload 4, 2) := by decide +kernel
theorem dX1_multiply_7 : decode cX1_multiply 7 = .ok (.aload_n 0, 1) := by decide +kernel
theorem dX1_multiply_8 : decode cX1_multiply 8 = .ok (.getfield 9, 3) := by decide +kernel
theorem dX1_multiply_11 : decode cX1_multiply 11 = .ok (.arraylength, 1) := by decide +kernel
theorem dX1_multiply_12 : decode cX1_multiply 12 = .ok (.if_icmp .ge 44, 3) := by decide +kernel
theorem dX1_multiply_15 : decode cX1_multiply 15 = .ok (.aload_n 0, 1) := by decide +kernel
theorem dX1_multiply_16 : decode cX1_multiply 16 = .ok (.getfield 9, 3) := by decide +kernel
theorem dX1_multiply_19 : decode cX1_multiply 19 = .ok (.iload 4, 2) := by decide +kernel
theorem dX1_multiply_21 : decode cX1_multiply 21 = .ok (.iaload, 1) := by decide +kernel
theorem dX1_multiply_22 : decode cX1_multiply 22 = .ok (.i2l, 1) := by decide +kernel
theorem dX1_multiply_23 : decode cX1_multiply 23 = .ok (.iload_n 1, 1) := by decide +kernel
theorem dX1_multiply_24 : decode cX1_multiply 24 = .ok (.i2l, 1) := by decide +kernel
theorem dX1_multiply_25 : decode cX1_multiply 25 = .ok (.lmul, 1) := by decide +kernel
theorem dX1_multiply_26 : decode cX1_multiply 26 = .ok (.lload_n 2, 1) := by decide +kernel
theorem dX1_multiply_27 : decode cX1_multiply 27 = .ok (.ladd, 1) := by decide +kernel
theorem dX1_multiply_28 : decode cX1_multiply 28 = .ok (.lstore 5, 2) := by decide +kernel
theorem dX1_multiply_30 : decode cX1_multiply 30 = .ok (.aload_n 0, 1) := by decide +kernel
theorem dX1_multiply_31 : decode cX1_multiply 31 = .ok (.getfield 9, 3) := by decide +kernel
theorem dX1_multiply_34 : decode cX1_multiply 34 = .ok (.iload 4, 2) := by decide +kernel
theorem dX1_multiply_36 : decode cX1_multiply 36 = .ok (.lload 5, 2) := by decide +kernel
theorem dX1_multiply_38 : decode cX1_multiply 38 = .ok (.ldc2_w 26, 3) := by decide +kernel
theorem dX1_multiply_41 : decode cX1_multiply 41 = .ok (.land, 1) := by decide +kernel
theorem dX1_multiply_42 : decode cX1_multiply 42 = .ok (.l2i, 1) := by decide +kernel
theorem dX1_multiply_43 : decode cX1_multiply 43 = .ok (.iastore, 1) := by decide +kernel
theorem dX1_multiply_44 : decode cX1_multiply 44 = .ok (.lload 5, 2) := by decide +kernel
theorem dX1_multiply_46 : decode cX1_multiply 46 = .ok (.bipush 31, 2) := by decide +kernel
theorem dX1_multiply_48 : decode cX1_multiply 48 = .ok (.lushr, 1) := by decide +kernel
theorem dX1_multiply_49 : decode cX1_multiply 49 = .ok (.lstore_n 2, 1) := by decide +kernel
theorem dX1_multiply_50 : decode cX1_multiply 50 = .ok (.iinc 4 1, 3) := by decide +kernel
theorem dX1_multiply_53 : decode cX1_multiply 53 = .ok (.goto (-48), 3) := by decide +kernel
theorem dX1_multiply_56 : decode cX1_multiply 56 = .ok (.aload_n 0, 1) := by decide +kernel
theorem dX1_multiply_57 : decode cX1_multiply 57 = .ok (.invokevirtual 23, 3) := by decide +kernel
theorem dX1_multiply_60 : decode cX1_multiply 60 = .ok (.return_, 1) := by decide +kernel
theorem dX1_divide_0 : decode cX1_divide 0 = .ok (.iload_n 1, 1) := by decide +kernel
theorem dX1_divide_1 : decode cX1_divide 1 = .ok (.iconst 1, 1) := by decide +kernel
theorem dX1_divide_2 : decode cX1_divide 2 = .ok (.if_icmp .ge 5, 3) := by decide +kernel
theorem dX1_divide_5 : decode cX1_divide 5 = .ok (.iconst 0, 1) := by decide +kernel
theorem dX1_divide_6 : decode cX1_divide 6 = .ok (.ireturn, 1) := by decide +kernel
theorem dX1_divide_7 : decode cX1_divide 7 = .ok (.lconst 0, 1) := by decide +kernel
theorem dX1_divide_8 : decode cX1_divide 8 = .ok (.lstore_n 2, 1) := by decide +kernel
theorem dX1_divide_9 : decode cX1_divide 9 = .ok (.aload_n 0, 1) := by decide +kernel
theorem dX1_divide_10 : decode cX1_divide 10 = .ok (.getfield 9, 3) := by decide +kernel
theorem dX1_divide_13 : decode cX1_divide 13 = .ok (.arraylength, 1) := by decide +kernel
theorem dX1_divide_14 : decode cX1_divide 14 = .ok (.iconst 1, 1) := by decide +kernel
theorem dX1_divide_15 : decode cX1_divide 15 = .ok (.isub, 1) := by decide +kernel
theorem dX1_divide_16 : decode cX1_divide 16 = .ok (.istore 4, 2) := by decide +kernel
theorem dX1_divide_18 : decode cX1_divide 18 = .ok (.iload 4, 2) := by decide +kernel
theorem dX1_divide_20 : decode cX1_divide 20 = .ok (.ifCond .lt 43, 3) := by decide +kernel
theorem dX1_divide_23 : decode cX1_divide 23 = .ok (.lload_n 2, 1) := by decide +kernel
theorem dX1_divide_24 : decode cX1_divide 24 = .ok (.bipush 31, 2) := by decide +kernel
theorem dX1_divide_26 : decode cX1_divide 26 = .ok (.lshl, 1) := by decide +kernel
theorem dX1_divide_27 : decode cX1_divide 27 = .ok (.aload_n 0, 1) := by decide +kernel
theorem dX1_divide_28 : decode cX1_divide 28 = .ok (.getfield 9, 3) := by decide +kernel
theorem dX1_divide_31 : decode cX1_divide 31 = .ok (.iload 4, 2) := by decide +kernel
theorem dX1_divide_33 : decode cX1_divide 33 = .ok (.iaload, 1) := by decide +kernel
theorem dX1_divide_34 : decode cX1_divide 34 = .ok (.i2l, 1) := by decide +kernel
theorem dX1_divide_35 : decode cX1_divide 35 = .ok (.ladd, 1) := by decide +kernel
theorem dX1_divide_36 : decode cX1_divide 36 = .ok (.lstore 5, 2) := by decide +kernel
theorem dX1_divide_38 : decode cX1_divide 38 = .ok (.aload_n 0, 1) := by decide +kernel
theorem dX1_divide_39 : decode cX1_divide 39 = .ok (.getfield 9, 3) := by decide +kernel
theorem dX1_divide_42 : decode cX1_divide 42 = .ok (.iload 4, 2) := by decide +kernel
theorem dX1_divide_44 : decode cX1_divide 44 = .ok (.lload 5, 2) := by decide +kernel
theorem dX1_divide_46 : decode cX1_divide 46 = .ok (.iload_n 1, 1) := by decide +kernel
theorem dX1_divide_47 : decode cX1_divide 47 = .ok (.i2l, 1) := by decide +kernel
theorem dX1_divide_48 : decode cX1_divide 48 = .ok (.ldiv, 1) := by decide +kernel
theorem dX1_divide_49 : decode cX1_divide 49 = .ok (.l2i, 1) := by decide +kernel
theorem dX1_divide_50 : decode cX1_divide 50 = .ok (.iastore, 1) := by decide +kernel
theorem dX1_divide_51 : decode cX1_divide 51 = .ok (.lload 5, 2) := by decide +kernel
theorem dX1_divide_53 : decode cX1_divide 53 = .ok (.iload_n 1, 1) := by decide +kernel
theorem dX1_divide_54 : decode cX1_divide 54 = .ok (.i2l, 1) := by decide +kernel
theorem dX1_divide_55 : decode cX1_divide 55 = .ok (.lrem, 1) := by decide +kernel
theorem dX1_divide_56 : decode cX1_divide 56 = .ok (.lstore_n 2, 1) := by decide +kernel
theorem dX1_divide_57 : decode cX1_divide 57 = .ok (.iinc 4 (-1), 3) := by decide +kernel
theorem dX1_divide_60 : decode cX1_divide 60 = .ok (.goto (-42), 3) := by decide +kernel
theorem dX1_divide_63 : decode cX1_divide 63 = .ok (.aload_n 0, 1) := by decide +kernel
theorem dX1_divide_64 : decode cX1_divide 64 = .ok (.invokevirtual 23, 3) := by decide +kernel
theorem dX1_divide_67 : decode cX1_divide 67 = .ok (.lload_n 2, 1) := by decide +kernel
theorem dX1_divide_68 : decode cX1_divide 68 = .ok (.l2i, 1) := by decide +kernel
theorem dX1_divide_69 : decode cX1_divide 69 = .ok (.ireturn, 1) := by decide +kernel
theorem dX1_standingTo_0 : decode cX1_standingTo 0 = .ok (.aload_n 0, 1) := by decide +kernel
theorem dX1_standingTo_1 : decode cX1_standingTo 1 = .ok (.getfield 9, 3) := by decide +kernel
theorem dX1_standingTo_4 : decode cX1_standingTo 4 = .ok (.arraylength, 1) := by decide +kernel
theorem dX1_standingTo_5 : decode cX1_standingTo 5 = .ok (.iconst 1, 1) := by decide +kernel
theorem dX1_standingTo_6 : decode cX1_standingTo 6 = .ok (.isub, 1) := by decide +kernel
theorem dX1_standingTo_7 : decode cX1_standingTo 7 = .ok (.istore_n 2, 1) := by decide +kernel
theorem dX1_standingTo_8 : decode cX1_standingTo 8 = .ok (.iload_n 2, 1) := by decide +kernel
theorem dX1_standingTo_9 : decode cX1_standingTo 9 = .ok (.ifCond .lt 30, 3) := by decide +kernel
theorem dX1_standingTo_12 : decode cX1_standingTo 12 = .ok (.aload_n 0, 1) := by decide +kernel
theorem dX1_standingTo_13 : decode cX1_standingTo 13 = .ok (.getfield 9, 3) := by decide +kernel
theorem dX1_standingTo_16 : decode cX1_standingTo 16 = .ok (.iload_n 2, 1) := by decide +kernel
theorem dX1_standingTo_17 : decode cX1_standingTo 17 = .ok (.iaload, 1) := by decide +kernel
theorem dX1_standingTo_18 : decode cX1_standingTo 18 = .ok (.aload_n 1, 1) := by decide +kernel
theorem dX1_standingTo_19 : decode cX1_standingTo 19 = .ok (.iload_n 2, 1) := by decide +kernel
theorem dX1_standingTo_20 : decode cX1_standingTo 20 = .ok (.invokevirtual 19, 3) := by decide +kernel
theorem dX1_standingTo_23 : decode cX1_standingTo 23 = .ok (.invokestatic 28, 3) := by decide +kernel
theorem dX1_standingTo_26 : decode cX1_standingTo 26 = .ok (.istore_n 3, 1) := by decide +kernel
theorem dX1_standingTo_27 : decode cX1_standingTo 27 = .ok (.iload_n 3, 1) := by decide +kernel
theorem dX1_standingTo_28 : decode cX1_standingTo 28 = .ok (.ifCond .eq 5, 3) := by decide +kernel
theorem dX1_standingTo_31 : decode cX1_standingTo 31 = .ok (.iload_n 3, 1) := by decide +kernel
theorem dX1_standingTo_32 : decode cX1_standingTo 32 = .ok (.ireturn, 1) := by decide +kernel
theorem dX1_standingTo_33 : decode cX1_standingTo 33 = .ok (.iinc 2 (-1), 3) := by decide +kernel
theorem dX1_standingTo_36 : decode cX1_standingTo 36 = .ok (.goto (-28), 3) := by decide +kernel
theorem dX1_standingTo_39 : decode cX1_standingTo 39 = .ok (.iconst 0, 1) := by decide +kernel
theorem dX1_standingTo_40 : decode cX1_standingTo 40 = .ok (.ireturn, 1) := by decide +kernel
theorem dX1_measure_0 : decode cX1_measure 0 = .ok (.aload_n 0, 1) := by decide +kernel
theorem dX1_measure_1 : decode cX1_measure 1 = .ok (.aload_n 0, 1) := by decide +kernel
theorem dX1_measure_2 : decode cX1_measure 2 = .ok (.getfield 9, 3) := by decide +kernel
theorem dX1_measure_5 : decode cX1_measure 5 = .ok (.arraylength, 1) := by decide +kernel
theorem dX1_measure_6 : decode cX1_measure 6 = .ok (.putfield 15, 3) := by decide +kernel
theorem dX1_measure_9 : decode cX1_measure 9 = .ok (.aload_n 0, 1) := by decide +kernel
theorem dX1_measure_10 : decode cX1_measure 10 = .ok (.getfield 15, 3) := by decide +kernel
theorem dX1_measure_13 : decode cX1_measure 13 = .ok (.ifCond .le 30, 3) := by decide +kernel
theorem dX1_measure_16 : decode cX1_measure 16 = .ok (.aload_n 0, 1) := by decide +kernel
theorem dX1_measure_17 : decode cX1_measure 17 = .ok (.getfield 9, 3) := by decide +kernel
theorem dX1_measure_20 : decode cX1_measure 20 = .ok (.aload_n 0, 1) := by decide +kernel
theorem dX1_measure_21 : decode cX1_measure 21 = .ok (.getfield 15, 3) := by decide +kernel
theorem dX1_measure_24 : decode cX1_measure 24 = .ok (.iconst 1, 1) := by decide +kernel
theorem dX1_measure_25 : decode cX1_measure 25 = .ok (.isub, 1) := by decide +kernel
theorem dX1_measure_26 : decode cX1_measure 26 = .ok (.iaload, 1) := by decide +kernel
theorem dX1_measure_27 : decode cX1_measure 27 = .ok (.ifCond .ne 16, 3) := by decide +kernel
theorem dX1_measure_30 : decode cX1_measure 30 = .ok (.aload_n 0, 1) := by decide +kernel
theorem dX1_measure_31 : decode cX1_measure 31 = .ok (.dup, 1) := by decide +kernel
theorem dX1_measure_32 : decode cX1_measure 32 = .ok (.getfield 15, 3) := by decide +kernel
theorem dX1_measure_35 : decode cX1_measure 35 = .ok (.iconst 1, 1) := by decide +kernel
theorem dX1_measure_36 : decode cX1_measure 36 = .ok (.isub, 1) := by decide +kernel
theorem dX1_measure_37 : decode cX1_measure 37 = .ok (.putfield 15, 3) := by decide +kernel
theorem dX1_measure_40 : decode cX1_measure 40 = .ok (.goto (-31), 3) := by decide +kernel
theorem dX1_measure_43 : decode cX1_measure 43 = .ok (.return_, 1) := by decide +kernel
theorem dX2_init_0 : decode cX2_init 0 = .ok (.aload_n 0, 1) := by decide +kernel
theorem dX2_init_1 : decode cX2_init 1 = .ok (.invokespecial 1, 3) := by decide +kernel
theorem dX2_init_4 : decode cX2_init 4 = .ok (.aload_n 0, 1) := by decide +kernel
theorem dX2_init_5 : decode cX2_init 5 = .ok (.iload_n 1, 1) := by decide +kernel
theorem dX2_init_6 : decode cX2_init 6 = .ok (.bipush 24, 2) := by decide +kernel
theorem dX2_init_8 : decode cX2_init 8 = .ok (.invokestatic 9, 3) := by decide +kernel
theorem dX2_init_11 : decode cX2_init 11 = .ok (.putfield 13, 3) := by decide +kernel
theorem dX2_init_14 : decode cX2_init 14 = .ok (.aload_n 0, 1) := by decide +kernel
theorem dX2_init_15 : decode cX2_init 15 = .ok (.iload_n 2, 1) := by decide +kernel
theorem dX2_init_16 : decode cX2_init 16 = .ok (.bipush 20, 2) := by decide +kernel
theorem dX2_init_18 : decode cX2_init 18 = .ok (.invokestatic 9, 3) := by decide +kernel
theorem dX2_init_21 : decode cX2_init 21 = .ok (.putfield 17, 3) := by decide +kernel
theorem dX2_init_24 : decode cX2_init 24 = .ok (.aload_n 0, 1) := by decide +kernel
theorem dX2_init_25 : decode cX2_init 25 = .ok (.iload_n 3, 1) := by decide +kernel
theorem dX2_init_26 : decode cX2_init 26 = .ok (.bipush 25, 2) := by decide +kernel
theorem dX2_init_28 : decode cX2_init 28 = .ok (.invokestatic 9, 3) := by decide +kernel
theorem dX2_init_31 : decode cX2_init 31 = .ok (.putfield 20, 3) := by decide +kernel
theorem dX2_init_34 : decode cX2_init 34 = .ok (.aload_n 0, 1) := by decide +kernel
theorem dX2_init_35 : decode cX2_init 35 = .ok (.getfield 13, 3) := by decide +kernel
theorem dX2_init_38 : decode cX2_init 38 = .ok (.iconst 1, 1) := by decide +kernel
theorem dX2_init_39 : decode cX2_init 39 = .ok (.iadd, 1) := by decide +kernel
theorem dX2_init_40 : decode cX2_init 40 = .ok (.istore 4, 2) := by decide +kernel
theorem dX2_init_42 : decode cX2_init 42 = .ok (.aload_n 0, 1) := by decide +kernel
theorem dX2_init_43 : decode cX2_init 43 = .ok (.getfield 17, 3) := by decide +kernel
theorem dX2_init_46 : decode cX2_init 46 = .ok (.iconst 1, 1) := by decide +kernel
theorem dX2_init_47 : decode cX2_init 47 = .ok (.iadd, 1) := by decide +kernel
theorem dX2_init_48 : decode cX2_init 48 = .ok (.istore 5, 2) := by decide +kernel
theorem dX2_init_50 : decode cX2_init 50 = .ok (.aload_n 0, 1) := by decide +kernel
theorem dX2_init_51 : decode cX2_init 51 = .ok (.new 23, 3) := by decide +kernel
theorem dX2_init_54 : decode cX2_init 54 = .ok (.dup, 1) := by decide +kernel
theorem dX2_init_55 : decode cX2_init 55 = .ok (.iload 4, 2) := by decide +kernel
theorem dX2_init_57 : decode cX2_init 57 = .ok (.iload 5, 2) := by decide +kernel
theorem dX2_init_59 : decode cX2_init 59 = .ok (.invokespecial 25, 3) := by decide +kernel
theorem dX2_init_62 : decode cX2_init 62 = .ok (.putfield 28, 3) := by decide +kernel
theorem dX2_init_65 : decode cX2_init 65 = .ok (.aload_n 0, 1) := by decide +kernel
theorem dX2_init_66 : decode cX2_init 66 = .ok (.iload 4, 2) := by decide +kernel
theorem dX2_init_68 : decode cX2_init 68 = .ok (.iload 5, 2) := by decide +kernel
theorem dX2_init_70 : decode cX2_init 70 = .ok (.invokestatic 32, 3) := by decide +kernel
theorem dX2_init_73 : decode cX2_init 73 = .ok (.putfield 36, 3) := by decide +kernel
theorem dX2_init_76 : decode cX2_init 76 = .ok (.aload_n 0, 1) := by decide +kernel
theorem dX2_init_77 : decode cX2_init 77 = .ok (.new 40, 3) := by decide +kernel
theorem dX2_init_80 : decode cX2_init 80 = .ok (.dup, 1) := by decide +kernel
theorem dX2_init_81 : decode cX2_init 81 = .ok (.iload 5, 2) := by decide +kernel
theorem dX2_init_83 : decode cX2_init 83 = .ok (.invokespecial 42, 3) := by decide +kernel
theorem dX2_init_86 : decode cX2_init 86 = .ok (.putfield 45, 3) := by decide +kernel
theorem dX2_init_89 : decode cX2_init 89 = .ok (.aload_n 0, 1) := by decide +kernel
theorem dX2_init_90 : decode cX2_init 90 = .ok (.new 40, 3) := by decide +kernel
theorem dX2_init_93 : decode cX2_init 93 = .ok (.dup, 1) := by decide +kernel
theorem dX2_init_94 : decode cX2_init 94 = .ok (.iload 5, 2) := by decide +kernel
theorem dX2_init_96 : decode cX2_init 96 = .ok (.invokespecial 42, 3) := by decide +kernel
theorem dX2_init_99 : decode cX2_init 99 = .ok (.putfield 49, 3) := by decide +kernel
theorem dX2_init_102 : decode cX2_init 102 = .ok (.aload_n 0, 1) := by decide +kernel
theorem dX2_init_103 : decode cX2_init 103 = .ok (.aload_n 0, 1) := by decide +kernel
theorem dX2_init_104 : decode cX2_init 104 = .ok (.getfield 17, 3) := by decide +kernel
theorem dX2_init_107 : decode cX2_init 107 = .ok (.bipush 10, 2) := by decide +kernel
theorem dX2_init_109 : decode cX2_init 109 = .ok (.imul, 1) := by decide +kernel
theorem dX2_init_110 : decode cX2_init 110 = .ok (.newarray .byte, 2) := by decide +kernel
theorem dX2_init_112 : decode cX2_init 112 = .ok (.putfield 52, 3) := by decide +kernel
theorem dX2_init_115 : decode cX2_init 115 = .ok (.return_, 1) := by decide +kernel
theorem dX2_within_0 : decode cX2_within 0 = .ok (.iconst 1, 1) := by decide +kernel
theorem dX2_within_1 : decode cX2_within 1 = .ok (.iload_n 0, 1) := by decide +kernel
theorem dX2_within_2 : decode cX2_within 2 = .ok (.iload_n 1, 1) := by decide +kernel
theorem dX2_within_3 : decode cX2_within 3 = .ok (.invokestatic 56, 3) := by decide +kernel
theorem dX2_within_6 : decode cX2_within 6 = .ok (.invokestatic 61, 3) := by decide +kernel
theorem dX2_within_9 : decode cX2_within 9 = .ok (.ireturn, 1) := by decide +kernel
theorem dX2_naturals_0 : decode cX2_naturals 0 = .ok (.iload_n 0, 1) := by decide +kernel
theorem dX2_naturals_1 : decode cX2_naturals 1 = .ok (.anewarray 40, 3) := by decide +kernel
theorem dX2_naturals_4 : decode cX2_naturals 4 = .ok (.astore_n 2, 1) := by decide +kernel
theorem dX2_naturals_5 : decode cX2_naturals 5 = .ok (.iconst 0, 1) := by decide +kernel
theorem dX2_naturals_6 : decode cX2_naturals 6 = .ok (.istore_n 3, 1) := by decide +kernel
theorem dX2_naturals_7 : decode cX2_naturals 7 = .ok (.iload_n 3, 1) := by decide +kernel
theorem dX2_naturals_8 : decode cX2_naturals 8 = .ok (.aload_n 2, 1) := by decide +kernel
theorem dX2_naturals_9 : decode cX2_naturals 9 = .ok (.arraylength, 1) := by decide +kernel
theorem dX2_naturals_10 : decode cX2_naturals 10 = .ok (.if_icmp .ge 20, 3) := by decide +kernel
theorem dX2_naturals_13 : decode cX2_naturals 13 = .ok (.aload_n 2, 1) := by decide +kernel
theorem dX2_naturals_14 : decode cX2_naturals 14 = .ok (.iload_n 3, 1) := by decide +kernel
theorem dX2_naturals_15 : decode cX2_naturals 15 = .ok (.new 40, 3) := by decide +kernel
theorem dX2_naturals_18 : decode cX2_naturals 18 = .ok (.dup, 1) := by decide +kernel
theorem dX2_naturals_19 : decode cX2_naturals 19 = .ok (.iload_n 1, 1) := by decide +kernel
theorem dX2_naturals_20 : decode cX2_naturals 20 = .ok (.invokespecial 42, 3) := by decide +kernel
theorem dX2_naturals_23 : decode cX2_naturals 23 = .ok (.aastore, 1) := by decide +kernel
theorem dX2_naturals_24 : decode cX2_naturals 24 = .ok (.iinc 3 1, 3) := by decide +kernel
theorem dX2_naturals_27 : decode cX2_naturals 27 = .ok (.goto (-20), 3) := by decide +kernel
theorem dX2_naturals_30 : decode cX2_naturals 30 = .ok (.aload_n 2, 1) := by decide +kernel
theorem dX2_naturals_31 : decode cX2_naturals 31 = .ok (.areturn, 1) := by decide +kernel
theorem dX2_format_0 : decode cX2_format 0 = .ok (.aload_n 0, 1) := by decide +kernel
theorem dX2_format_1 : decode cX2_format 1 = .ok (.invokevirtual 64, 3) := by decide +kernel
theorem dX2_format_4 : decode cX2_format 4 = .ok (.aload_n 0, 1) := by decide +kernel
theorem dX2_format_5 : decode cX2_format 5 = .ok (.aload_n 0, 1) := by decide +kernel
theorem dX2_format_6 : decode cX2_format 6 = .ok (.getfield 28, 3) := by decide +kernel
theorem dX2_format_9 : decode cX2_format 9 = .ok (.invokevirtual 67, 3) := by decide +kernel
theorem dX2_format_12 : decode cX2_format 12 = .ok (.putfield 71, 3) := by decide +kernel
theorem dX2_format_15 : decode cX2_format 15 = .ok (.aload_n 0, 1) := by decide +kernel
theorem dX2_format_16 : decode cX2_format 16 = .ok (.getfield 71, 3) := by decide +kernel
theorem dX2_format_19 : decode cX2_format 19 = .ok (.ireturn, 1) := by decide +kernel
theorem dX2_amountLimb_0 : decode cX2_amountLimb 0 = .ok (.aload_n 0, 1) := by decide +kernel
theorem dX2_amountLimb_1 : decode cX2_amountLimb 1 = .ok (.getfield 71, 3) := by decide +kernel
theorem dX2_amountLimb_4 : decode cX2_amountLimb 4 = .ok (.ifCond .eq 21, 3) := by decide +kernel
theorem dX2_amountLimb_7 : decode cX2_amountLimb 7 = .ok (.iload_n 1, 1) := by decide +kernel
theorem dX2_amountLimb_8 : decode cX2_amountLimb 8 = .ok (.ifCond .lt 17, 3) := by decide +kernel
theorem dX2_amountLimb_11 : decode cX2_amountLimb 11 = .ok (.aload_n 0, 1) := by decide +kernel
theorem dX2_amountLimb_12 : decode cX2_amountLimb 12 = .ok (.getfield 45, 3) := by decide +kernel
theorem dX2_amountLimb_15 : decode cX2_amountLimb 15 = .ok (.getfield 75, 3) := by decide +kernel
theorem dX2_amountLimb_18 : decode cX2_amountLimb 18 = .ok (.aload_n 0, 1) := by decide +kernel
theorem dX2_amountLimb_19 : decode cX2_amountLimb 19 = .ok (.getfield 17, 3) := by decide +kernel
theorem dX2_amountLimb_22 : decode cX2_amountLimb 22 = .ok (.if_icmp .lt 5, 3) := by decide +kernel
theorem dX2_amountLimb_25 : decode cX2_amountLimb 25 = .ok (.iconst 0, 1) := by decide +kernel
theorem dX2_amountLimb_26 : decode cX2_amountLimb 26 = .ok (.ireturn, 1) := by decide +kernel
theorem dX2_amountLimb_27 : decode cX2_amountLimb 27 = .ok (.aload_n 0, 1) := by decide +kernel
theorem dX2_amountLimb_28 : decode cX2_amountLimb 28 = .ok (.getfield 45, 3) := by decide +kernel
theorem dX2_amountLimb_31 : decode cX2_amountLimb 31 = .ok (.iload_n 1, 1) := by decide +kernel
theorem dX2_amountLimb_32 : decode cX2_amountLimb 32 = .ok (.invokevirtual 78, 3) := by decide +kernel
theorem dX2_amountLimb_35 : decode cX2_amountLimb 35 = .ok (.iconst 1, 1) := by decide +kernel
theorem dX2_amountLimb_36 : decode cX2_amountLimb 36 = .ok (.ireturn, 1) := by decide +kernel
theorem dX2_clearAmount_0 : decode cX2_clearAmount 0 = .ok (.aload_n 0, 1) := by decide +kernel
theorem dX2_clearAmount_1 : decode cX2_clearAmount 1 = .ok (.getfield 71, 3) := by decide +kernel
theorem dX2_clearAmount_4 : decode cX2_clearAmount 4 = .ok (.ifCond .ne 5, 3) := by decide +kernel
theorem dX2_clearAmount_7 : decode cX2_clearAmount 7 = .ok (.iconst 0, 1) := by decide +kernel
theorem dX2_clearAmount_8 : decode cX2_clearAmount 8 = .ok (.ireturn, 1) := by decide +kernel
theorem dX2_clearAmount_9 : decode cX2_clearAmount 9 = .ok (.aload_n 0, 1) := by decide +kernel
theorem dX2_clearAmount_10 : decode cX2_clearAmount 10 = .ok (.getfield 45, 3) := by decide +kernel
theorem dX2_clearAmount_13 : decode cX2_clearAmount 13 = .ok (.invokevirtual 81, 3) := by decide +kernel
theorem dX2_clearAmount_16 : decode cX2_clearAmount 16 = .ok (.iconst 1, 1) := by decide +kernel
theorem dX2_clearAmount_17 : decode cX2_clearAmount 17 = .ok (.ireturn, 1) := by decide +kernel
theorem dX2_deposit_0 : decode cX2_deposit 0 = .ok (.aload_n 0, 1) := by decide +kernel
theorem dX2_deposit_1 : decode cX2_deposit 1 = .ok (.getfield 71, 3) := by decide +kernel
theorem dX2_deposit_4 : decode cX2_deposit 4 = .ok (.ifCond .ne 6, 3) := by decide +kernel
theorem dX2_deposit_7 : decode cX2_deposit 7 = .ok (.bipush 6, 2) := by decide +kernel
theorem dX2_deposit_9 : decode cX2_deposit 9 = .ok (.ireturn, 1) := by decide +kernel
theorem dX2_deposit_10 : decode cX2_deposit 10 = .ok (.aload_n 0, 1) := by decide +kernel
theorem dX2_deposit_11 : decode cX2_deposit 11 = .ok (.iload_n 1, 1) := by decide +kernel
theorem dX2_deposit_12 : decode cX2_deposit 12 = .ok (.invokevirtual 84, 3) := by decide +kernel
theorem dX2_deposit_15 : decode cX2_deposit 15 = .ok (.ifCond .ne 5, 3) := by decide +kernel
theorem dX2_deposit_18 : decode cX2_deposit 18 = .ok (.iconst 1, 1) := by decide +kernel
theorem dX2_deposit_19 : decode cX2_deposit 19 = .ok (.ireturn, 1) := by decide +kernel
theorem dX2_deposit_20 : decode cX2_deposit 20 = .ok (.aload_n 0, 1) := by decide +kernel
theorem dX2_deposit_21 : decode cX2_deposit 21 = .ok (.iload_n 1, 1) := by decide +kernel
theorem dX2_deposit_22 : decode cX2_deposit 22 = .ok (.invokevirtual 88, 3) := by decide +kernel
theorem dX2_deposit_25 : decode cX2_deposit 25 = .ok (.ifCond .eq 5, 3) := by decide +kernel
theorem dX2_deposit_28 : decode cX2_deposit 28 = .ok (.iconst 3, 1) := by decide +kernel
theorem dX2_deposit_29 : decode cX2_deposit 29 = .ok (.ireturn, 1) := by decide +kernel
theorem dX2_deposit_30 : decode cX2_deposit 30 = .ok (.aload_n 0, 1) := by decide +kernel
theorem dX2_deposit_31 : decode cX2_deposit 31 = .ok (.iload_n 1, 1) := by decide +kernel
theorem dX2_deposit_32 : decode cX2_deposit 32 = .ok (.aload_n 0, 1) := by decide +kernel
theorem dX2_deposit_33 : decode cX2_deposit 33 = .ok (.invokevirtual 91, 3) := by decide +kernel
theorem dX2_deposit_36 : decode cX2_deposit 36 = .ok (.invokevirtual 95, 3) := by decide +kernel
theorem dX2_deposit_39 : decode cX2_deposit 39 = .ok (.ifCond .ne 5, 3) := by decide +kernel
theorem dX2_deposit_42 : decode cX2_deposit 42 = .ok (.iconst 4, 1) := by decide +kernel
theorem dX2_deposit_43 : decode cX2_deposit 43 = .ok (.ireturn, 1) := by decide +kernel
theorem dX2_deposit_44 : decode cX2_deposit 44 = .ok (.aload_n 0, 1) := by decide +kernel
theorem dX2_deposit_45 : decode cX2_deposit 45 = .ok (.iload_n 1, 1) := by decide +kernel
theorem dX2_deposit_46 : decode cX2_deposit 46 = .ok (.invokevirtual 99, 3) := by decide +kernel
theorem dX2_deposit_49 : decode cX2_deposit 49 = .ok (.aload_n 0, 1) := by decide +kernel
theorem dX2_deposit_50 : decode cX2_deposit 50 = .ok (.getfield 45, 3) := by decide +kernel
theorem dX2_deposit_53 : decode cX2_deposit 53 = .ok (.invokevirtual 103, 3) := by decide +kernel
theorem dX2_deposit_56 : decode cX2_deposit 56 = .ok (.aload_n 0, 1) := by decide +kernel
theorem dX2_deposit_57 : decode cX2_deposit 57 = .ok (.aload_n 0, 1) := by decide +kernel
theorem dX2_deposit_58 : decode cX2_deposit 58 = .ok (.invokevirtual 91, 3) := by decide +kernel
theorem dX2_deposit_61 : decode cX2_deposit 61 = .ok (.invokevirtual 99, 3) := by decide +kernel
theorem dX2_deposit_64 : decode cX2_deposit 64 = .ok (.aload_n 0, 1) := by decide +kernel
theorem dX2_deposit_65 : decode cX2_deposit 65 = .ok (.getfield 45, 3) := by decide +kernel
theorem dX2_deposit_68 : decode cX2_deposit 68 = .ok (.invokevirtual 103, 3) := by decide +kernel
theorem dX2_deposit_71 : decode cX2_deposit 71 = .ok (.iconst 0, 1) := by decide +kernel
theorem dX2_deposit_72 : decode cX2_deposit 72 = .ok (.ireturn, 1) := by decide +kernel
theorem dX2_withdraw_0 : decode cX2_withdraw 0 = .ok (.aload_n 0, 1) := by decide +kernel
theorem dX2_withdraw_1 : decode cX2_withdraw 1 = .ok (.getfield 71, 3) := by decide +kernel
theorem dX2_withdraw_4 : decode cX2_withdraw 4 = .ok (.ifCond .ne 6, 3) := by decide +kernel
theorem dX2_withdraw_7 : decode cX2_withdraw 7 = .ok (.bipush 6, 2) := by decide +kernel
theorem dX2_withdraw_9 : decode cX2_withdraw 9 = .ok (.ireturn, 1) := by decide +kernel
theorem dX2_withdraw_10 : decode cX2_withdraw 10 = .ok (.aload_n 0, 1) := by decide +kernel
theorem dX2_withdraw_11 : decode cX2_withdraw 11 = .ok (.iload_n 1, 1) := by decide +kernel
theorem dX2_withdraw_12 : decode cX2_withdraw 12 = .ok (.invokevirtual 84, 3) := by decide +kernel
theorem dX2_withdraw_15 : decode cX2_withdraw 15 = .ok (.ifCond .ne 5, 3) := by decide +kernel
theorem dX2_withdraw_18 : decode cX2_withdraw 18 = .ok (.iconst 1, 1) := by decide +kernel
theorem dX2_withdraw_19 : decode cX2_withdraw 19 = .ok (.ireturn, 1) := by decide +kernel
theorem dX2_withdraw_20 : decode cX2_withdraw 20 = .ok (.aload_n 0, 1) := by decide +kernel
theorem dX2_withdraw_21 : decode cX2_withdraw 21 = .ok (.iload_n 1, 1) := by decide +kernel
theorem dX2_withdraw_22 : decode cX2_withdraw 22 = .ok (.invokevirtual 107, 3) := by decide +kernel
theorem dX2_withdraw_25 : decode cX2_withdraw 25 = .ok (.ifCond .eq 5, 3) := by decide +kernel
theorem dX2_withdraw_28 : decode cX2_withdraw 28 = .ok (.iconst 2, 1) := by decide +kernel
theorem dX2_withdraw_29 : decode cX2_withdraw 29 = .ok (.ireturn, 1) := by decide +kernel
theorem dX2_withdraw_30 : decode cX2_withdraw 30 = .ok (.aload_n 0, 1) := by decide +kernel
theorem dX2_withdraw_31 : decode cX2_withdraw 31 = .ok (.iload_n 1, 1) := by decide +kernel
theorem dX2_withdraw_32 : decode cX2_withdraw 32 = .ok (.aload_n 0, 1) := by decide +kernel
theorem dX2_withdraw_33 : decode cX2_withdraw 33 = .ok (.invokevirtual 91, 3) := by decide +kernel
theorem dX2_withdraw_36 : decode cX2_withdraw 36 = .ok (.invokevirtual 95, 3) := by decide +kernel
theorem dX2_withdraw_39 : decode cX2_withdraw 39 = .ok (.ifCond .ne 5, 3) := by decide +kernel
theorem dX2_withdraw_42 : decode cX2_withdraw 42 = .ok (.iconst 4, 1) := by decide +kernel
theorem dX2_withdraw_43 : decode cX2_withdraw 43 = .ok (.ireturn, 1) := by decide +kernel
theorem dX2_withdraw_44 : decode cX2_withdraw 44 = .ok (.aload_n 0, 1) := by decide +kernel
theorem dX2_withdraw_45 : decode cX2_withdraw 45 = .ok (.iload_n 1, 1) := by decide +kernel
theorem dX2_withdraw_46 : decode cX2_withdraw 46 = .ok (.invokevirtual 99, 3) := by decide +kernel
theorem dX2_withdraw_49 : decode cX2_withdraw 49 = .ok (.aload_n 0, 1) := by decide +kernel
theorem dX2_withdraw_50 : decode cX2_withdraw 50 = .ok (.getfield 45, 3) := by decide +kernel
theorem dX2_withdraw_53 : decode cX2_withdraw 53 = .ok (.invokevirtual 110, 3) := by decide +kernel
theorem dX2_withdraw_56 : decode cX2_withdraw 56 = .ok (.aload_n 0, 1) := by decide +kernel
theorem dX2_withdraw_57 : decode cX2_withdraw 57 = .ok (.aload_n 0, 1) := by decide +kernel
theorem dX2_withdraw_58 : decode cX2_withdraw 58 = .ok (.invokevirtual 91, 3) := by decide +kernel
theorem dX2_withdraw_61 : decode cX2_withdraw 61 = .ok (.invokevirtual 99, 3) := by decide +kernel
theorem dX2_withdraw_64 : decode cX2_withdraw 64 = .ok (.aload_n 0, 1) := by decide +kernel
theorem dX2_withdraw_65 : decode cX2_withdraw 65 = .ok (.getfield 45, 3) := by decide +kernel
theorem dX2_withdraw_68 : decode cX2_withdraw 68 = .ok (.invokevirtual 110, 3) := by decide +kernel
theorem dX2_withdraw_71 : decode cX2_withdraw 71 = .ok (.iconst 0, 1) := by decide +kernel
theorem dX2_withdraw_72 : decode cX2_withdraw 72 = .ok (.ireturn, 1) := by decide +kernel
theorem dX2_transfer_0 : decode cX2_transfer 0 = .ok (.aload_n 0, 1) := by decide +kernel
theorem dX2_transfer_1 : decode cX2_transfer 1 = .ok (.getfield 71, 3) := by decide +kernel
theorem dX2_transfer_4 : decode cX2_transfer 4 = .ok (.ifCond .ne 6, 3) := by decide +kernel
theorem dX2_transfer_7 : decode cX2_transfer 7 = .ok (.bipush 6, 2) := by decide +kernel
theorem dX2_transfer_9 : decode cX2_transfer 9 = .ok (.ireturn, 1) := by decide +kernel
theorem dX2_transfer_10 : decode cX2_transfer 10 = .ok (.aload_n 0, 1) := by decide +kernel
theorem dX2_transfer_11 : decode cX2_transfer 11 = .ok (.iload_n 1, 1) := by decide +kernel
theorem dX2_transfer_12 : decode cX2_transfer 12 = .ok (.invokevirtual 84, 3) := by decide +kernel
theorem dX2_transfer_15 : decode cX2_transfer 15 = .ok (.ifCond .eq 11, 3) := by decide +kernel
theorem dX2_transfer_18 : decode cX2_transfer 18 = .ok (.aload_n 0, 1) := by decide +kernel
theorem dX2_transfer_19 : decode cX2_transfer 19 = .ok (.iload_n 2, 1) := by decide +kernel
theorem dX2_transfer_20 : decode cX2_transfer 20 = .ok (.invokevirtual 84, 3) := by decide +kernel
theorem dX2_transfer_23 : decode cX2_transfer 23 = .ok (.ifCond .ne 5, 3) := by decide +kernel
theorem dX2_transfer_26 : decode cX2_transfer 26 = .ok (.iconst 1, 1) := by decide +kernel
theorem dX2_transfer_27 : decode cX2_transfer 27 = .ok (.ireturn, 1) := by decide +kernel
theorem dX2_transfer_28 : decode cX2_transfer 28 = .ok (.aload_n 0, 1) := by decide +kernel
theorem dX2_transfer_29 : decode cX2_transfer 29 = .ok (.iload_n 1, 1) := by decide +kernel
theorem dX2_transfer_30 : decode cX2_transfer 30 = .ok (.invokevirtual 107, 3) := by decide +kernel
theorem dX2_transfer_33 : decode cX2_transfer 33 = .ok (.ifCond .eq 5, 3) := by decide +kernel
theorem dX2_transfer_36 : decode cX2_transfer 36 = .ok (.iconst 2, 1) := by decide +kernel
theorem dX2_transfer_37 : decode cX2_transfer 37 = .ok (.ireturn, 1) := by decide +kernel
theorem dX2_transfer_38 : decode cX2_transfer 38 = .ok (.iload_n 1, 1) := by decide +kernel
theorem dX2_transfer_39 : decode cX2_transfer 39 = .ok (.iload_n 2, 1) := by decide +kernel
theorem dX2_transfer_40 : decode cX2_transfer 40 = .ok (.if_icmp .eq 13, 3) := by decide +kernel
theorem dX2_transfer_43 : decode cX2_transfer 43 = .ok (.aload_n 0, 1) := by decide +kernel
theorem dX2_transfer_44 : decode cX2_transfer 44 = .ok (.iload_n 2, 1) := by decide +kernel
theorem dX2_transfer_45 : decode cX2_transfer 45 = .ok (.invokevirtual 88, 3) := by decide +kernel
theorem dX2_transfer_48 : decode cX2_transfer 48 = .ok (.ifCond .eq 5, 3) := by decide +kernel
theorem dX2_transfer_51 : decode cX2_transfer 51 = .ok (.iconst 3, 1) := by decide +kernel
theorem dX2_transfer_52 : decode cX2_transfer 52 = .ok (.ireturn, 1) := by decide +kernel
theorem dX2_transfer_53 : decode cX2_transfer 53 = .ok (.aload_n 0, 1) := by decide +kernel
theorem dX2_transfer_54 : decode cX2_transfer 54 = .ok (.iload_n 1, 1) := by decide +kernel
theorem dX2_transfer_55 : decode cX2_transfer 55 = .ok (.iload_n 2, 1) := by decide +kernel
theorem dX2_transfer_56 : decode cX2_transfer 56 = .ok (.invokevirtual 95, 3) := by decide +kernel
theorem dX2_transfer_59 : decode cX2_transfer 59 = .ok (.ifCond .ne 5, 3) := by decide +kernel
theorem dX2_transfer_62 : decode cX2_transfer 62 = .ok (.iconst 4, 1) := by decide +kernel
theorem dX2_transfer_63 : decode cX2_transfer 63 = .ok (.ireturn, 1) := by decide +kernel
theorem dX2_transfer_64 : decode cX2_transfer 64 = .ok (.aload_n 0, 1) := by decide +kernel
theorem dX2_transfer_65 : decode cX2_transfer 65 = .ok (.iload_n 1, 1) := by decide +kernel
theorem dX2_transfer_66 : decode cX2_transfer 66 = .ok (.invokevirtual 99, 3) := by decide +kernel
theorem dX2_transfer_69 : decode cX2_transfer 69 = .ok (.aload_n 0, 1) := by decide +kernel
theorem dX2_transfer_70 : decode cX2_transfer 70 = .ok (.getfield 45, 3) := by decide +kernel
theorem dX2_transfer_73 : decode cX2_transfer 73 = .ok (.invokevirtual 110, 3) := by decide +kernel
theorem dX2_transfer_76 : decode cX2_transfer 76 = .ok (.aload_n 0, 1) := by decide +kernel
theorem dX2_transfer_77 : decode cX2_transfer 77 = .ok (.iload_n 2, 1) := by decide +kernel
theorem dX2_transfer_78 : decode cX2_transfer 78 = .ok (.invokevirtual 99, 3) := by decide +kernel
theorem dX2_transfer_81 : decode cX2_transfer 81 = .ok (.aload_n 0, 1) := by decide +kernel
theorem dX2_transfer_82 : decode cX2_transfer 82 = .ok (.getfield 45, 3) := by decide +kernel
theorem dX2_transfer_85 : decode cX2_transfer 85 = .ok (.invokevirtual 103, 3) := by decide +kernel
theorem dX2_transfer_88 : decode cX2_transfer 88 = .ok (.iconst 0, 1) := by decide +kernel
theorem dX2_transfer_89 : decode cX2_transfer 89 = .ok (.ireturn, 1) := by decide +kernel
theorem dX2_part_0 : decode cX2_part 0 = .ok (.aload_n 0, 1) := by decide +kernel
theorem dX2_part_1 : decode cX2_part 1 = .ok (.getfield 71, 3) := by decide +kernel
theorem dX2_part_4 : decode cX2_part 4 = .ok (.ifCond .ne 6, 3) := by decide +kernel
theorem dX2_part_7 : decode cX2_part 7 = .ok (.bipush 6, 2) := by decide +kernel
theorem dX2_part_9 : decode cX2_part 9 = .ok (.ireturn, 1) := by decide +kernel
theorem dX2_part_10 : decode cX2_part 10 = .ok (.aload_n 0, 1) := by decide +kernel
theorem dX2_part_11 : decode cX2_part 11 = .ok (.iload_n 1, 1) := by decide +kernel
theorem dX2_part_12 : decode cX2_part 12 = .ok (.invokevirtual 84, 3) := by decide +kernel
theorem dX2_part_15 : decode cX2_part 15 = .ok (.ifCond .ne 5, 3) := by decide +kernel
theorem dX2_part_18 : decode cX2_part 18 = .ok (.iconst 1, 1) := by decide +kernel
theorem dX2_part_19 : decode cX2_part 19 = .ok (.ireturn, 1) := by decide +kernel
theorem dX2_part_20 : decode cX2_part 20 = .ok (.iload_n 2, 1) := by decide +kernel
theorem dX2_part_21 : decode cX2_part 21 = .ok (.ifCond .lt 13, 3) := by decide +kernel
theorem dX2_part_24 : decode cX2_part 24 = .ok (.iload_n 2, 1) := by decide +kernel
theorem dX2_part_25 : decode cX2_part 25 = .ok (.iload_n 3, 1) := by decide +kernel
theorem dX2_part_26 : decode cX2_part 26 = .ok (.if_icmp .gt 8, 3) := by decide +kernel
theorem dX2_part_29 : decode cX2_part 29 = .ok (.iload_n 3, 1) := by decide +kernel
theorem dX2_part_30 : decode cX2_part 30 = .ok (.iconst 1, 1) := by decide +kernel
theorem dX2_part_31 : decode cX2_part 31 = .ok (.if_icmp .ge 5, 3) := by decide +kernel
theorem dX2_part_34 : decode cX2_part 34 = .ok (.iconst 5, 1) := by decide +kernel
theorem dX2_part_35 : decode cX2_part 35 = .ok (.ireturn, 1) := by decide +kernel
theorem dX2_part_36 : decode cX2_part 36 = .ok (.aload_n 0, 1) := by decide +kernel
theorem dX2_part_37 : decode cX2_part 37 = .ok (.getfield 45, 3) := by decide +kernel
theorem dX2_part_40 : decode cX2_part 40 = .ok (.aload_n 0, 1) := by decide +kernel
theorem dX2_part_41 : decode cX2_part 41 = .ok (.iload_n 1, 1) := by decide +kernel
theorem dX2_part_42 : decode cX2_part 42 = .ok (.invokevirtual 113, 3) := by decide +kernel
theorem dX2_part_45 : decode cX2_part 45 = .ok (.invokevirtual 116, 3) := by decide +kernel
theorem dX2_part_48 : decode cX2_part 48 = .ok (.aload_n 0, 1) := by decide +kernel
theorem dX2_part_49 : decode cX2_part 49 = .ok (.getfield 45, 3) := by decide +kernel
theorem dX2_part_52 : decode cX2_part 52 = .ok (.iload_n 2, 1) := by decide +kernel
theorem dX2_part_53 : decode cX2_part 53 = .ok (.invokevirtual 119, 3) := by decide +kernel
theorem dX2_part_56 : decode cX2_part 56 = .ok (.aload_n 0, 1) := by decide +kernel
theorem dX2_part_57 : decode cX2_part 57 = .ok (.getfield 45, 3) := by decide +kernel
theorem dX2_part_60 : decode cX2_part 60 = .ok (.iload_n 3, 1) := by decide +kernel
theorem dX2_part_61 : decode cX2_part 61 = .ok (.invokevirtual 122, 3) := by decide +kernel
theorem dX2_part_64 : decode cX2_part 64 = .ok (.pop, 1) := by decide +kernel
theorem dX2_part_65 : decode cX2_part 65 = .ok (.iconst 0, 1) := by decide +kernel
theorem dX2_part_66 : decode cX2_part 66 = .ok (.ireturn, 1) := by decide +kernel
theorem dX2_commit_0 : decode cX2_commit 0 = .ok (.aload_n 0, 1) := by decide +kernel
theorem dX2_commit_1 : decode cX2_commit 1 = .ok (.getfield 71, 3) := by decide +kernel
theorem dX2_commit_4 : decode cX2_commit 4 = .ok (.ifCond .ne 6, 3) := by decide +kernel
theorem dX2_commit_7 : decode cX2_commit 7 = .ok (.bipush 6, 2) := by decide +kernel
theorem dX2_commit_9 : decode cX2_commit 9 = .ok (.ireturn, 1) := by decide +kernel
theorem dX2_commit_10 : decode cX2_commit 10 = .ok (.aload_n 0, 1) := by decide +kernel
theorem dX2_commit_11 : decode cX2_commit 11 = .ok (.getfield 28, 3) := by decide +kernel
theorem dX2_commit_14 : decode cX2_commit 14 = .ok (.aload_n 0, 1) := by decide +kernel
theorem dX2_commit_15 : decode cX2_commit 15 = .ok (.getfield 126, 3) := by decide +kernel
theorem dX2_commit_18 : decode cX2_commit 18 = .ok (.aload_n 0, 1) := by decide +kernel
theorem dX2_commit_19 : decode cX2_commit 19 = .ok (.getfield 36, 3) := by decide +kernel
theorem dX2_commit_22 : decode cX2_commit 22 = .ok (.invokevirtual 129, 3) := by decide +kernel
theorem dX2_commit_25 : decode cX2_commit 25 = .ok (.ifCond .ne 15, 3) := by decide +kernel
theorem dX2_commit_28 : decode cX2_commit 28 = .ok (.aload_n 0, 1) := by decide +kernel
theorem dX2_commit_29 : decode cX2_commit 29 = .ok (.iconst 0, 1) := by decide +kernel
theorem dX2_commit_30 : decode cX2_commit 30 = .ok (.putfield 71, 3) := by decide +kernel
theorem dX2_commit_33 : decode cX2_commit 33 = .ok (.aload_n 0, 1) := by decide +kernel
theorem dX2_commit_34 : decode cX2_commit 34 = .ok (.invokevirtual 64, 3) := by decide +kernel
theorem dX2_commit_37 : decode cX2_commit 37 = .ok (.bipush 6, 2) := by decide +kernel
theorem dX2_commit_39 : decode cX2_commit 39 = .ok (.ireturn, 1) := by decide +kernel
theorem dX2_commit_40 : decode cX2_commit 40 = .ok (.aload_n 0, 1) := by decide +kernel
theorem dX2_commit_41 : decode cX2_commit 41 = .ok (.invokevirtual 133, 3) := by decide +kernel
theorem dX2_commit_44 : decode cX2_commit 44 = .ok (.iconst 0, 1) := by decide +kernel
theorem dX2_commit_45 : decode cX2_commit 45 = .ok (.ireturn, 1) := by decide +kernel
theorem dX2_abort_0 : decode cX2_abort 0 = .ok (.aload_n 0, 1) := by decide +kernel
theorem dX2_abort_1 : decode cX2_abort 1 = .ok (.getfield 71, 3) := by decide +kernel
theorem dX2_abort_4 : decode cX2_abort 4 = .ok (.ifCond .ne 5, 3) := by decide +kernel
theorem dX2_abort_7 : decode cX2_abort 7 = .ok (.iconst 0, 1) := by decide +kernel
theorem dX2_abort_8 : decode cX2_abort 8 = .ok (.ireturn, 1) := by decide +kernel
theorem dX2_abort_9 : decode cX2_abort 9 = .ok (.aload_n 0, 1) := by decide +kernel
theorem dX2_abort_10 : decode cX2_abort 10 = .ok (.invokevirtual 133, 3) := by decide +kernel
theorem dX2_abort_13 : decode cX2_abort 13 = .ok (.iconst 1, 1) := by decide +kernel
theorem dX2_abort_14 : decode cX2_abort 14 = .ok (.ireturn, 1) := by decide +kernel
theorem dX2_balanceSize_0 : decode cX2_balanceSize 0 = .ok (.aload_n 0, 1) := by decide +kernel
theorem dX2_balanceSize_1 : decode cX2_balanceSize 1 = .ok (.getfield 71, 3) := by decide +kernel
theorem dX2_balanceSize_4 : decode cX2_balanceSize 4 = .ok (.ifCond .eq 11, 3) := by decide +kernel
theorem dX2_balanceSize_7 : decode cX2_balanceSize 7 = .ok (.aload_n 0, 1) := by decide +kernel
theorem dX2_balanceSize_8 : decode cX2_balanceSize 8 = .ok (.iload_n 1, 1) := by decide +kernel
theorem dX2_balanceSize_9 : decode cX2_balanceSize 9 = .ok (.invokevirtual 84, 3) := by decide +kernel
theorem dX2_balanceSize_12 : decode cX2_balanceSize 12 = .ok (.ifCond .ne 5, 3) := by decide +kernel
theorem dX2_balanceSize_15 : decode cX2_balanceSize 15 = .ok (.iconst (-1), 1) := by decide +kernel
theorem dX2_balanceSize_16 : decode cX2_balanceSize 16 = .ok (.ireturn, 1) := by decide +kernel
theorem dX2_balanceSize_17 : decode cX2_balanceSize 17 = .ok (.aload_n 0, 1) := by decide +kernel
theorem dX2_balanceSize_18 : decode cX2_balanceSize 18 = .ok (.iload_n 1, 1) := by decide +kernel
theorem dX2_balanceSize_19 : decode cX2_balanceSize 19 = .ok (.invokevirtual 113, 3) := by decide +kernel
theorem dX2_balanceSize_22 : decode cX2_balanceSize 22 = .ok (.getfield 75, 3) := by decide +kernel
theorem dX2_balanceSize_25 : decode cX2_balanceSize 25 = .ok (.ireturn, 1) := by decide +kernel
theorem dX2_balanceLimb_0 : decode cX2_balanceLimb 0 = .ok (.aload_n 0, 1) := by decide +kernel
theorem dX2_balanceLimb_1 : decode cX2_balanceLimb 1 = .ok (.getfield 71, 3) := by decide +kernel
theorem dX2_balanceLimb_4 : decode cX2_balanceLimb 4 = .ok (.ifCond .eq 15, 3) := by decide +kernel
theorem dX2_balanceLimb_7 : decode cX2_balanceLimb 7 = .ok (.aload_n 0, 1) := by decide +kernel
theorem dX2_balanceLimb_8 : decode cX2_balanceLimb 8 = .ok (.iload_n 1, 1) := by decide +kernel
theorem dX2_balanceLimb_9 : decode cX2_balanceLimb 9 = .ok (.invokevirtual 84, 3) := by decide +kernel
theorem dX2_balanceLimb_12 : decode cX2_balanceLimb 12 = .ok (.ifCond .eq 7, 3) := by decide +kernel
theorem dX2_balanceLimb_15 : decode cX2_balanceLimb 15 = .ok (.iload_n 2, 1) := by decide +kernel
theorem dX2_balanceLimb_16 : decode cX2_balanceLimb 16 = .ok (.ifCond .ge 5, 3) := by decide +kernel
theorem dX2_balanceLimb_19 : decode cX2_balanceLimb 19 = .ok (.iconst (-1), 1) := by decide +kernel
theorem dX2_balanceLimb_20 : decode cX2_balanceLimb 20 = .ok (.ireturn, 1) := by decide +kernel
theorem dX2_balanceLimb_21 : decode cX2_balanceLimb 21 = .ok (.aload_n 0, 1) := by decide +kernel
theorem dX2_balanceLimb_22 : decode cX2_balanceLimb 22 = .ok (.iload_n 1, 1) := by decide +kernel
theorem dX2_balanceLimb_23 : decode cX2_balanceLimb 23 = .ok (.invokevirtual 113, 3) := by decide +kernel
theorem dX2_balanceLimb_26 : decode cX2_balanceLimb 26 = .ok (.iload_n 2, 1) := by decide +kernel
theorem dX2_balanceLimb_27 : decode cX2_balanceLimb 27 = .ok (.invokevirtual 136, 3) := by decide +kernel
theorem dX2_balanceLimb_30 : decode cX2_balanceLimb 30 = .ok (.ireturn, 1) := by decide +kernel
theorem dX2_totalLimb_0 : decode cX2_totalLimb 0 = .ok (.aload_n 0, 1) := by decide +kernel
theorem dX2_totalLimb_1 : decode cX2_totalLimb 1 = .ok (.getfield 71, 3) := by decide +kernel
theorem dX2_totalLimb_4 : decode cX2_totalLimb 4 = .ok (.ifCond .eq 7, 3) := by decide +kernel
theorem dX2_totalLimb_7 : decode cX2_totalLimb 7 = .ok (.iload_n 1, 1) := by decide +kernel
theorem dX2_totalLimb_8 : decode cX2_totalLimb 8 = .ok (.ifCond .ge 5, 3) := by decide +kernel
theorem dX2_totalLimb_11 : decode cX2_totalLimb 11 = .ok (.iconst (-1), 1) := by decide +kernel
theorem dX2_totalLimb_12 : decode cX2_totalLimb 12 = .ok (.ireturn, 1) := by decide +kernel
theorem dX2_totalLimb_13 : decode cX2_totalLimb 13 = .ok (.aload_n 0, 1) := by decide +kernel
theorem dX2_totalLimb_14 : decode cX2_totalLimb 14 = .ok (.aload_n 0, 1) := by decide +kernel
theorem dX2_totalLimb_15 : decode cX2_totalLimb 15 = .ok (.invokevirtual 91, 3) := by decide +kernel
theorem dX2_totalLimb_18 : decode cX2_totalLimb 18 = .ok (.invokevirtual 113, 3) := by decide +kernel
theorem dX2_totalLimb_21 : decode cX2_totalLimb 21 = .ok (.iload_n 1, 1) := by decide +kernel
theorem dX2_totalLimb_22 : decode cX2_totalLimb 22 = .ok (.invokevirtual 136, 3) := by decide +kernel
theorem dX2_totalLimb_25 : decode cX2_totalLimb 25 = .ok (.ireturn, 1) := by decide +kernel
theorem dX2_amount_0 : decode cX2_amount 0 = .ok (.aload_n 0, 1) := by decide +kernel
theorem dX2_amount_1 : decode cX2_amount 1 = .ok (.getfield 71, 3) := by decide +kernel
theorem dX2_amount_4 : decode cX2_amount 4 = .ok (.ifCond .eq 7, 3) := by decide +kernel
theorem dX2_amount_7 : decode cX2_amount 7 = .ok (.iload_n 1, 1) := by decide +kernel
theorem dX2_amount_8 : decode cX2_amount 8 = .ok (.ifCond .ge 5, 3) := by decide +kernel
theorem dX2_amount_11 : decode cX2_amount 11 = .ok (.iconst (-1), 1) := by decide +kernel
theorem dX2_amount_12 : decode cX2_amount 12 = .ok (.ireturn, 1) := by decide +kernel
theorem dX2_amount_13 : decode cX2_amount 13 = .ok (.aload_n 0, 1) := by decide +kernel
theorem dX2_amount_14 : decode cX2_amount 14 = .ok (.getfield 45, 3) := by decide +kernel
theorem dX2_amount_17 : decode cX2_amount 17 = .ok (.iload_n 1, 1) := by decide +kernel
theorem dX2_amount_18 : decode cX2_amount 18 = .ok (.invokevirtual 136, 3) := by decide +kernel
theorem dX2_amount_21 : decode cX2_amount 21 = .ok (.ireturn, 1) := by decide +kernel
theorem dX2_compare_0 : decode cX2_compare 0 = .ok (.aload_n 0, 1) := by decide +kernel
theorem dX2_compare_1 : decode cX2_compare 1 = .ok (.getfield 71, 3) := by decide +kernel
theorem dX2_compare_4 : decode cX2_compare 4 = .ok (.ifCond .eq 19, 3) := by decide +kernel
theorem dX2_compare_7 : decode cX2_compare 7 = .ok (.aload_n 0, 1) := by decide +kernel
theorem dX2_compare_8 : decode cX2_compare 8 = .ok (.iload_n 1, 1) := by decide +kernel
theorem dX2_compare_9 : decode cX2_compare 9 = .ok (.invokevirtual 84, 3) := by decide +kernel
theorem dX2_compare_12 : decode cX2_compare 12 = .ok (.ifCond .eq 11, 3) := by decide +kernel
theorem dX2_compare_15 : decode cX2_compare 15 = .ok (.aload_n 0, 1) := by decide +kernel
theorem dX2_compare_16 : decode cX2_compare 16 = .ok (.iload_n 2, 1) := by decide +kernel
theorem dX2_compare_17 : decode cX2_compare 17 = .ok (.invokevirtual 84, 3) := by decide +kernel
theorem dX2_compare_20 : decode cX2_compare 20 = .ok (.ifCond .ne 6, 3) := by decide +kernel
theorem dX2_compare_23 : decode cX2_compare 23 = .ok (.bipush (-2), 2) := by decide +kernel
theorem dX2_compare_25 : decode cX2_compare 25 = .ok (.ireturn, 1) := by decide +kernel
theorem dX2_compare_26 : decode cX2_compare 26 = .ok (.aload_n 0, 1) := by decide +kernel
theorem dX2_compare_27 : decode cX2_compare 27 = .ok (.iload_n 1, 1) := by decide +kernel
theorem dX2_compare_28 : decode cX2_compare 28 = .ok (.invokevirtual 113, 3) := by decide +kernel
theorem dX2_compare_31 : decode cX2_compare 31 = .ok (.aload_n 0, 1) := by decide +kernel
theorem dX2_compare_32 : decode cX2_compare 32 = .ok (.iload_n 2, 1) := by decide +kernel
theorem dX2_compare_33 : decode cX2_compare 33 = .ok (.invokevirtual 113, 3) := by decide +kernel
theorem dX2_compare_36 : decode cX2_compare 36 = .ok (.invokevirtual 139, 3) := by decide +kernel
theorem dX2_compare_39 : decode cX2_compare 39 = .ok (.ireturn, 1) := by decide +kernel
theorem dX2_stopAfter_0 : decode cX2_stopAfter 0 = .ok (.aload_n 0, 1) := by decide +kernel
theorem dX2_stopAfter_1 : decode cX2_stopAfter 1 = .ok (.getfield 28, 3) := by decide +kernel
theorem dX2_stopAfter_4 : decode cX2_stopAfter 4 = .ok (.iload_n 1, 1) := by decide +kernel
theorem dX2_stopAfter_5 : decode cX2_stopAfter 5 = .ok (.ifCond .ge 7, 3) := by decide +kernel
theorem dX2_stopAfter_8 : decode cX2_stopAfter 8 = .ok (.iconst (-1), 1) := by decide +kernel
theorem dX2_stopAfter_9 : decode cX2_stopAfter 9 = .ok (.goto 4, 3) := by decide +kernel
theorem dX2_stopAfter_12 : decode cX2_stopAfter 12 = .ok (.iload_n 1, 1) := by decide +kernel
theorem dX2_stopAfter_13 : decode cX2_stopAfter 13 = .ok (.putfield 143, 3) := by decide +kernel
theorem dX2_stopAfter_16 : decode cX2_stopAfter 16 = .ok (.return_, 1) := by decide +kernel
theorem dX2_recover_0 : decode cX2_recover 0 = .ok (.aload_n 0, 1) := by decide +kernel
theorem dX2_recover_1 : decode cX2_recover 1 = .ok (.invokevirtual 64, 3) := by decide +kernel
theorem dX2_recover_4 : decode cX2_recover 4 = .ok (.aload_n 0, 1) := by decide +kernel
theorem dX2_recover_5 : decode cX2_recover 5 = .ok (.aload_n 0, 1) := by decide +kernel
theorem dX2_recover_6 : decode cX2_recover 6 = .ok (.getfield 28, 3) := by decide +kernel
theorem dX2_recover_9 : decode cX2_recover 9 = .ok (.getfield 146, 3) := by decide +kernel
theorem dX2_recover_12 : decode cX2_recover 12 = .ok (.ifCond .eq 17, 3) := by decide +kernel
theorem dX2_recover_15 : decode cX2_recover 15 = .ok (.aload_n 0, 1) := by decide +kernel
theorem dX2_recover_16 : decode cX2_recover 16 = .ok (.getfield 28, 3) := by decide +kernel
theorem dX2_recover_19 : decode cX2_recover 19 = .ok (.invokevirtual 149, 3) := by decide +kernel
theorem dX2_recover_22 : decode cX2_recover 22 = .ok (.ifCond .eq 7, 3) := by decide +kernel
theorem dX2_recover_25 : decode cX2_recover 25 = .ok (.iconst 1, 1) := by decide +kernel
theorem dX2_recover_26 : decode cX2_recover 26 = .ok (.goto 4, 3) := by decide +kernel
theorem dX2_recover_29 : decode cX2_recover 29 = .ok (.iconst 0, 1) := by decide +kernel
theorem dX2_recover_30 : decode cX2_recover 30 = .ok (.putfield 71, 3) := by decide +kernel
theorem dX2_recover_33 : decode cX2_recover 33 = .ok (.aload_n 0, 1) := by decide +kernel
theorem dX2_recover_34 : decode cX2_recover 34 = .ok (.getfield 71, 3) := by decide +kernel
theorem dX2_recover_37 : decode cX2_recover 37 = .ok (.ireturn, 1) := by decide +kernel
theorem dX2_write_0 : decode cX2_write 0 = .ok (.aload_n 0, 1) := by decide +kernel
theorem dX2_write_1 : decode cX2_write 1 = .ok (.getfield 71, 3) := by decide +kernel
theorem dX2_write_4 : decode cX2_write 4 = .ok (.ifCond .eq 11, 3) := by decide +kernel
theorem dX2_write_7 : decode cX2_write 7 = .ok (.aload_n 0, 1) := by decide +kernel
theorem dX2_write_8 : decode cX2_write 8 = .ok (.iload_n 1, 1) := by decide +kernel
theorem dX2_write_9 : decode cX2_write 9 = .ok (.invokevirtual 84, 3) := by decide +kernel
theorem dX2_write_12 : decode cX2_write 12 = .ok (.ifCond .ne 5, 3) := by decide +kernel
theorem dX2_write_15 : decode cX2_write 15 = .ok (.iconst (-1), 1) := by decide +kernel
theorem dX2_write_16 : decode cX2_write 16 = .ok (.ireturn, 1) := by decide +kernel
theorem dX2_write_17 : decode cX2_write 17 = .ok (.aload_n 0, 1) := by decide +kernel
theorem dX2_write_18 : decode cX2_write 18 = .ok (.getfield 49, 3) := by decide +kernel
theorem dX2_write_21 : decode cX2_write 21 = .ok (.aload_n 0, 1) := by decide +kernel
theorem dX2_write_22 : decode cX2_write 22 = .ok (.iload_n 1, 1) := by decide +kernel
theorem dX2_write_23 : decode cX2_write 23 = .ok (.invokevirtual 113, 3) := by decide +kernel
theorem dX2_write_26 : decode cX2_write 26 = .ok (.invokevirtual 116, 3) := by decide +kernel
theorem dX2_write_29 : decode cX2_write 29 = .ok (.iconst 0, 1) := by decide +kernel
theorem dX2_write_30 : decode cX2_write 30 = .ok (.istore_n 2, 1) := by decide +kernel
theorem dX2_write_31 : decode cX2_write 31 = .ok (.iload_n 2, 1) := by decide +kernel
theorem dX2_write_32 : decode cX2_write 32 = .ok (.aload_n 0, 1) := by decide +kernel
theorem dX2_write_33 : decode cX2_write 33 = .ok (.getfield 52, 3) := by decide +kernel
theorem dX2_write_36 : decode cX2_write 36 = .ok (.arraylength, 1) := by decide +kernel
theorem dX2_write_37 : decode cX2_write 37 = .ok (.if_icmp .ge 42, 3) := by decide +kernel
theorem dX2_write_40 : decode cX2_write 40 = .ok (.iload_n 2, 1) := by decide +kernel
theorem dX2_write_41 : decode cX2_write 41 = .ok (.ifCond .eq 13, 3) := by decide +kernel
theorem dX2_write_44 : decode cX2_write 44 = .ok (.aload_n 0, 1) := by decide +kernel
theorem dX2_write_45 : decode cX2_write 45 = .ok (.getfield 49, 3) := by decide +kernel
theorem dX2_write_48 : decode cX2_write 48 = .ok (.getfield 75, 3) := by decide +kernel
theorem dX2_write_51 : decode cX2_write 51 = .ok (.ifCond .le 28, 3) := by decide +kernel
theorem dX2_write_54 : decode cX2_write 54 = .ok (.aload_n 0, 1) := by decide +kernel
theorem dX2_write_55 : decode cX2_write 55 = .ok (.getfield 52, 3) := by decide +kernel
theorem dX2_write_58 : decode cX2_write 58 = .ok (.iload_n 2, 1) := by decide +kernel
theorem dX2_write_59 : decode cX2_write 59 = .ok (.bipush 48, 2) := by decide +kernel
theorem dX2_write_61 : decode cX2_write 61 = .ok (.aload_n 0, 1) := by decide +kernel
theorem dX2_write_62 : decode cX2_write 62 = .ok (.getfield 49, 3) := by decide +kernel
theorem dX2_write_65 : decode cX2_write 65 = .ok (.bipush 10, 2) := by decide +kernel
theorem dX2_write_67 : decode cX2_write 67 = .ok (.invokevirtual 122, 3) := by decide +kernel
theorem dX2_write_70 : decode cX2_write 70 = .ok (.iadd, 1) := by decide +kernel
theorem dX2_write_71 : decode cX2_write 71 = .ok (.i2b, 1) := by decide +kernel
theorem dX2_write_72 : decode cX2_write 72 = .ok (.bastore, 1) := by decide +kernel
theorem dX2_write_73 : decode cX2_write 73 = .ok (.iinc 2 1, 3) := by decide +kernel
theorem dX2_write_76 : decode cX2_write 76 = .ok (.goto (-45), 3) := by decide +kernel
theorem dX2_write_79 : decode cX2_write 79 = .ok (.aload_n 0, 1) := by decide +kernel
theorem dX2_write_80 : decode cX2_write 80 = .ok (.iload_n 2, 1) := by decide +kernel
theorem dX2_write_81 : decode cX2_write 81 = .ok (.putfield 152, 3) := by decide +kernel
theorem dX2_write_84 : decode cX2_write 84 = .ok (.aload_n 0, 1) := by decide +kernel
theorem dX2_write_85 : decode cX2_write 85 = .ok (.getfield 152, 3) := by decide +kernel
theorem dX2_write_88 : decode cX2_write 88 = .ok (.ireturn, 1) := by decide +kernel
theorem dX2_octet_0 : decode cX2_octet 0 = .ok (.iload_n 1, 1) := by decide +kernel
theorem dX2_octet_1 : decode cX2_octet 1 = .ok (.ifCond .lt 11, 3) := by decide +kernel
theorem dX2_octet_4 : decode cX2_octet 4 = .ok (.iload_n 1, 1) := by decide +kernel
theorem dX2_octet_5 : decode cX2_octet 5 = .ok (.aload_n 0, 1) := by decide +kernel
theorem dX2_octet_6 : decode cX2_octet 6 = .ok (.getfield 152, 3) := by decide +kernel
theorem dX2_octet_9 : decode cX2_octet 9 = .ok (.if_icmp .lt 13, 3) := by decide +kernel
theorem dX2_octet_12 : decode cX2_octet 12 = .ok (.new 155, 3) := by decide +kernel
theorem dX2_octet_15 : decode cX2_octet 15 = .ok (.dup, 1) := by decide +kernel
theorem dX2_octet_16 : decode cX2_octet 16 = .ok (.ldc 157, 2) := by decide +kernel
theorem dX2_octet_18 : decode cX2_octet 18 = .ok (.invokespecial 159, 3) := by decide +kernel
theorem dX2_octet_21 : decode cX2_octet 21 = .ok (.athrow, 1) := by decide +kernel
theorem dX2_octet_22 : decode cX2_octet 22 = .ok (.aload_n 0, 1) := by decide +kernel
theorem dX2_octet_23 : decode cX2_octet 23 = .ok (.getfield 52, 3) := by decide +kernel
theorem dX2_octet_26 : decode cX2_octet 26 = .ok (.aload_n 0, 1) := by decide +kernel
theorem dX2_octet_27 : decode cX2_octet 27 = .ok (.getfield 152, 3) := by decide +kernel
theorem dX2_octet_30 : decode cX2_octet 30 = .ok (.iconst 1, 1) := by decide +kernel
theorem dX2_octet_31 : decode cX2_octet 31 = .ok (.isub, 1) := by decide +kernel
theorem dX2_octet_32 : decode cX2_octet 32 = .ok (.iload_n 1, 1) := by decide +kernel
theorem dX2_octet_33 : decode cX2_octet 33 = .ok (.isub, 1) := by decide +kernel
theorem dX2_octet_34 : decode cX2_octet 34 = .ok (.baload, 1) := by decide +kernel
theorem dX2_octet_35 : decode cX2_octet 35 = .ok (.ireturn, 1) := by decide +kernel
theorem dX2_count_0 : decode cX2_count 0 = .ok (.iload_n 1, 1) := by decide +kernel
theorem dX2_count_1 : decode cX2_count 1 = .ok (.tableswitch 134 0 8 #[51, 56, 61, 66, 74, 87, 95, 103, 126], 51) := by decide +kernel
theorem dX2_count_52 : decode cX2_count 52 = .ok (.aload_n 0, 1) := by decide +kernel
theorem dX2_count_53 : decode cX2_count 53 = .ok (.getfield 13, 3) := by decide +kernel
theorem dX2_count_56 : decode cX2_count 56 = .ok (.ireturn, 1) := by decide +kernel
theorem dX2_count_57 : decode cX2_count 57 = .ok (.aload_n 0, 1) := by decide +kernel
theorem dX2_count_58 : decode cX2_count 58 = .ok (.getfield 17, 3) := by decide +kernel
theorem dX2_count_61 : decode cX2_count 61 = .ok (.ireturn, 1) := by decide +kernel
theorem dX2_count_62 : decode cX2_count 62 = .ok (.aload_n 0, 1) := by decide +kernel
theorem dX2_count_63 : decode cX2_count 63 = .ok (.getfield 20, 3) := by decide +kernel
theorem dX2_count_66 : decode cX2_count 66 = .ok (.ireturn, 1) := by decide +kernel
theorem dX2_count_67 : decode cX2_count 67 = .ok (.aload_n 0, 1) := by decide +kernel
theorem dX2_count_68 : decode cX2_count 68 = .ok (.getfield 28, 3) := by decide +kernel
theorem dX2_count_71 : decode cX2_count 71 = .ok (.getfield 162, 3) := by decide +kernel
theorem dX2_count_74 : decode cX2_count 74 = .ok (.ireturn, 1) := by decide +kernel
theorem dX2_count_75 : decode cX2_count 75 = .ok (.aload_n 0, 1) := by decide +kernel
theorem dX2_count_76 : decode cX2_count 76 = .ok (.getfield 71, 3) := by decide +kernel
theorem dX2_count_79 : decode cX2_count 79 = .ok (.ifCond .eq 7, 3) := by decide +kernel
theorem dX2_count_82 : decode cX2_count 82 = .ok (.iconst 1, 1) := by decide +kernel
theorem dX2_count_83 : decode cX2_count 83 = .ok (.goto 4, 3) := by decide +kernel
theorem dX2_count_86 : decode cX2_count 86 = .ok (.iconst 0, 1) := by decide +kernel
theorem dX2_count_87 : decode cX2_count 87 = .ok (.ireturn, 1) := by decide +kernel
theorem dX2_count_88 : decode cX2_count 88 = .ok (.aload_n 0, 1) := by decide +kernel
theorem dX2_count_89 : decode cX2_count 89 = .ok (.getfield 126, 3) := by decide +kernel
theorem dX2_count_92 : decode cX2_count 92 = .ok (.invokestatic 165, 3) := by decide +kernel
theorem dX2_count_95 : decode cX2_count 95 = .ok (.ireturn, 1) := by decide +kernel
theorem dX2_count_96 : decode cX2_count 96 = .ok (.aload_n 0, 1) := by decide +kernel
