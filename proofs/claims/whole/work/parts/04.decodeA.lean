theorem dX0_init_0 : decode cX0_init 0 = .ok (.aload_n 0, 1) := by decide +kernel
theorem dX0_init_1 : decode cX0_init 1 = .ok (.invokespecial 1, 3) := by decide +kernel
theorem dX0_init_4 : decode cX0_init 4 = .ok (.aload_n 0, 1) := by decide +kernel
theorem dX0_init_5 : decode cX0_init 5 = .ok (.iload_n 1, 1) := by decide +kernel
theorem dX0_init_6 : decode cX0_init 6 = .ok (.putfield 7, 3) := by decide +kernel
theorem dX0_init_9 : decode cX0_init 9 = .ok (.aload_n 0, 1) := by decide +kernel
theorem dX0_init_10 : decode cX0_init 10 = .ok (.iload_n 2, 1) := by decide +kernel
theorem dX0_init_11 : decode cX0_init 11 = .ok (.putfield 13, 3) := by decide +kernel
theorem dX0_init_14 : decode cX0_init 14 = .ok (.return_, 1) := by decide +kernel
theorem dX0_hasSkill_0 : decode cX0_hasSkill 0 = .ok (.aload_n 0, 1) := by decide +kernel
theorem dX0_hasSkill_1 : decode cX0_hasSkill 1 = .ok (.getfield 13, 3) := by decide +kernel
theorem dX0_hasSkill_4 : decode cX0_hasSkill 4 = .ok (.iload_n 1, 1) := by decide +kernel
theorem dX0_hasSkill_5 : decode cX0_hasSkill 5 = .ok (.ishr, 1) := by decide +kernel
theorem dX0_hasSkill_6 : decode cX0_hasSkill 6 = .ok (.iconst 1, 1) := by decide +kernel
theorem dX0_hasSkill_7 : decode cX0_hasSkill 7 = .ok (.iand, 1) := by decide +kernel
theorem dX0_hasSkill_8 : decode cX0_hasSkill 8 = .ok (.iconst 1, 1) := by decide +kernel
theorem dX0_hasSkill_9 : decode cX0_hasSkill 9 = .ok (.if_icmp .ne 7, 3) := by decide +kernel
theorem dX0_hasSkill_12 : decode cX0_hasSkill 12 = .ok (.iconst 1, 1) := by decide +kernel
theorem dX0_hasSkill_13 : decode cX0_hasSkill 13 = .ok (.goto 4, 3) := by decide +kernel
theorem dX0_hasSkill_16 : decode cX0_hasSkill 16 = .ok (.iconst 0, 1) := by decide +kernel
theorem dX0_hasSkill_17 : decode cX0_hasSkill 17 = .ok (.ireturn, 1) := by decide +kernel
theorem dX0_canAnswer_0 : decode cX0_canAnswer 0 = .ok (.aload_n 0, 1) := by decide +kernel
theorem dX0_canAnswer_1 : decode cX0_canAnswer 1 = .ok (.getfield 16, 3) := by decide +kernel
theorem dX0_canAnswer_4 : decode cX0_canAnswer 4 = .ok (.ifCond .eq 15, 3) := by decide +kernel
theorem dX0_canAnswer_7 : decode cX0_canAnswer 7 = .ok (.aload_n 0, 1) := by decide +kernel
theorem dX0_canAnswer_8 : decode cX0_canAnswer 8 = .ok (.iload_n 1, 1) := by decide +kernel
theorem dX0_canAnswer_9 : decode cX0_canAnswer 9 = .ok (.invokevirtual 20, 3) := by decide +kernel
theorem dX0_canAnswer_12 : decode cX0_canAnswer 12 = .ok (.ifCond .eq 7, 3) := by decide +kernel
theorem dX0_canAnswer_15 : decode cX0_canAnswer 15 = .ok (.iconst 1, 1) := by decide +kernel
theorem dX0_canAnswer_16 : decode cX0_canAnswer 16 = .ok (.goto 4, 3) := by decide +kernel
theorem dX0_canAnswer_19 : decode cX0_canAnswer 19 = .ok (.iconst 0, 1) := by decide +kernel
theorem dX0_canAnswer_20 : decode cX0_canAnswer 20 = .ok (.ireturn, 1) := by decide +kernel
theorem dX1_init_0 : decode cX1_init 0 = .ok (.aload_n 0, 1) := by decide +kernel
theorem dX1_init_1 : decode cX1_init 1 = .ok (.invokespecial 1, 3) := by decide +kernel
theorem dX1_init_4 : decode cX1_init 4 = .ok (.aload_n 0, 1) := by decide +kernel
theorem dX1_init_5 : decode cX1_init 5 = .ok (.aload_n 1, 1) := by decide +kernel
theorem dX1_init_6 : decode cX1_init 6 = .ok (.putfield 7, 3) := by decide +kernel
theorem dX1_init_9 : decode cX1_init 9 = .ok (.return_, 1) := by decide +kernel
theorem dX2_init_0 : decode cX2_init 0 = .ok (.aload_n 0, 1) := by decide +kernel
theorem dX2_init_1 : decode cX2_init 1 = .ok (.invokespecial 1, 3) := by decide +kernel
theorem dX2_init_4 : decode cX2_init 4 = .ok (.aload_n 0, 1) := by decide +kernel
theorem dX2_init_5 : decode cX2_init 5 = .ok (.iload_n 1, 1) := by decide +kernel
theorem dX2_init_6 : decode cX2_init 6 = .ok (.putfield 7, 3) := by decide +kernel
theorem dX2_init_9 : decode cX2_init 9 = .ok (.aload_n 0, 1) := by decide +kernel
theorem dX2_init_10 : decode cX2_init 10 = .ok (.aload_n 2, 1) := by decide +kernel
theorem dX2_init_11 : decode cX2_init 11 = .ok (.putfield 13, 3) := by decide +kernel
theorem dX2_init_14 : decode cX2_init 14 = .ok (.return_, 1) := by decide +kernel
theorem dX3_init_0 : decode cX3_init 0 = .ok (.aload_n 0, 1) := by decide +kernel
theorem dX3_init_1 : decode cX3_init 1 = .ok (.invokespecial 3, 3) := by decide +kernel
theorem dX3_init_4 : decode cX3_init 4 = .ok (.aload_n 0, 1) := by decide +kernel
theorem dX3_init_5 : decode cX3_init 5 = .ok (.iload_n 1, 1) := by decide +kernel
theorem dX3_init_6 : decode cX3_init 6 = .ok (.putfield 9, 3) := by decide +kernel
theorem dX3_init_9 : decode cX3_init 9 = .ok (.aload_n 0, 1) := by decide +kernel
theorem dX3_init_10 : decode cX3_init 10 = .ok (.bipush 6, 2) := by decide +kernel
theorem dX3_init_12 : decode cX3_init 12 = .ok (.newarray .int, 2) := by decide +kernel
theorem dX3_init_14 : decode cX3_init 14 = .ok (.putfield 15, 3) := by decide +kernel
theorem dX3_init_17 : decode cX3_init 17 = .ok (.return_, 1) := by decide +kernel
theorem dX3_gainWeight_0 : decode cX3_gainWeight 0 = .ok (.aload_n 0, 1) := by decide +kernel
theorem dX3_gainWeight_1 : decode cX3_gainWeight 1 = .ok (.getfield 15, 3) := by decide +kernel
theorem dX3_gainWeight_4 : decode cX3_gainWeight 4 = .ok (.iload_n 1, 1) := by decide +kernel
theorem dX3_gainWeight_5 : decode cX3_gainWeight 5 = .ok (.aload_n 0, 1) := by decide +kernel
theorem dX3_gainWeight_6 : decode cX3_gainWeight 6 = .ok (.getfield 15, 3) := by decide +kernel
theorem dX3_gainWeight_9 : decode cX3_gainWeight 9 = .ok (.iload_n 1, 1) := by decide +kernel
theorem dX3_gainWeight_10 : decode cX3_gainWeight 10 = .ok (.iaload, 1) := by decide +kernel
theorem dX3_gainWeight_11 : decode cX3_gainWeight 11 = .ok (.iconst 1, 1) := by decide +kernel
theorem dX3_gainWeight_12 : decode cX3_gainWeight 12 = .ok (.iadd, 1) := by decide +kernel
theorem dX3_gainWeight_13 : decode cX3_gainWeight 13 = .ok (.bipush 9, 2) := by decide +kernel
theorem dX3_gainWeight_15 : decode cX3_gainWeight 15 = .ok (.invokestatic 19, 3) := by decide +kernel
theorem dX3_gainWeight_18 : decode cX3_gainWeight 18 = .ok (.iastore, 1) := by decide +kernel
theorem dX3_gainWeight_19 : decode cX3_gainWeight 19 = .ok (.return_, 1) := by decide +kernel
theorem dX3_loseWeight_0 : decode cX3_loseWeight 0 = .ok (.aload_n 0, 1) := by decide +kernel
theorem dX3_loseWeight_1 : decode cX3_loseWeight 1 = .ok (.getfield 15, 3) := by decide +kernel
theorem dX3_loseWeight_4 : decode cX3_loseWeight 4 = .ok (.iload_n 1, 1) := by decide +kernel
theorem dX3_loseWeight_5 : decode cX3_loseWeight 5 = .ok (.aload_n 0, 1) := by decide +kernel
theorem dX3_loseWeight_6 : decode cX3_loseWeight 6 = .ok (.getfield 15, 3) := by decide +kernel
theorem dX3_loseWeight_9 : decode cX3_loseWeight 9 = .ok (.iload_n 1, 1) := by decide +kernel
theorem dX3_loseWeight_10 : decode cX3_loseWeight 10 = .ok (.iaload, 1) := by decide +kernel
theorem dX3_loseWeight_11 : decode cX3_loseWeight 11 = .ok (.iconst 1, 1) := by decide +kernel
theorem dX3_loseWeight_12 : decode cX3_loseWeight 12 = .ok (.isub, 1) := by decide +kernel
theorem dX3_loseWeight_13 : decode cX3_loseWeight 13 = .ok (.iconst 0, 1) := by decide +kernel
theorem dX3_loseWeight_14 : decode cX3_loseWeight 14 = .ok (.invokestatic 25, 3) := by decide +kernel
theorem dX3_loseWeight_17 : decode cX3_loseWeight 17 = .ok (.iastore, 1) := by decide +kernel
theorem dX3_loseWeight_18 : decode cX3_loseWeight 18 = .ok (.return_, 1) := by decide +kernel
theorem dX4_init_0 : decode cX4_init 0 = .ok (.aload_n 0, 1) := by decide +kernel
theorem dX4_init_1 : decode cX4_init 1 = .ok (.invokespecial 3, 3) := by decide +kernel
theorem dX4_init_4 : decode cX4_init 4 = .ok (.aload_n 0, 1) := by decide +kernel
theorem dX4_init_5 : decode cX4_init 5 = .ok (.iload_n 1, 1) := by decide +kernel
theorem dX4_init_6 : decode cX4_init 6 = .ok (.putfield 9, 3) := by decide +kernel
theorem dX4_init_9 : decode cX4_init 9 = .ok (.aload_n 0, 1) := by decide +kernel
theorem dX4_init_10 : decode cX4_init 10 = .ok (.aload_n 2, 1) := by decide +kernel
theorem dX4_init_11 : decode cX4_init 11 = .ok (.putfield 15, 3) := by decide +kernel
theorem dX4_init_14 : decode cX4_init 14 = .ok (.aload_n 0, 1) := by decide +kernel
theorem dX4_init_15 : decode cX4_init 15 = .ok (.iload_n 3, 1) := by decide +kernel
theorem dX4_init_16 : decode cX4_init 16 = .ok (.putfield 19, 3) := by decide +kernel
theorem dX4_init_19 : decode cX4_init 19 = .ok (.aload_n 0, 1) := by decide +kernel
theorem dX4_init_20 : decode cX4_init 20 = .ok (.iload 4, 2) := by decide +kernel
theorem dX4_init_22 : decode cX4_init 22 = .ok (.putfield 22, 3) := by decide +kernel
theorem dX4_init_25 : decode cX4_init 25 = .ok (.aload_n 0, 1) := by decide +kernel
theorem dX4_init_26 : decode cX4_init 26 = .ok (.new 25, 3) := by decide +kernel
theorem dX4_init_29 : decode cX4_init 29 = .ok (.dup, 1) := by decide +kernel
theorem dX4_init_30 : decode cX4_init 30 = .ok (.invokespecial 27, 3) := by decide +kernel
theorem dX4_init_33 : decode cX4_init 33 = .ok (.putfield 28, 3) := by decide +kernel
theorem dX4_init_36 : decode cX4_init 36 = .ok (.aload_n 0, 1) := by decide +kernel
theorem dX4_init_37 : decode cX4_init 37 = .ok (.bipush 111, 2) := by decide +kernel
theorem dX4_init_39 : decode cX4_init 39 = .ok (.putfield 32, 3) := by decide +kernel
theorem dX4_init_42 : decode cX4_init 42 = .ok (.return_, 1) := by decide +kernel
theorem dX4_isOpenOrHeld_0 : decode cX4_isOpenOrHeld 0 = .ok (.aload_n 0, 1) := by decide +kernel
theorem dX4_isOpenOrHeld_1 : decode cX4_isOpenOrHeld 1 = .ok (.getfield 32, 3) := by decide +kernel
theorem dX4_isOpenOrHeld_4 : decode cX4_isOpenOrHeld 4 = .ok (.bipush 111, 2) := by decide +kernel
theorem dX4_isOpenOrHeld_6 : decode cX4_isOpenOrHeld 6 = .ok (.if_icmp .eq 12, 3) := by decide +kernel
theorem dX4_isOpenOrHeld_9 : decode cX4_isOpenOrHeld 9 = .ok (.aload_n 0, 1) := by decide +kernel
theorem dX4_isOpenOrHeld_10 : decode cX4_isOpenOrHeld 10 = .ok (.getfield 32, 3) := by decide +kernel
theorem dX4_isOpenOrHeld_13 : decode cX4_isOpenOrHeld 13 = .ok (.bipush 104, 2) := by decide +kernel
theorem dX4_isOpenOrHeld_15 : decode cX4_isOpenOrHeld 15 = .ok (.if_icmp .ne 7, 3) := by decide +kernel
theorem dX4_isOpenOrHeld_18 : decode cX4_isOpenOrHeld 18 = .ok (.iconst 1, 1) := by decide +kernel
theorem dX4_isOpenOrHeld_19 : decode cX4_isOpenOrHeld 19 = .ok (.goto 4, 3) := by decide +kernel
theorem dX4_isOpenOrHeld_22 : decode cX4_isOpenOrHeld 22 = .ok (.iconst 0, 1) := by decide +kernel
theorem dX4_isOpenOrHeld_23 : decode cX4_isOpenOrHeld 23 = .ok (.ireturn, 1) := by decide +kernel
theorem dX4_isWaiting_0 : decode cX4_isWaiting 0 = .ok (.aload_n 0, 1) := by decide +kernel
theorem dX4_isWaiting_1 : decode cX4_isWaiting 1 = .ok (.getfield 32, 3) := by decide +kernel
theorem dX4_isWaiting_4 : decode cX4_isWaiting 4 = .ok (.bipush 111, 2) := by decide +kernel
theorem dX4_isWaiting_6 : decode cX4_isWaiting 6 = .ok (.if_icmp .ne 14, 3) := by decide +kernel
theorem dX4_isWaiting_9 : decode cX4_isWaiting 9 = .ok (.aload_n 0, 1) := by decide +kernel
theorem dX4_isWaiting_10 : decode cX4_isWaiting 10 = .ok (.getfield 36, 3) := by decide +kernel
theorem dX4_isWaiting_13 : decode cX4_isWaiting 13 = .ok (.ifnonnull 7, 3) := by decide +kernel
theorem dX4_isWaiting_16 : decode cX4_isWaiting 16 = .ok (.iconst 1, 1) := by decide +kernel
theorem dX4_isWaiting_17 : decode cX4_isWaiting 17 = .ok (.goto 4, 3) := by decide +kernel
theorem dX4_isWaiting_20 : decode cX4_isWaiting 20 = .ok (.iconst 0, 1) := by decide +kernel
theorem dX4_isWaiting_21 : decode cX4_isWaiting 21 = .ok (.ireturn, 1) := by decide +kernel
theorem dX4_canBeJoined_0 : decode cX4_canBeJoined 0 = .ok (.aload_n 0, 1) := by decide +kernel
theorem dX4_canBeJoined_1 : decode cX4_canBeJoined 1 = .ok (.getfield 32, 3) := by decide +kernel
theorem dX4_canBeJoined_4 : decode cX4_canBeJoined 4 = .ok (.bipush 99, 2) := by decide +kernel
theorem dX4_canBeJoined_6 : decode cX4_canBeJoined 6 = .ok (.if_icmp .ne 21, 3) := by decide +kernel
theorem dX4_canBeJoined_9 : decode cX4_canBeJoined 9 = .ok (.iload_n 1, 1) := by decide +kernel
theorem dX4_canBeJoined_10 : decode cX4_canBeJoined 10 = .ok (.aload_n 0, 1) := by decide +kernel
theorem dX4_canBeJoined_11 : decode cX4_canBeJoined 11 = .ok (.getfield 40, 3) := by decide +kernel
theorem dX4_canBeJoined_14 : decode cX4_canBeJoined 14 = .ok (.isub, 1) := by decide +kernel
theorem dX4_canBeJoined_15 : decode cX4_canBeJoined 15 = .ok (.sipush 1440, 3) := by decide +kernel
theorem dX4_canBeJoined_18 : decode cX4_canBeJoined 18 = .ok (.if_icmp .gt 7, 3) := by decide +kernel
theorem dX4_canBeJoined_21 : decode cX4_canBeJoined 21 = .ok (.iconst 1, 1) := by decide +kernel
theorem dX4_canBeJoined_22 : decode cX4_canBeJoined 22 = .ok (.goto 4, 3) := by decide +kernel
theorem dX4_canBeJoined_25 : decode cX4_canBeJoined 25 = .ok (.iconst 0, 1) := by decide +kernel
theorem dX4_canBeJoined_26 : decode cX4_canBeJoined 26 = .ok (.ireturn, 1) := by decide +kernel
theorem dX4_canBeJoined_27 : decode cX4_canBeJoined 27 = .ok (.aload_n 0, 1) := by decide +kernel
theorem dX4_canBeJoined_28 : decode cX4_canBeJoined 28 = .ok (.getfield 32, 3) := by decide +kernel
theorem dX4_canBeJoined_31 : decode cX4_canBeJoined 31 = .ok (.bipush 109, 2) := by decide +kernel
theorem dX4_canBeJoined_33 : decode cX4_canBeJoined 33 = .ok (.if_icmp .eq 7, 3) := by decide +kernel
theorem dX4_canBeJoined_36 : decode cX4_canBeJoined 36 = .ok (.iconst 1, 1) := by decide +kernel
theorem dX4_canBeJoined_37 : decode cX4_canBeJoined 37 = .ok (.goto 4, 3) := by decide +kernel
theorem dX4_canBeJoined_40 : decode cX4_canBeJoined 40 = .ok (.iconst 0, 1) := by decide +kernel
theorem dX4_canBeJoined_41 : decode cX4_canBeJoined 41 = .ok (.ireturn, 1) := by decide +kernel
theorem dX4_minutesLeft_0 : decode cX4_minutesLeft 0 = .ok (.aload_n 0, 1) := by decide +kernel
theorem dX4_minutesLeft_1 : decode cX4_minutesLeft 1 = .ok (.getfield 15, 3) := by decide +kernel
theorem dX4_minutesLeft_4 : decode cX4_minutesLeft 4 = .ok (.getfield 43, 3) := by decide +kernel
theorem dX4_minutesLeft_7 : decode cX4_minutesLeft 7 = .ok (.aload_n 0, 1) := by decide +kernel
theorem dX4_minutesLeft_8 : decode cX4_minutesLeft 8 = .ok (.getfield 15, 3) := by decide +kernel
theorem dX4_minutesLeft_11 : decode cX4_minutesLeft 11 = .ok (.getfield 49, 3) := by decide +kernel
theorem dX4_minutesLeft_14 : decode cX4_minutesLeft 14 = .ok (.iaload, 1) := by decide +kernel
theorem dX4_minutesLeft_15 : decode cX4_minutesLeft 15 = .ok (.aload_n 0, 1) := by decide +kernel
theorem dX4_minutesLeft_16 : decode cX4_minutesLeft 16 = .ok (.getfield 52, 3) := by decide +kernel
theorem dX4_minutesLeft_19 : decode cX4_minutesLeft 19 = .ok (.isub, 1) := by decide +kernel
theorem dX4_minutesLeft_20 : decode cX4_minutesLeft 20 = .ok (.ireturn, 1) := by decide +kernel
theorem dX4_isBefore_0 : decode cX4_isBefore 0 = .ok (.aload_n 0, 1) := by decide +kernel
theorem dX4_isBefore_1 : decode cX4_isBefore 1 = .ok (.invokevirtual 55, 3) := by decide +kernel
theorem dX4_isBefore_4 : decode cX4_isBefore 4 = .ok (.aload_n 1, 1) := by decide +kernel
theorem dX4_isBefore_5 : decode cX4_isBefore 5 = .ok (.invokevirtual 55, 3) := by decide +kernel
theorem dX4_isBefore_8 : decode cX4_isBefore 8 = .ok (.if_icmp .eq 20, 3) := by decide +kernel
theorem dX4_isBefore_11 : decode cX4_isBefore 11 = .ok (.aload_n 0, 1) := by decide +kernel
theorem dX4_isBefore_12 : decode cX4_isBefore 12 = .ok (.invokevirtual 55, 3) := by decide +kernel
theorem dX4_isBefore_15 : decode cX4_isBefore 15 = .ok (.aload_n 1, 1) := by decide +kernel
theorem dX4_isBefore_16 : decode cX4_isBefore 16 = .ok (.invokevirtual 55, 3) := by decide +kernel
theorem dX4_isBefore_19 : decode cX4_isBefore 19 = .ok (.if_icmp .ge 7, 3) := by decide +kernel
theorem dX4_isBefore_22 : decode cX4_isBefore 22 = .ok (.iconst 1, 1) := by decide +kernel
theorem dX4_isBefore_23 : decode cX4_isBefore 23 = .ok (.goto 4, 3) := by decide +kernel
theorem dX4_isBefore_26 : decode cX4_isBefore 26 = .ok (.iconst 0, 1) := by decide +kernel
theorem dX4_isBefore_27 : decode cX4_isBefore 27 = .ok (.ireturn, 1) := by decide +kernel
theorem dX4_isBefore_28 : decode cX4_isBefore 28 = .ok (.aload_n 0, 1) := by decide +kernel
theorem dX4_isBefore_29 : decode cX4_isBefore 29 = .ok (.getfield 15, 3) := by decide +kernel
theorem dX4_isBefore_32 : decode cX4_isBefore 32 = .ok (.getfield 49, 3) := by decide +kernel
theorem dX4_isBefore_35 : decode cX4_isBefore 35 = .ok (.aload_n 1, 1) := by decide +kernel
theorem dX4_isBefore_36 : decode cX4_isBefore 36 = .ok (.getfield 15, 3) := by decide +kernel
theorem dX4_isBefore_39 : decode cX4_isBefore 39 = .ok (.getfield 49, 3) := by decide +kernel
theorem dX4_isBefore_42 : decode cX4_isBefore 42 = .ok (.if_icmp .eq 26, 3) := by decide +kernel
theorem dX4_isBefore_45 : decode cX4_isBefore 45 = .ok (.aload_n 0, 1) := by decide +kernel
theorem dX4_isBefore_46 : decode cX4_isBefore 46 = .ok (.getfield 15, 3) := by decide +kernel
theorem dX4_isBefore_49 : decode cX4_isBefore 49 = .ok (.getfield 49, 3) := by decide +kernel
theorem dX4_isBefore_52 : decode cX4_isBefore 52 = .ok (.aload_n 1, 1) := by decide +kernel
theorem dX4_isBefore_53 : decode cX4_isBefore 53 = .ok (.getfield 15, 3) := by decide +kernel
theorem dX4_isBefore_56 : decode cX4_isBefore 56 = .ok (.getfield 49, 3) := by decide +kernel
theorem dX4_isBefore_59 : decode cX4_isBefore 59 = .ok (.if_icmp .le 7, 3) := by decide +kernel
theorem dX4_isBefore_62 : decode cX4_isBefore 62 = .ok (.iconst 1, 1) := by decide +kernel
theorem dX4_isBefore_63 : decode cX4_isBefore 63 = .ok (.goto 4, 3) := by decide +kernel
theorem dX4_isBefore_66 : decode cX4_isBefore 66 = .ok (.iconst 0, 1) := by decide +kernel
theorem dX4_isBefore_67 : decode cX4_isBefore 67 = .ok (.ireturn, 1) := by decide +kernel
theorem dX4_isBefore_68 : decode cX4_isBefore 68 = .ok (.aload_n 0, 1) := by decide +kernel
theorem dX4_isBefore_69 : decode cX4_isBefore 69 = .ok (.getfield 9, 3) := by decide +kernel
theorem dX4_isBefore_72 : decode cX4_isBefore 72 = .ok (.aload_n 1, 1) := by decide +kernel
theorem dX4_isBefore_73 : decode cX4_isBefore 73 = .ok (.getfield 9, 3) := by decide +kernel
theorem dX4_isBefore_76 : decode cX4_isBefore 76 = .ok (.if_icmp .ge 7, 3) := by decide +kernel
theorem dX4_isBefore_79 : decode cX4_isBefore 79 = .ok (.iconst 1, 1) := by decide +kernel
theorem dX4_isBefore_80 : decode cX4_isBefore 80 = .ok (.goto 4, 3) := by decide +kernel
theorem dX4_isBefore_83 : decode cX4_isBefore 83 = .ok (.iconst 0, 1) := by decide +kernel
theorem dX4_isBefore_84 : decode cX4_isBefore 84 = .ok (.ireturn, 1) := by decide +kernel
theorem dX4_countMinutes_0 : decode cX4_countMinutes 0 = .ok (.aload_n 0, 1) := by decide +kernel
theorem dX4_countMinutes_1 : decode cX4_countMinutes 1 = .ok (.dup, 1) := by decide +kernel
theorem dX4_countMinutes_2 : decode cX4_countMinutes 2 = .ok (.getfield 52, 3) := by decide +kernel
theorem dX4_countMinutes_5 : decode cX4_countMinutes 5 = .ok (.iload_n 1, 1) := by decide +kernel
theorem dX4_countMinutes_6 : decode cX4_countMinutes 6 = .ok (.iadd, 1) := by decide +kernel
theorem dX4_countMinutes_7 : decode cX4_countMinutes 7 = .ok (.putfield 52, 3) := by decide +kernel
theorem dX4_countMinutes_10 : decode cX4_countMinutes 10 = .ok (.aload_n 0, 1) := by decide +kernel
theorem dX4_countMinutes_11 : decode cX4_countMinutes 11 = .ok (.getfield 59, 3) := by decide +kernel
theorem dX4_countMinutes_14 : decode cX4_countMinutes 14 = .ok (.ifCond .ne 10, 3) := by decide +kernel
theorem dX4_countMinutes_17 : decode cX4_countMinutes 17 = .ok (.aload_n 0, 1) := by decide +kernel
theorem dX4_countMinutes_18 : decode cX4_countMinutes 18 = .ok (.invokevirtual 55, 3) := by decide +kernel
theorem dX4_countMinutes_21 : decode cX4_countMinutes 21 = .ok (.ifCond .lt 5, 3) := by decide +kernel
theorem dX4_countMinutes_24 : decode cX4_countMinutes 24 = .ok (.iconst 0, 1) := by decide +kernel
theorem dX4_countMinutes_25 : decode cX4_countMinutes 25 = .ok (.ireturn, 1) := by decide +kernel
theorem dX4_countMinutes_26 : decode cX4_countMinutes 26 = .ok (.aload_n 0, 1) := by decide +kernel
theorem dX4_countMinutes_27 : decode cX4_countMinutes 27 = .ok (.iconst 1, 1) := by decide +kernel
theorem dX4_countMinutes_28 : decode cX4_countMinutes 28 = .ok (.putfield 59, 3) := by decide +kernel
theorem dX4_countMinutes_31 : decode cX4_countMinutes 31 = .ok (.iconst 1, 1) := by decide +kernel
theorem dX4_countMinutes_32 : decode cX4_countMinutes 32 = .ok (.ireturn, 1) := by decide +kernel
theorem dX4_beginAnew_0 : decode cX4_beginAnew 0 = .ok (.aload_n 0, 1) := by decide +kernel
theorem dX4_beginAnew_1 : decode cX4_beginAnew 1 = .ok (.getfield 63, 3) := by decide +kernel
theorem dX4_beginAnew_4 : decode cX4_beginAnew 4 = .ok (.ifnull 14, 3) := by decide +kernel
theorem dX4_beginAnew_7 : decode cX4_beginAnew 7 = .ok (.aload_n 0, 1) := by decide +kernel
theorem dX4_beginAnew_8 : decode cX4_beginAnew 8 = .ok (.getfield 63, 3) := by decide +kernel
theorem dX4_beginAnew_11 : decode cX4_beginAnew 11 = .ok (.aload_n 0, 1) := by decide +kernel
theorem dX4_beginAnew_12 : decode cX4_beginAnew 12 = .ok (.getfield 22, 3) := by decide +kernel
theorem dX4_beginAnew_15 : decode cX4_beginAnew 15 = .ok (.invokevirtual 67, 3) := by decide +kernel
theorem dX4_beginAnew_18 : decode cX4_beginAnew 18 = .ok (.aload_n 0, 1) := by decide +kernel
theorem dX4_beginAnew_19 : decode cX4_beginAnew 19 = .ok (.aconst_null, 1) := by decide +kernel
theorem dX4_beginAnew_20 : decode cX4_beginAnew 20 = .ok (.putfield 63, 3) := by decide +kernel
theorem dX4_beginAnew_23 : decode cX4_beginAnew 23 = .ok (.aload_n 0, 1) := by decide +kernel
theorem dX4_beginAnew_24 : decode cX4_beginAnew 24 = .ok (.bipush 111, 2) := by decide +kernel
theorem dX4_beginAnew_26 : decode cX4_beginAnew 26 = .ok (.putfield 32, 3) := by decide +kernel
theorem dX4_beginAnew_29 : decode cX4_beginAnew 29 = .ok (.aload_n 0, 1) := by decide +kernel
theorem dX4_beginAnew_30 : decode cX4_beginAnew 30 = .ok (.iconst 0, 1) := by decide +kernel
theorem dX4_beginAnew_31 : decode cX4_beginAnew 31 = .ok (.putfield 52, 3) := by decide +kernel
theorem dX4_beginAnew_34 : decode cX4_beginAnew 34 = .ok (.aload_n 0, 1) := by decide +kernel
theorem dX4_beginAnew_35 : decode cX4_beginAnew 35 = .ok (.iconst 0, 1) := by decide +kernel
theorem dX4_beginAnew_36 : decode cX4_beginAnew 36 = .ok (.putfield 59, 3) := by decide +kernel
theorem dX4_beginAnew_39 : decode cX4_beginAnew 39 = .ok (.return_, 1) := by decide +kernel
theorem dX4_joinAgent_0 : decode cX4_joinAgent 0 = .ok (.aload_n 0, 1) := by decide +kernel
theorem dX4_joinAgent_1 : decode cX4_joinAgent 1 = .ok (.aload_n 1, 1) := by decide +kernel
theorem dX4_joinAgent_2 : decode cX4_joinAgent 2 = .ok (.putfield 36, 3) := by decide +kernel
theorem dX4_joinAgent_5 : decode cX4_joinAgent 5 = .ok (.aload_n 1, 1) := by decide +kernel
theorem dX4_joinAgent_6 : decode cX4_joinAgent 6 = .ok (.dup, 1) := by decide +kernel
theorem dX4_joinAgent_7 : decode cX4_joinAgent 7 = .ok (.getfield 73, 3) := by decide +kernel
theorem dX4_joinAgent_10 : decode cX4_joinAgent 10 = .ok (.iconst 1, 1) := by decide +kernel
theorem dX4_joinAgent_11 : decode cX4_joinAgent 11 = .ok (.iadd, 1) := by decide +kernel
theorem dX4_joinAgent_12 : decode cX4_joinAgent 12 = .ok (.putfield 73, 3) := by decide +kernel
theorem dX4_joinAgent_15 : decode cX4_joinAgent 15 = .ok (.return_, 1) := by decide +kernel
theorem dX4_leaveAgent_0 : decode cX4_leaveAgent 0 = .ok (.aload_n 0, 1) := by decide +kernel
theorem dX4_leaveAgent_1 : decode cX4_leaveAgent 1 = .ok (.getfield 36, 3) := by decide +kernel
theorem dX4_leaveAgent_4 : decode cX4_leaveAgent 4 = .ok (.ifnull 16, 3) := by decide +kernel
theorem dX4_leaveAgent_7 : decode cX4_leaveAgent 7 = .ok (.aload_n 0, 1) := by decide +kernel
theorem dX4_leaveAgent_8 : decode cX4_leaveAgent 8 = .ok (.getfield 36, 3) := by decide +kernel
theorem dX4_leaveAgent_11 : decode cX4_leaveAgent 11 = .ok (.dup, 1) := by decide +kernel
theorem dX4_leaveAgent_12 : decode cX4_leaveAgent 12 = .ok (.getfield 73, 3) := by decide +kernel
theorem dX4_leaveAgent_15 : decode cX4_leaveAgent 15 = .ok (.iconst 1, 1) := by decide +kernel
theorem dX4_leaveAgent_16 : decode cX4_leaveAgent 16 = .ok (.isub, 1) := by decide +kernel
theorem dX4_leaveAgent_17 : decode cX4_leaveAgent 17 = .ok (.putfield 73, 3) := by decide +kernel
theorem dX4_leaveAgent_20 : decode cX4_leaveAgent 20 = .ok (.aload_n 0, 1) := by decide +kernel
theorem dX4_leaveAgent_21 : decode cX4_leaveAgent 21 = .ok (.aconst_null, 1) := by decide +kernel
theorem dX4_leaveAgent_22 : decode cX4_leaveAgent 22 = .ok (.putfield 36, 3) := by decide +kernel
theorem dX4_leaveAgent_25 : decode cX4_leaveAgent 25 = .ok (.return_, 1) := by decide +kernel
theorem dX4_insertMail_0 : decode cX4_insertMail 0 = .ok (.aload_n 0, 1) := by decide +kernel
theorem dX4_insertMail_1 : decode cX4_insertMail 1 = .ok (.getfield 28, 3) := by decide +kernel
theorem dX4_insertMail_4 : decode cX4_insertMail 4 = .ok (.invokevirtual 78, 3) := by decide +kernel
theorem dX4_insertMail_7 : decode cX4_insertMail 7 = .ok (.istore_n 2, 1) := by decide +kernel
theorem dX4_insertMail_8 : decode cX4_insertMail 8 = .ok (.iload_n 2, 1) := by decide +kernel
theorem dX4_insertMail_9 : decode cX4_insertMail 9 = .ok (.ifCond .le 32, 3) := by decide +kernel
theorem dX4_insertMail_12 : decode cX4_insertMail 12 = .ok (.aload_n 0, 1) := by decide +kernel
theorem dX4_insertMail_13 : decode cX4_insertMail 13 = .ok (.getfield 28, 3) := by decide +kernel
theorem dX4_insertMail_16 : decode cX4_insertMail 16 = .ok (.iload_n 2, 1) := by decide +kernel
theorem dX4_insertMail_17 : decode cX4_insertMail 17 = .ok (.iconst 1, 1) := by decide +kernel
theorem dX4_insertMail_18 : decode cX4_insertMail 18 = .ok (.isub, 1) := by decide +kernel
theorem dX4_insertMail_19 : decode cX4_insertMail 19 = .ok (.invokevirtual 81, 3) := by decide +kernel
theorem dX4_insertMail_22 : decode cX4_insertMail 22 = .ok (.checkcast 85, 3) := by decide +kernel
theorem dX4_insertMail_25 : decode cX4_insertMail 25 = .ok (.getfield 87, 3) := by decide +kernel
theorem dX4_insertMail_28 : decode cX4_insertMail 28 = .ok (.aload_n 1, 1) := by decide +kernel
theorem dX4_insertMail_29 : decode cX4_insertMail 29 = .ok (.getfield 87, 3) := by decide +kernel
theorem dX4_insertMail_32 : decode cX4_insertMail 32 = .ok (.if_icmp .le 9, 3) := by decide +kernel
theorem dX4_insertMail_35 : decode cX4_insertMail 35 = .ok (.iinc 2 (-1), 3) := by decide +kernel
theorem dX4_insertMail_38 : decode cX4_insertMail 38 = .ok (.goto (-30), 3) := by decide +kernel
theorem dX4_insertMail_41 : decode cX4_insertMail 41 = .ok (.aload_n 0, 1) := by decide +kernel
theorem dX4_insertMail_42 : decode cX4_insertMail 42 = .ok (.getfield 28, 3) := by decide +kernel
theorem dX4_insertMail_45 : decode cX4_insertMail 45 = .ok (.iload_n 2, 1) := by decide +kernel
theorem dX4_insertMail_46 : decode cX4_insertMail 46 = .ok (.aload_n 1, 1) := by decide +kernel
theorem dX4_insertMail_47 : decode cX4_insertMail 47 = .ok (.invokevirtual 88, 3) := by decide +kernel
theorem dX4_insertMail_50 : decode cX4_insertMail 50 = .ok (.aload_n 1, 1) := by decide +kernel
theorem dX4_insertMail_51 : decode cX4_insertMail 51 = .ok (.aload_n 0, 1) := by decide +kernel
theorem dX4_insertMail_52 : decode cX4_insertMail 52 = .ok (.putfield 92, 3) := by decide +kernel
theorem dX4_insertMail_55 : decode cX4_insertMail 55 = .ok (.return_, 1) := by decide +kernel
theorem dX4_lastMail_0 : decode cX4_lastMail 0 = .ok (.aload_n 0, 1) := by decide +kernel
theorem dX4_lastMail_1 : decode cX4_lastMail 1 = .ok (.getfield 28, 3) := by decide +kernel
theorem dX4_lastMail_4 : decode cX4_lastMail 4 = .ok (.invokevirtual 96, 3) := by decide +kernel
theorem dX4_lastMail_7 : decode cX4_lastMail 7 = .ok (.ifCond .eq 7, 3) := by decide +kernel
theorem dX4_lastMail_10 : decode cX4_lastMail 10 = .ok (.iconst (-1), 1) := by decide +kernel
theorem dX4_lastMail_11 : decode cX4_lastMail 11 = .ok (.goto 25, 3) := by decide +kernel
theorem dX4_lastMail_14 : decode cX4_lastMail 14 = .ok (.aload_n 0, 1) := by decide +kernel
theorem dX4_lastMail_15 : decode cX4_lastMail 15 = .ok (.getfield 28, 3) := by decide +kernel
theorem dX4_lastMail_18 : decode cX4_lastMail 18 = .ok (.aload_n 0, 1) := by decide +kernel
theorem dX4_lastMail_19 : decode cX4_lastMail 19 = .ok (.getfield 28, 3) := by decide +kernel
theorem dX4_lastMail_22 : decode cX4_lastMail 22 = .ok (.invokevirtual 78, 3) := by decide +kernel
theorem dX4_lastMail_25 : decode cX4_lastMail 25 = .ok (.iconst 1, 1) := by decide +kernel
theorem dX4_lastMail_26 : decode cX4_lastMail 26 = .ok (.isub, 1) := by decide +kernel
theorem dX4_lastMail_27 : decode cX4_lastMail 27 = .ok (.invokevirtual 81, 3) := by decide +kernel
theorem dX4_lastMail_30 : decode cX4_lastMail 30 = .ok (.checkcast 85, 3) := by decide +kernel
theorem dX4_lastMail_33 : decode cX4_lastMail 33 = .ok (.getfield 87, 3) := by decide +kernel
theorem dX4_lastMail_36 : decode cX4_lastMail 36 = .ok (.ireturn, 1) := by decide +kernel
theorem dX4_takeOver_0 : decode cX4_takeOver 0 = .ok (.iconst 0, 1) := by decide +kernel
theorem dX4_takeOver_1 : decode cX4_takeOver 1 = .ok (.istore_n 2, 1) := by decide +kernel
theorem dX4_takeOver_2 : decode cX4_takeOver 2 = .ok (.iload_n 2, 1) := by decide +kernel
theorem dX4_takeOver_3 : decode cX4_takeOver 3 = .ok (.aload_n 1, 1) := by decide +kernel
theorem dX4_takeOver_4 : decode cX4_takeOver 4 = .ok (.getfield 28, 3) := by decide +kernel
theorem dX4_takeOver_7 : decode cX4_takeOver 7 = .ok (.invokevirtual 78, 3) := by decide +kernel
theorem dX4_takeOver_10 : decode cX4_takeOver 10 = .ok (.if_icmp .ge 24, 3) := by decide +kernel
theorem dX4_takeOver_13 : decode cX4_takeOver 13 = .ok (.aload_n 0, 1) := by decide +kernel
theorem dX4_takeOver_14 : decode cX4_takeOver 14 = .ok (.aload_n 1, 1) := by decide +kernel
theorem dX4_takeOver_15 : decode cX4_takeOver 15 = .ok (.getfield 28, 3) := by decide +kernel
theorem dX4_takeOver_18 : decode cX4_takeOver 18 = .ok (.iload_n 2, 1) := by decide +kernel
theorem dX4_takeOver_19 : decode cX4_takeOver 19 = .ok (.invokevirtual 81, 3) := by decide +kernel
theorem dX4_takeOver_22 : decode cX4_takeOver 22 = .ok (.checkcast 85, 3) := by decide +kernel
theorem dX4_takeOver_25 : decode cX4_takeOver 25 = .ok (.invokevirtual 100, 3) := by decide +kernel
theorem dX4_takeOver_28 : decode cX4_takeOver 28 = .ok (.iinc 2 1, 3) := by decide +kernel
theorem dX4_takeOver_31 : decode cX4_takeOver 31 = .ok (.goto (-29), 3) := by decide +kernel
theorem dX4_takeOver_34 : decode cX4_takeOver 34 = .ok (.aload_n 0, 1) := by decide +kernel
theorem dX4_takeOver_35 : decode cX4_takeOver 35 = .ok (.dup, 1) := by decide +kernel
theorem dX4_takeOver_36 : decode cX4_takeOver 36 = .ok (.getfield 104, 3) := by decide +kernel
theorem dX4_takeOver_39 : decode cX4_takeOver 39 = .ok (.aload_n 1, 1) := by decide +kernel
theorem dX4_takeOver_40 : decode cX4_takeOver 40 = .ok (.getfield 104, 3) := by decide +kernel
theorem dX4_takeOver_43 : decode cX4_takeOver 43 = .ok (.ior, 1) := by decide +kernel
theorem dX4_takeOver_44 : decode cX4_takeOver 44 = .ok (.putfield 104, 3) := by decide +kernel
theorem dX4_takeOver_47 : decode cX4_takeOver 47 = .ok (.aload_n 0, 1) := by decide +kernel
theorem dX4_takeOver_48 : decode cX4_takeOver 48 = .ok (.aload_n 0, 1) := by decide +kernel
theorem dX4_takeOver_49 : decode cX4_takeOver 49 = .ok (.getfield 52, 3) := by decide +kernel
theorem dX4_takeOver_52 : decode cX4_takeOver 52 = .ok (.aload_n 1, 1) := by decide +kernel
theorem dX4_takeOver_53 : decode cX4_takeOver 53 = .ok (.getfield 52, 3) := by decide +kernel
theorem dX4_takeOver_56 : decode cX4_takeOver 56 = .ok (.invokestatic 107, 3) := by decide +kernel
theorem dX4_takeOver_59 : decode cX4_takeOver 59 = .ok (.putfield 52, 3) := by decide +kernel
theorem dX4_takeOver_62 : decode cX4_takeOver 62 = .ok (.aload_n 0, 1) := by decide +kernel
theorem dX4_takeOver_63 : decode cX4_takeOver 63 = .ok (.aload_n 0, 1) := by decide +kernel
theorem dX4_takeOver_64 : decode cX4_takeOver 64 = .ok (.getfield 59, 3) := by decide +kernel
theorem dX4_takeOver_67 : decode cX4_takeOver 67 = .ok (.ifCond .ne 10, 3) := by decide +kernel
theorem dX4_takeOver_70 : decode cX4_takeOver 70 = .ok (.aload_n 1, 1) := by decide +kernel
theorem dX4_takeOver_71 : decode cX4_takeOver 71 = .ok (.getfield 59, 3) := by decide +kernel
theorem dX4_takeOver_74 : decode cX4_takeOver 74 = .ok (.ifCond .eq 7, 3) := by decide +kernel
theorem dX4_takeOver_77 : decode cX4_takeOver 77 = .ok (.iconst 1, 1) := by decide +kernel
theorem dX4_takeOver_78 : decode cX4_takeOver 78 = .ok (.goto 4, 3) := by decide +kernel
theorem dX4_takeOver_81 : decode cX4_takeOver 81 = .ok (.iconst 0, 1) := by decide +kernel
theorem dX4_takeOver_82 : decode cX4_takeOver 82 = .ok (.putfield 59, 3) := by decide +kernel
theorem dX4_takeOver_85 : decode cX4_takeOver 85 = .ok (.aload_n 1, 1) := by decide +kernel
theorem dX4_takeOver_86 : decode cX4_takeOver 86 = .ok (.getfield 28, 3) := by decide +kernel
theorem dX4_takeOver_89 : decode cX4_takeOver 89 = .ok (.invokevirtual 113, 3) := by decide +kernel
theorem dX4_takeOver_92 : decode cX4_takeOver 92 = .ok (.aload_n 1, 1) := by decide +kernel
theorem dX4_takeOver_93 : decode cX4_takeOver 93 = .ok (.iconst 0, 1) := by decide +kernel
theorem dX4_takeOver_94 : decode cX4_takeOver 94 = .ok (.putfield 104, 3) := by decide +kernel
theorem dX4_takeOver_97 : decode cX4_takeOver 97 = .ok (.aload_n 1, 1) := by decide +kernel
theorem dX4_takeOver_98 : decode cX4_takeOver 98 = .ok (.bipush 109, 2) := by decide +kernel
theorem dX4_takeOver_100 : decode cX4_takeOver 100 = .ok (.putfield 32, 3) := by decide +kernel
theorem dX4_takeOver_103 : decode cX4_takeOver 103 = .ok (.aload_n 1, 1) := by decide +kernel
theorem dX4_takeOver_104 : decode cX4_takeOver 104 = .ok (.aload_n 0, 1) := by decide +kernel
theorem dX4_takeOver_105 : decode cX4_takeOver 105 = .ok (.putfield 116, 3) := by decide +kernel
theorem dX4_takeOver_108 : decode cX4_takeOver 108 = .ok (.return_, 1) := by decide +kernel
theorem dX4_ownsItsMails_0 : decode cX4_ownsItsMails 0 = .ok (.iconst 0, 1) := by decide +kernel
theorem dX4_ownsItsMails_1 : decode cX4_ownsItsMails 1 = .ok (.istore_n 1, 1) := by decide +kernel
theorem dX4_ownsItsMails_2 : decode cX4_ownsItsMails 2 = .ok (.iload_n 1, 1) := by decide +kernel
theorem dX4_ownsItsMails_3 : decode cX4_ownsItsMails 3 = .ok (.aload_n 0, 1) := by decide +kernel
theorem dX4_ownsItsMails_4 : decode cX4_ownsItsMails 4 = .ok (.getfield 28, 3) := by decide +kernel
theorem dX4_ownsItsMails_7 : decode cX4_ownsItsMails 7 = .ok (.invokevirtual 78, 3) := by decide +kernel
theorem dX4_ownsItsMails_10 : decode cX4_ownsItsMails 10 = .ok (.if_icmp .ge 76, 3) := by decide +kernel
theorem dX4_ownsItsMails_13 : decode cX4_ownsItsMails 13 = .ok (.iload_n 1, 1) := by decide +kernel
theorem dX4_ownsItsMails_14 : decode cX4_ownsItsMails 14 = .ok (.ifCond .eq 36, 3) := by decide +kernel
theorem dX4_ownsItsMails_17 : decode cX4_ownsItsMails 17 = .ok (.aload_n 0, 1) := by decide +kernel
theorem dX4_ownsItsMails_18 : decode cX4_ownsItsMails 18 = .ok (.getfield 28, 3) := by decide +kernel
theorem dX4_ownsItsMails_21 : decode cX4_ownsItsMails 21 = .ok (.iload_n 1, 1) := by decide +kernel
theorem dX4_ownsItsMails_22 : decode cX4_ownsItsMails 22 = .ok (.iconst 1, 1) := by decide +kernel
theorem dX4_ownsItsMails_23 : decode cX4_ownsItsMails 23 = .ok (.isub, 1) := by decide +kernel
theorem dX4_ownsItsMails_24 : decode cX4_ownsItsMails 24 = .ok (.invokevirtual 81, 3) := by decide +kernel
theorem dX4_ownsItsMails_27 : decode cX4_ownsItsMails 27 = .ok (.checkcast 85, 3) := by decide +kernel
theorem dX4_ownsItsMails_30 : decode cX4_ownsItsMails 30 = .ok (.getfield 87, 3) := by decide +kernel
theorem dX4_ownsItsMails_33 : decode cX4_ownsItsMails 33 = .ok (.aload_n 0, 1) := by decide +kernel
theorem dX4_ownsItsMails_34 : decode cX4_ownsItsMails 34 = .ok (.getfield 28, 3) := by decide +kernel
theorem dX4_ownsItsMails_37 : decode cX4_ownsItsMails 37 = .ok (.iload_n 1, 1) := by decide +kernel
theorem dX4_ownsItsMails_38 : decode cX4_ownsItsMails 38 = .ok (.invokevirtual 81, 3) := by decide +kernel
theorem dX4_ownsItsMails_41 : decode cX4_ownsItsMails 41 = .ok (.checkcast 85, 3) := by decide +kernel
theorem dX4_ownsItsMails_44 : decode cX4_ownsItsMails 44 = .ok (.getfield 87, 3) := by decide +kernel
theorem dX4_ownsItsMails_47 : decode cX4_ownsItsMails 47 = .ok (.if_icmp .ge 7, 3) := by decide +kernel
theorem dX4_ownsItsMails_50 : decode cX4_ownsItsMails 50 = .ok (.iconst 1, 1) := by decide +kernel
theorem dX4_ownsItsMails_51 : decode cX4_ownsItsMails 51 = .ok (.goto 4, 3) := by decide +kernel
theorem dX4_ownsItsMails_54 : decode cX4_ownsItsMails 54 = .ok (.iconst 0, 1) := by decide +kernel
theorem dX4_ownsItsMails_55 : decode cX4_ownsItsMails 55 = .ok (.istore_n 2, 1) := by decide +kernel
theorem dX4_ownsItsMails_56 : decode cX4_ownsItsMails 56 = .ok (.iload_n 2, 1) := by decide +kernel
theorem dX4_ownsItsMails_57 : decode cX4_ownsItsMails 57 = .ok (.ifCond .eq 21, 3) := by decide +kernel
theorem dX4_ownsItsMails_60 : decode cX4_ownsItsMails 60 = .ok (.aload_n 0, 1) := by decide +kernel
theorem dX4_ownsItsMails_61 : decode cX4_ownsItsMails 61 = .ok (.getfield 28, 3) := by decide +kernel
theorem dX4_ownsItsMails_64 : decode cX4_ownsItsMails 64 = .ok (.iload_n 1, 1) := by decide +kernel
theorem dX4_ownsItsMails_65 : decode cX4_ownsItsMails 65 = .ok (.invokevirtual 81, 3) := by decide +kernel
theorem dX4_ownsItsMails_68 : decode cX4_ownsItsMails 68 = .ok (.checkcast 85, 3) := by decide +kernel
theorem dX4_ownsItsMails_71 : decode cX4_ownsItsMails 71 = .ok (.getfield 92, 3) := by decide +kernel
theorem dX4_ownsItsMails_74 : decode cX4_ownsItsMails 74 = .ok (.aload_n 0, 1) := by decide +kernel
theorem dX4_ownsItsMails_75 : decode cX4_ownsItsMails 75 = .ok (.if_acmp .eq 5, 3) := by decide +kernel
theorem dX4_ownsItsMails_78 : decode cX4_ownsItsMails 78 = .ok (.iconst 0, 1) := by decide +kernel
theorem dX4_ownsItsMails_79 : decode cX4_ownsItsMails 79 = .ok (.ireturn, 1) := by decide +kernel
theorem dX4_ownsItsMails_80 : decode cX4_ownsItsMails 80 = .ok (.iinc 1 1, 3) := by decide +kernel
theorem dX4_ownsItsMails_83 : decode cX4_ownsItsMails 83 = .ok (.goto (-81), 3) := by decide +kernel
theorem dX4_ownsItsMails_86 : decode cX4_ownsItsMails 86 = .ok (.iconst 1, 1) := by decide +kernel
theorem dX4_ownsItsMails_87 : decode cX4_ownsItsMails 87 = .ok (.ireturn, 1) := by decide +kernel
theorem dX5_init_0 : decode cX5_init 0 = .ok (.aload_n 0, 1) := by decide +kernel
theorem dX5_init_1 : decode cX5_init 1 = .ok (.invokespecial 1, 3) := by decide +kernel
theorem dX5_init_4 : decode cX5_init 4 = .ok (.aload_n 0, 1) := by decide +kernel
theorem dX5_init_5 : decode cX5_init 5 = .ok (.new 7, 3) := by decide +kernel
theorem dX5_init_8 : decode cX5_init 8 = .ok (.dup, 1) := by decide +kernel
theorem dX5_init_9 : decode cX5_init 9 = .ok (.invokespecial 9, 3) := by decide +kernel
theorem dX5_init_12 : decode cX5_init 12 = .ok (.putfield 10, 3) := by decide +kernel
theorem dX5_init_15 : decode cX5_init 15 = .ok (.return_, 1) := by decide +kernel
theorem dX5_length_0 : decode cX5_length 0 = .ok (.aload_n 0, 1) := by decide +kernel
theorem dX5_length_1 : decode cX5_length 1 = .ok (.getfield 10, 3) := by decide +kernel
theorem dX5_length_4 : decode cX5_length 4 = .ok (.invokevirtual 16, 3) := by decide +kernel
theorem dX5_length_7 : decode cX5_length 7 = .ok (.ireturn, 1) := by decide +kernel
theorem dX5_head_0 : decode cX5_head 0 = .ok (.aload_n 0, 1) := by decide +kernel
theorem dX5_head_1 : decode cX5_head 1 = .ok (.getfield 10, 3) := by decide +kernel
theorem dX5_head_4 : decode cX5_head 4 = .ok (.invokevirtual 20, 3) := by decide +kernel
theorem dX5_head_7 : decode cX5_head 7 = .ok (.ifCond .eq 7, 3) := by decide +kernel
theorem dX5_head_10 : decode cX5_head 10 = .ok (.aconst_null, 1) := by decide +kernel
theorem dX5_head_11 : decode cX5_head 11 = .ok (.goto 14, 3) := by decide +kernel
theorem dX5_head_14 : decode cX5_head 14 = .ok (.aload_n 0, 1) := by decide +kernel
theorem dX5_head_15 : decode cX5_head 15 = .ok (.getfield 10, 3) := by decide +kernel
theorem dX5_head_18 : decode cX5_head 18 = .ok (.iconst 0, 1) := by decide +kernel
theorem dX5_head_19 : decode cX5_head 19 = .ok (.invokevirtual 24, 3) := by decide +kernel
theorem dX5_head_22 : decode cX5_head 22 = .ok (.checkcast 28, 3) := by decide +kernel
theorem dX5_head_25 : decode cX5_head 25 = .ok (.areturn, 1) := by decide +kernel
theorem dX5_add_0 : decode cX5_add 0 = .ok (.aload_n 0, 1) := by decide +kernel
theorem dX5_add_1 : decode cX5_add 1 = .ok (.aload_n 0, 1) := by decide +kernel
theorem dX5_add_2 : decode cX5_add 2 = .ok (.getfield 10, 3) := by decide +kernel
theorem dX5_add_5 : decode cX5_add 5 = .ok (.invokevirtual 16, 3) := by decide +kernel
theorem dX5_add_8 : decode cX5_add 8 = .ok (.aload_n 1, 1) := by decide +kernel
theorem dX5_add_9 : decode cX5_add 9 = .ok (.invokevirtual 30, 3) := by decide +kernel
theorem dX5_add_12 : decode cX5_add 12 = .ok (.return_, 1) := by decide +kernel
theorem dX5_remove_0 : decode cX5_remove 0 = .ok (.iconst 0, 1) := by decide +kernel
theorem dX5_remove_1 : decode cX5_remove 1 = .ok (.istore_n 2, 1) := by decide +kernel
theorem dX5_remove_2 : decode cX5_remove 2 = .ok (.iload_n 2, 1) := by decide +kernel
theorem dX5_remove_3 : decode cX5_remove 3 = .ok (.aload_n 0, 1) := by decide +kernel
theorem dX5_remove_4 : decode cX5_remove 4 = .ok (.getfield 10, 3) := by decide +kernel
theorem dX5_remove_7 : decode cX5_remove 7 = .ok (.invokevirtual 16, 3) := by decide +kernel
theorem dX5_remove_10 : decode cX5_remove 10 = .ok (.if_icmp .ge 31, 3) := by decide +kernel
theorem dX5_remove_13 : decode cX5_remove 13 = .ok (.aload_n 0, 1) := by decide +kernel
theorem dX5_remove_14 : decode cX5_remove 14 = .ok (.getfield 10, 3) := by decide +kernel
theorem dX5_remove_17 : decode cX5_remove 17 = .ok (.iload_n 2, 1) := by decide +kernel
theorem dX5_remove_18 : decode cX5_remove 18 = .ok (.invokevirtual 24, 3) := by decide +kernel
theorem dX5_remove_21 : decode cX5_remove 21 = .ok (.aload_n 1, 1) := by decide +kernel
theorem dX5_remove_22 : decode cX5_remove 22 = .ok (.if_acmp .ne 13, 3) := by decide +kernel
theorem dX5_remove_25 : decode cX5_remove 25 = .ok (.aload_n 0, 1) := by decide +kernel
theorem dX5_remove_26 : decode cX5_remove 26 = .ok (.getfield 10, 3) := by decide +kernel
theorem dX5_remove_29 : decode cX5_remove 29 = .ok (.iload_n 2, 1) := by decide +kernel
theorem dX5_remove_30 : decode cX5_remove 30 = .ok (.invokevirtual 34, 3) := by decide +kernel
theorem dX5_remove_33 : decode cX5_remove 33 = .ok (.pop, 1) := by decide +kernel
theorem dX5_remove_34 : decode cX5_remove 34 = .ok (.return_, 1) := by decide +kernel
theorem dX5_remove_35 : decode cX5_remove 35 = .ok (.iinc 2 1, 3) := by decide +kernel
theorem dX5_remove_38 : decode cX5_remove 38 = .ok (.goto (-36), 3) := by decide +kernel
theorem dX5_remove_41 : decode cX5_remove 41 = .ok (.return_, 1) := by decide +kernel
theorem dX5_orderAnew_0 : decode cX5_orderAnew 0 = .ok (.iconst 1, 1) := by decide +kernel
theorem dX5_orderAnew_1 : decode cX5_orderAnew 1 = .ok (.istore_n 1, 1) := by decide +kernel
theorem dX5_orderAnew_2 : decode cX5_orderAnew 2 = .ok (.iload_n 1, 1) := by decide +kernel
theorem dX5_orderAnew_3 : decode cX5_orderAnew 3 = .ok (.aload_n 0, 1) := by decide +kernel
theorem dX5_orderAnew_4 : decode cX5_orderAnew 4 = .ok (.getfield 10, 3) := by decide +kernel
theorem dX5_orderAnew_7 : decode cX5_orderAnew 7 = .ok (.invokevirtual 16, 3) := by decide +kernel
theorem dX5_orderAnew_10 : decode cX5_orderAnew 10 = .ok (.if_icmp .ge 25, 3) := by decide +kernel
theorem dX5_orderAnew_13 : decode cX5_orderAnew 13 = .ok (.aload_n 0, 1) := by decide +kernel
theorem dX5_orderAnew_14 : decode cX5_orderAnew 14 = .ok (.iload_n 1, 1) := by decide +kernel
theorem dX5_orderAnew_15 : decode cX5_orderAnew 15 = .ok (.aload_n 0, 1) := by decide +kernel
theorem dX5_orderAnew_16 : decode cX5_orderAnew 16 = .ok (.getfield 10, 3) := by decide +kernel
theorem dX5_orderAnew_19 : decode cX5_orderAnew 19 = .ok (.iload_n 1, 1) := by decide +kernel
theorem dX5_orderAnew_20 : decode cX5_orderAnew 20 = .ok (.invokevirtual 34, 3) := by decide +kernel
theorem dX5_orderAnew_23 : decode cX5_orderAnew 23 = .ok (.checkcast 28, 3) := by decide +kernel
theorem dX5_orderAnew_26 : decode cX5_orderAnew 26 = .ok (.invokevirtual 30, 3) := by decide +kernel
theorem dX5_orderAnew_29 : decode cX5_orderAnew 29 = .ok (.iinc 1 1, 3) := by decide +kernel
theorem dX5_orderAnew_32 : decode cX5_orderAnew 32 = .ok (.goto (-30), 3) := by decide +kernel
theorem dX5_orderAnew_35 : decode cX5_orderAnew 35 = .ok (.return_, 1) := by decide +kernel
theorem dX5_insertBelow_0 : decode cX5_insertBelow 0 = .ok (.iload_n 1, 1) := by decide +kernel
theorem dX5_insertBelow_1 : decode cX5_insertBelow 1 = .ok (.istore_n 3, 1) := by decide +kernel
theorem dX5_insertBelow_2 : decode cX5_insertBelow 2 = .ok (.iload_n 3, 1) := by decide +kernel
theorem dX5_insertBelow_3 : decode cX5_insertBelow 3 = .ok (.ifCond .le 29, 3) := by decide +kernel
theorem dX5_insertBelow_6 : decode cX5_insertBelow 6 = .ok (.aload_n 2, 1) := by decide +kernel
theorem dX5_insertBelow_7 : decode cX5_insertBelow 7 = .ok (.aload_n 0, 1) := by decide +kernel
theorem dX5_insertBelow_8 : decode cX5_insertBelow 8 = .ok (.getfield 10, 3) := by decide +kernel
theorem dX5_insertBelow_11 : decode cX5_insertBelow 11 = .ok (.iload_n 3, 1) := by decide +kernel
theorem dX5_insertBelow_12 : decode cX5_insertBelow 12 = .ok (.iconst 1, 1) := by decide +kernel
theorem dX5_insertBelow_13 : decode cX5_insertBelow 13 = .ok (.isub, 1) := by decide +kernel
theorem dX5_insertBelow_14 : decode cX5_insertBelow 14 = .ok (.invokevirtual 24, 3) := by decide +kernel
theorem dX5_insertBelow_17 : decode cX5_insertBelow 17 = .ok (.checkcast 28, 3) := by decide +kernel
theorem dX5_insertBelow_20 : decode cX5_insertBelow 20 = .ok (.invokevirtual 37, 3) := by decide +kernel
theorem dX5_insertBelow_23 : decode cX5_insertBelow 23 = .ok (.ifCond .eq 9, 3) := by decide +kernel
theorem dX5_insertBelow_26 : decode cX5_insertBelow 26 = .ok (.iinc 3 (-1), 3) := by decide +kernel
theorem dX5_insertBelow_29 : decode cX5_insertBelow 29 = .ok (.goto (-27), 3) := by decide +kernel
theorem dX5_insertBelow_32 : decode cX5_insertBelow 32 = .ok (.aload_n 0, 1) := by decide +kernel
theorem dX5_insertBelow_33 : decode cX5_insertBelow 33 = .ok (.getfield 10, 3) := by decide +kernel
theorem dX5_insertBelow_36 : decode cX5_insertBelow 36 = .ok (.iload_n 3, 1) := by decide +kernel
theorem dX5_insertBelow_37 : decode cX5_insertBelow 37 = .ok (.aload_n 2, 1) := by decide +kernel
theorem dX5_insertBelow_38 : decode cX5_insertBelow 38 = .ok (.invokevirtual 41, 3) := by decide +kernel
theorem dX5_insertBelow_41 : decode cX5_insertBelow 41 = .ok (.return_, 1) := by decide +kernel
theorem dX6_init_0 : decode cX6_init 0 = .ok (.aload_n 0, 1) := by decide +kernel
theorem dX6_init_1 : decode cX6_init 1 = .ok (.invokespecial 1, 3) := by decide +kernel
theorem dX6_init_4 : decode cX6_init 4 = .ok (.aload_n 0, 1) := by decide +kernel
theorem dX6_init_5 : decode cX6_init 5 = .ok (.iconst 3, 1) := by decide +kernel
theorem dX6_init_6 : decode cX6_init 6 = .ok (.newarray .int, 2) := by decide +kernel
theorem dX6_init_8 : decode cX6_init 8 = .ok (.dup, 1) := by decide +kernel
theorem dX6_init_9 : decode cX6_init 9 = .ok (.iconst 0, 1) := by decide +kernel
theorem dX6_init_10 : decode cX6_init 10 = .ok (.sipush 240, 3) := by decide +kernel
theorem dX6_init_13 : decode cX6_init 13 = .ok (.iastore, 1) := by decide +kernel
theorem dX6_init_14 : decode cX6_init 14 = .ok (.dup, 1) := by decide +kernel
theorem dX6_init_15 : decode cX6_init 15 = .ok (.iconst 1, 1) := by decide +kernel
theorem dX6_init_16 : decode cX6_init 16 = .ok (.bipush 120, 2) := by decide +kernel
theorem dX6_init_18 : decode cX6_init 18 = .ok (.iastore, 1) := by decide +kernel
theorem dX6_init_19 : decode cX6_init 19 = .ok (.dup, 1) := by decide +kernel
theorem dX6_init_20 : decode cX6_init 20 = .ok (.iconst 2, 1) := by decide +kernel
theorem dX6_init_21 : decode cX6_init 21 = .ok (.bipush 30, 2) := by decide +kernel
theorem dX6_init_23 : decode cX6_init 23 = .ok (.iastore, 1) := by decide +kernel
theorem dX6_init_24 : decode cX6_init 24 = .ok (.putfield 7, 3) := by decide +kernel
theorem dX6_init_27 : decode cX6_init 27 = .ok (.aload_n 0, 1) := by decide +kernel
theorem dX6_init_28 : decode cX6_init 28 = .ok (.bipush 8, 2) := by decide +kernel
theorem dX6_init_30 : decode cX6_init 30 = .ok (.anewarray 13, 3) := by decide +kernel
theorem dX6_init_33 : decode cX6_init 33 = .ok (.putfield 15, 3) := by decide +kernel
theorem dX6_init_36 : decode cX6_init 36 = .ok (.iconst 0, 1) := by decide +kernel
theorem dX6_init_37 : decode cX6_init 37 = .ok (.istore_n 1, 1) := by decide +kernel
theorem dX6_init_38 : decode cX6_init 38 = .ok (.iload_n 1, 1) := by decide +kernel
theorem dX6_init_39 : decode cX6_init 39 = .ok (.bipush 8, 2) := by decide +kernel
theorem dX6_init_41 : decode cX6_init 41 = .ok (.if_icmp .ge 26, 3) := by decide +kernel
theorem dX6_init_44 : decode cX6_init 44 = .ok (.aload_n 0, 1) := by decide +kernel
theorem dX6_init_45 : decode cX6_init 45 = .ok (.getfield 15, 3) := by decide +kernel
theorem dX6_init_48 : decode cX6_init 48 = .ok (.iload_n 1, 1) := by decide +kernel
theorem dX6_init_49 : decode cX6_init 49 = .ok (.new 13, 3) := by decide +kernel
theorem dX6_init_52 : decode cX6_init 52 = .ok (.dup, 1) := by decide +kernel
theorem dX6_init_53 : decode cX6_init 53 = .ok (.aload_n 0, 1) := by decide +kernel
theorem dX6_init_54 : decode cX6_init 54 = .ok (.getfield 7, 3) := by decide +kernel
theorem dX6_init_57 : decode cX6_init 57 = .ok (.invokespecial 19, 3) := by decide +kernel
theorem dX6_init_60 : decode cX6_init 60 = .ok (.aastore, 1) := by decide +kernel
theorem dX6_init_61 : decode cX6_init 61 = .ok (.iinc 1 1, 3) := by decide +kernel
theorem dX6_init_64 : decode cX6_init 64 = .ok (.goto (-26), 3) := by decide +kernel
theorem dX6_init_67 : decode cX6_init 67 = .ok (.aload_n 0, 1) := by decide +kernel
theorem dX6_init_68 : decode cX6_init 68 = .ok (.bipush 6, 2) := by decide +kernel
theorem dX6_init_70 : decode cX6_init 70 = .ok (.anewarray 22, 3) := by decide +kernel
theorem dX6_init_73 : decode cX6_init 73 = .ok (.putfield 24, 3) := by decide +kernel
theorem dX6_init_76 : decode cX6_init 76 = .ok (.iconst 0, 1) := by decide +kernel
theorem dX6_init_77 : decode cX6_init 77 = .ok (.istore_n 1, 1) := by decide +kernel
theorem dX6_init_78 : decode cX6_init 78 = .ok (.iload_n 1, 1) := by decide +kernel
theorem dX6_init_79 : decode cX6_init 79 = .ok (.bipush 6, 2) := by decide +kernel
theorem dX6_init_81 : decode cX6_init 81 = .ok (.if_icmp .ge 22, 3) := by decide +kernel
theorem dX6_init_84 : decode cX6_init 84 = .ok (.aload_n 0, 1) := by decide +kernel
theorem dX6_init_85 : decode cX6_init 85 = .ok (.getfield 24, 3) := by decide +kernel
theorem dX6_init_88 : decode cX6_init 88 = .ok (.iload_n 1, 1) := by decide +kernel
theorem dX6_init_89 : decode cX6_init 89 = .ok (.new 22, 3) := by decide +kernel
theorem dX6_init_92 : decode cX6_init 92 = .ok (.dup, 1) := by decide +kernel
theorem dX6_init_93 : decode cX6_init 93 = .ok (.invokespecial 28, 3) := by decide +kernel
theorem dX6_init_96 : decode cX6_init 96 = .ok (.aastore, 1) := by decide +kernel
theorem dX6_init_97 : decode cX6_init 97 = .ok (.iinc 1 1, 3) := by decide +kernel
theorem dX6_init_100 : decode cX6_init 100 = .ok (.goto (-22), 3) := by decide +kernel
theorem dX6_init_103 : decode cX6_init 103 = .ok (.aload_n 0, 1) := by decide +kernel
theorem dX6_init_104 : decode cX6_init 104 = .ok (.new 29, 3) := by decide +kernel
theorem dX6_init_107 : decode cX6_init 107 = .ok (.dup, 1) := by decide +kernel
theorem dX6_init_108 : decode cX6_init 108 = .ok (.invokespecial 31, 3) := by decide +kernel
theorem dX6_init_111 : decode cX6_init 111 = .ok (.putfield 32, 3) := by decide +kernel
theorem dX6_init_114 : decode cX6_init 114 = .ok (.aload_n 0, 1) := by decide +kernel
theorem dX6_init_115 : decode cX6_init 115 = .ok (.new 29, 3) := by decide +kernel
theorem dX6_init_118 : decode cX6_init 118 = .ok (.dup, 1) := by decide +kernel
theorem dX6_init_119 : decode cX6_init 119 = .ok (.invokespecial 31, 3) := by decide +kernel
theorem dX6_init_122 : decode cX6_init 122 = .ok (.putfield 36, 3) := by decide +kernel
theorem dX6_init_125 : decode cX6_init 125 = .ok (.aload_n 0, 1) := by decide +kernel
theorem dX6_init_126 : decode cX6_init 126 = .ok (.new 29, 3) := by decide +kernel
theorem dX6_init_129 : decode cX6_init 129 = .ok (.dup, 1) := by decide +kernel
theorem dX6_init_130 : decode cX6_init 130 = .ok (.invokespecial 31, 3) := by decide +kernel
theorem dX6_init_133 : decode cX6_init 133 = .ok (.putfield 39, 3) := by decide +kernel
theorem dX6_init_136 : decode cX6_init 136 = .ok (.aload_n 0, 1) := by decide +kernel
theorem dX6_init_137 : decode cX6_init 137 = .ok (.new 29, 3) := by decide +kernel
theorem dX6_init_140 : decode cX6_init 140 = .ok (.dup, 1) := by decide +kernel
theorem dX6_init_141 : decode cX6_init 141 = .ok (.invokespecial 31, 3) := by decide +kernel
theorem dX6_init_144 : decode cX6_init 144 = .ok (.putfield 42, 3) := by decide +kernel
theorem dX6_init_147 : decode cX6_init 147 = .ok (.aload_n 0, 1) := by decide +kernel
theorem dX6_init_148 : decode cX6_init 148 = .ok (.bipush 10, 2) := by decide +kernel
theorem dX6_init_150 : decode cX6_init 150 = .ok (.newarray .int, 2) := by decide +kernel
theorem dX6_init_152 : decode cX6_init 152 = .ok (.putfield 45, 3) := by decide +kernel
theorem dX6_init_155 : decode cX6_init 155 = .ok (.aload_n 0, 1) := by decide +kernel
theorem dX6_init_156 : decode cX6_init 156 = .ok (.bipush 8, 2) := by decide +kernel
theorem dX6_init_158 : decode cX6_init 158 = .ok (.newarray .int, 2) := by decide +kernel
theorem dX6_init_160 : decode cX6_init 160 = .ok (.putfield 48, 3) := by decide +kernel
theorem dX6_init_163 : decode cX6_init 163 = .ok (.return_, 1) := by decide +kernel
theorem dX6_pass_0 : decode cX6_pass 0 = .ok (.iload_n 1, 1) := by decide +kernel
theorem dX6_pass_1 : decode cX6_pass 1 = .ok (.iconst 1, 1) := by decide +kernel
theorem dX6_pass_2 : decode cX6_pass 2 = .ok (.sipush 600, 3) := by decide +kernel
theorem dX6_pass_5 : decode cX6_pass 5 = .ok (.invokestatic 51, 3) := by decide +kernel
theorem dX6_pass_8 : decode cX6_pass 8 = .ok (.ifCond .ne 13, 3) := by decide +kernel
theorem dX6_pass_11 : decode cX6_pass 11 = .ok (.new 55, 3) := by decide +kernel
theorem dX6_pass_14 : decode cX6_pass 14 = .ok (.dup, 1) := by decide +kernel
theorem dX6_pass_15 : decode cX6_pass 15 = .ok (.ldc 57, 2) := by decide +kernel
theorem dX6_pass_17 : decode cX6_pass 17 = .ok (.invokespecial 59, 3) := by decide +kernel
theorem dX6_pass_20 : decode cX6_pass 20 = .ok (.athrow, 1) := by decide +kernel
theorem dX6_pass_21 : decode cX6_pass 21 = .ok (.iconst 0, 1) := by decide +kernel
theorem dX6_pass_22 : decode cX6_pass 22 = .ok (.istore_n 2, 1) := by decide +kernel
theorem dX6_pass_23 : decode cX6_pass 23 = .ok (.iconst 0, 1) := by decide +kernel
theorem dX6_pass_24 : decode cX6_pass 24 = .ok (.istore_n 3, 1) := by decide +kernel
theorem dX6_pass_25 : decode cX6_pass 25 = .ok (.iload_n 3, 1) := by decide +kernel
theorem dX6_pass_26 : decode cX6_pass 26 = .ok (.aload_n 0, 1) := by decide +kernel
theorem dX6_pass_27 : decode cX6_pass 27 = .ok (.getfield 36, 3) := by decide +kernel
theorem dX6_pass_30 : decode cX6_pass 30 = .ok (.invokevirtual 62, 3) := by decide +kernel
theorem dX6_pass_33 : decode cX6_pass 33 = .ok (.if_icmp .ge 55, 3) := by decide +kernel
theorem dX6_pass_36 : decode cX6_pass 36 = .ok (.aload_n 0, 1) := by decide +kernel
theorem dX6_pass_37 : decode cX6_pass 37 = .ok (.getfield 36, 3) := by decide +kernel
theorem dX6_pass_40 : decode cX6_pass 40 = .ok (.iload_n 3, 1) := by decide +kernel
theorem dX6_pass_41 : decode cX6_pass 41 = .ok (.invokevirtual 66, 3) := by decide +kernel
theorem dX6_pass_44 : decode cX6_pass 44 = .ok (.checkcast 70, 3) := by decide +kernel
theorem dX6_pass_47 : decode cX6_pass 47 = .ok (.astore 4, 2) := by decide +kernel
theorem dX6_pass_49 : decode cX6_pass 49 = .ok (.aload 4, 2) := by decide +kernel
theorem dX6_pass_51 : decode cX6_pass 51 = .ok (.getfield 72, 3) := by decide +kernel
theorem dX6_pass_54 : decode cX6_pass 54 = .ok (.bipush 111, 2) := by decide +kernel
theorem dX6_pass_56 : decode cX6_pass 56 = .ok (.if_icmp .ne 26, 3) := by decide +kernel
theorem dX6_pass_59 : decode cX6_pass 59 = .ok (.aload_n 0, 1) := by decide +kernel
theorem dX6_pass_60 : decode cX6_pass 60 = .ok (.dup, 1) := by decide +kernel
theorem dX6_pass_61 : decode cX6_pass 61 = .ok (.getfield 76, 3) := by decide +kernel
theorem dX6_pass_64 : decode cX6_pass 64 = .ok (.iload_n 1, 1) := by decide +kernel
theorem dX6_pass_65 : decode cX6_pass 65 = .ok (.i2l, 1) := by decide +kernel
theorem dX6_pass_66 : decode cX6_pass 66 = .ok (.ladd, 1) := by decide +kernel
theorem dX6_pass_67 : decode cX6_pass 67 = .ok (.putfield 76, 3) := by decide +kernel
theorem dX6_pass_70 : decode cX6_pass 70 = .ok (.aload 4, 2) := by decide +kernel
theorem dX6_pass_72 : decode cX6_pass 72 = .ok (.iload_n 1, 1) := by decide +kernel
theorem dX6_pass_73 : decode cX6_pass 73 = .ok (.invokevirtual 80, 3) := by decide +kernel
theorem dX6_pass_76 : decode cX6_pass 76 = .ok (.ifCond .eq 6, 3) := by decide +kernel
theorem dX6_pass_79 : decode cX6_pass 79 = .ok (.iinc 2 1, 3) := by decide +kernel
theorem dX6_pass_82 : decode cX6_pass 82 = .ok (.iinc 3 1, 3) := by decide +kernel
theorem dX6_pass_85 : decode cX6_pass 85 = .ok (.goto (-60), 3) := by decide +kernel
theorem dX6_pass_88 : decode cX6_pass 88 = .ok (.aload_n 0, 1) := by decide +kernel
theorem dX6_pass_89 : decode cX6_pass 89 = .ok (.dup, 1) := by decide +kernel
theorem dX6_pass_90 : decode cX6_pass 90 = .ok (.getfield 84, 3) := by decide +kernel
theorem dX6_pass_93 : decode cX6_pass 93 = .ok (.iload_n 1, 1) := by decide +kernel
theorem dX6_pass_94 : decode cX6_pass 94 = .ok (.iadd, 1) := by decide +kernel
theorem dX6_pass_95 : decode cX6_pass 95 = .ok (.putfield 84, 3) := by decide +kernel
theorem dX6_pass_98 : decode cX6_pass 98 = .ok (.aload_n 0, 1) := by decide +kernel
theorem dX6_pass_99 : decode cX6_pass 99 = .ok (.dup, 1) := by decide +kernel
theorem dX6_pass_100 : decode cX6_pass 100 = .ok (.getfield 88, 3) := by decide +kernel
theorem dX6_pass_103 : decode cX6_pass 103 = .ok (.iload_n 2, 1) := by decide +kernel
theorem dX6_pass_104 : decode cX6_pass 104 = .ok (.iadd, 1) := by decide +kernel
theorem dX6_pass_105 : decode cX6_pass 105 = .ok (.putfield 88, 3) := by decide +kernel
theorem dX6_pass_108 : decode cX6_pass 108 = .ok (.iload_n 2, 1) := by decide +kernel
theorem dX6_pass_109 : decode cX6_pass 109 = .ok (.ireturn, 1) := by decide +kernel
theorem dX6_time_0 : decode cX6_time 0 = .ok (.aload_n 0, 1) := by decide +kernel
theorem dX6_time_1 : decode cX6_time 1 = .ok (.getfield 84, 3) := by decide +kernel
theorem dX6_time_4 : decode cX6_time 4 = .ok (.ireturn, 1) := by decide +kernel
theorem dX6_setClass_0 : decode cX6_setClass 0 = .ok (.iload_n 1, 1) := by decide +kernel
theorem dX6_setClass_1 : decode cX6_setClass 1 = .ok (.iconst 0, 1) := by decide +kernel
theorem dX6_setClass_2 : decode cX6_setClass 2 = .ok (.bipush 7, 2) := by decide +kernel
theorem dX6_setClass_4 : decode cX6_setClass 4 = .ok (.invokestatic 51, 3) := by decide +kernel
theorem dX6_setClass_7 : decode cX6_setClass 7 = .ok (.ifCond .eq 12, 3) := by decide +kernel
theorem dX6_setClass_10 : decode cX6_setClass 10 = .ok (.iload_n 2, 1) := by decide +kernel
theorem dX6_setClass_11 : decode cX6_setClass 11 = .ok (.iconst 0, 1) := by decide +kernel
theorem dX6_setClass_12 : decode cX6_setClass 12 = .ok (.iconst 2, 1) := by decide +kernel
theorem dX6_setClass_13 : decode cX6_setClass 13 = .ok (.invokestatic 51, 3) := by decide +kernel
theorem dX6_setClass_16 : decode cX6_setClass 16 = .ok (.ifCond .ne 13, 3) := by decide +kernel
theorem dX6_setClass_19 : decode cX6_setClass 19 = .ok (.new 55, 3) := by decide +kernel
theorem dX6_setClass_22 : decode cX6_setClass 22 = .ok (.dup, 1) := by decide +kernel
theorem dX6_setClass_23 : decode cX6_setClass 23 = .ok (.ldc 91, 2) := by decide +kernel
theorem dX6_setClass_25 : decode cX6_setClass 25 = .ok (.invokespecial 59, 3) := by decide +kernel
theorem dX6_setClass_28 : decode cX6_setClass 28 = .ok (.athrow, 1) := by decide +kernel
theorem dX6_setClass_29 : decode cX6_setClass 29 = .ok (.aload_n 0, 1) := by decide +kernel
theorem dX6_setClass_30 : decode cX6_setClass 30 = .ok (.getfield 15, 3) := by decide +kernel
theorem dX6_setClass_33 : decode cX6_setClass 33 = .ok (.iload_n 1, 1) := by decide +kernel
theorem dX6_setClass_34 : decode cX6_setClass 34 = .ok (.aaload, 1) := by decide +kernel
theorem dX6_setClass_35 : decode cX6_setClass 35 = .ok (.getfield 93, 3) := by decide +kernel
theorem dX6_setClass_38 : decode cX6_setClass 38 = .ok (.istore_n 3, 1) := by decide +kernel
theorem dX6_setClass_39 : decode cX6_setClass 39 = .ok (.aload_n 0, 1) := by decide +kernel
theorem dX6_setClass_40 : decode cX6_setClass 40 = .ok (.getfield 15, 3) := by decide +kernel
theorem dX6_setClass_43 : decode cX6_setClass 43 = .ok (.iload_n 1, 1) := by decide +kernel
theorem dX6_setClass_44 : decode cX6_setClass 44 = .ok (.aaload, 1) := by decide +kernel
theorem dX6_setClass_45 : decode cX6_setClass 45 = .ok (.iload_n 2, 1) := by decide +kernel
theorem dX6_setClass_46 : decode cX6_setClass 46 = .ok (.putfield 93, 3) := by decide +kernel
theorem dX6_setClass_49 : decode cX6_setClass 49 = .ok (.aload_n 0, 1) := by decide +kernel
theorem dX6_setClass_50 : decode cX6_setClass 50 = .ok (.invokevirtual 96, 3) := by decide +kernel
theorem dX6_setClass_53 : decode cX6_setClass 53 = .ok (.iload_n 3, 1) := by decide +kernel
theorem dX6_setClass_54 : decode cX6_setClass 54 = .ok (.ireturn, 1) := by decide +kernel
theorem dX6_setPromise_0 : decode cX6_setPromise 0 = .ok (.iload_n 1, 1) := by decide +kernel
theorem dX6_setPromise_1 : decode cX6_setPromise 1 = .ok (.iconst 0, 1) := by decide +kernel
theorem dX6_setPromise_2 : decode cX6_setPromise 2 = .ok (.iconst 2, 1) := by decide +kernel
theorem dX6_setPromise_3 : decode cX6_setPromise 3 = .ok (.invokestatic 51, 3) := by decide +kernel
theorem dX6_setPromise_6 : decode cX6_setPromise 6 = .ok (.ifCond .eq 14, 3) := by decide +kernel
theorem dX6_setPromise_9 : decode cX6_setPromise 9 = .ok (.iload_n 2, 1) := by decide +kernel
theorem dX6_setPromise_10 : decode cX6_setPromise 10 = .ok (.iconst 1, 1) := by decide +kernel
theorem dX6_setPromise_11 : decode cX6_setPromise 11 = .ok (.sipush 9999, 3) := by decide +kernel
theorem dX6_setPromise_14 : decode cX6_setPromise 14 = .ok (.invokestatic 51, 3) := by decide +kernel
theorem dX6_setPromise_17 : decode cX6_setPromise 17 = .ok (.ifCond .ne 13, 3) := by decide +kernel
theorem dX6_setPromise_20 : decode cX6_setPromise 20 = .ok (.new 55, 3) := by decide +kernel
theorem dX6_setPromise_23 : decode cX6_setPromise 23 = .ok (.dup, 1) := by decide +kernel
theorem dX6_setPromise_24 : decode cX6_setPromise 24 = .ok (.ldc 99, 2) := by decide +kernel
theorem dX6_setPromise_26 : decode cX6_setPromise 26 = .ok (.invokespecial 59, 3) := by decide +kernel
theorem dX6_setPromise_29 : decode cX6_setPromise 29 = .ok (.athrow, 1) := by decide +kernel
theorem dX6_setPromise_30 : decode cX6_setPromise 30 = .ok (.aload_n 0, 1) := by decide +kernel
theorem dX6_setPromise_31 : decode cX6_setPromise 31 = .ok (.getfield 7, 3) := by decide +kernel
theorem dX6_setPromise_34 : decode cX6_setPromise 34 = .ok (.iload_n 1, 1) := by decide +kernel
theorem dX6_setPromise_35 : decode cX6_setPromise 35 = .ok (.iaload, 1) := by decide +kernel
theorem dX6_setPromise_36 : decode cX6_setPromise 36 = .ok (.istore_n 3, 1) := by decide +kernel
theorem dX6_setPromise_37 : decode cX6_setPromise 37 = .ok (.aload_n 0, 1) := by decide +kernel
theorem dX6_setPromise_38 : decode cX6_setPromise 38 = .ok (.getfield 7, 3) := by decide +kernel
theorem dX6_setPromise_41 : decode cX6_setPromise 41 = .ok (.iload_n 1, 1) := by decide +kernel
theorem dX6_setPromise_42 : decode cX6_setPromise 42 = .ok (.iload_n 2, 1) := by decide +kernel
theorem dX6_setPromise_43 : decode cX6_setPromise 43 = .ok (.iastore, 1) := by decide +kernel
theorem dX6_setPromise_44 : decode cX6_setPromise 44 = .ok (.aload_n 0, 1) := by decide +kernel
theorem dX6_setPromise_45 : decode cX6_setPromise 45 = .ok (.invokevirtual 96, 3) := by decide +kernel
theorem dX6_setPromise_48 : decode cX6_setPromise 48 = .ok (.iload_n 3, 1) := by decide +kernel
theorem dX6_setPromise_49 : decode cX6_setPromise 49 = .ok (.ireturn, 1) := by decide +kernel
theorem dX6_mail_0 : decode cX6_mail 0 = .ok (.iload_n 1, 1) := by decide +kernel
theorem dX6_mail_1 : decode cX6_mail 1 = .ok (.iconst 0, 1) := by decide +kernel
theorem dX6_mail_2 : decode cX6_mail 2 = .ok (.bipush 7, 2) := by decide +kernel
theorem dX6_mail_4 : decode cX6_mail 4 = .ok (.invokestatic 51, 3) := by decide +kernel
theorem dX6_mail_7 : decode cX6_mail 7 = .ok (.ifCond .eq 29, 3) := by decide +kernel
theorem dX6_mail_10 : decode cX6_mail 10 = .ok (.iload_n 2, 1) := by decide +kernel
theorem dX6_mail_11 : decode cX6_mail 11 = .ok (.iconst 0, 1) := by decide +kernel
theorem dX6_mail_12 : decode cX6_mail 12 = .ok (.bipush 19, 2) := by decide +kernel
theorem dX6_mail_14 : decode cX6_mail 14 = .ok (.invokestatic 51, 3) := by decide +kernel
theorem dX6_mail_17 : decode cX6_mail 17 = .ok (.ifCond .eq 19, 3) := by decide +kernel
theorem dX6_mail_20 : decode cX6_mail 20 = .ok (.iload 4, 2) := by decide +kernel
theorem dX6_mail_22 : decode cX6_mail 22 = .ok (.invokestatic 101, 3) := by decide +kernel
theorem dX6_mail_25 : decode cX6_mail 25 = .ok (.ifCond .eq 11, 3) := by decide +kernel
theorem dX6_mail_28 : decode cX6_mail 28 = .ok (.iload 5, 2) := by decide +kernel
theorem dX6_mail_30 : decode cX6_mail 30 = .ok (.invokestatic 104, 3) := by decide +kernel
theorem dX6_mail_33 : decode cX6_mail 33 = .ok (.ifCond .ne 13, 3) := by decide +kernel
theorem dX6_mail_36 : decode cX6_mail 36 = .ok (.new 55, 3) := by decide +kernel
theorem dX6_mail_39 : decode cX6_mail 39 = .ok (.dup, 1) := by decide +kernel
theorem dX6_mail_40 : decode cX6_mail 40 = .ok (.ldc 107, 2) := by decide +kernel
theorem dX6_mail_42 : decode cX6_mail 42 = .ok (.invokespecial 59, 3) := by decide +kernel
theorem dX6_mail_45 : decode cX6_mail 45 = .ok (.athrow, 1) := by decide +kernel
theorem dX6_mail_46 : decode cX6_mail 46 = .ok (.iload_n 3, 1) := by decide +kernel
theorem dX6_mail_47 : decode cX6_mail 47 = .ok (.iconst (-1), 1) := by decide +kernel
theorem dX6_mail_48 : decode cX6_mail 48 = .ok (.if_icmp .eq 30, 3) := by decide +kernel
theorem dX6_mail_51 : decode cX6_mail 51 = .ok (.iload_n 3, 1) := by decide +kernel
theorem dX6_mail_52 : decode cX6_mail 52 = .ok (.iconst 0, 1) := by decide +kernel
theorem dX6_mail_53 : decode cX6_mail 53 = .ok (.aload_n 0, 1) := by decide +kernel
theorem dX6_mail_54 : decode cX6_mail 54 = .ok (.getfield 32, 3) := by decide +kernel
theorem dX6_mail_57 : decode cX6_mail 57 = .ok (.invokevirtual 62, 3) := by decide +kernel
theorem dX6_mail_60 : decode cX6_mail 60 = .ok (.iconst 1, 1) := by decide +kernel
theorem dX6_mail_61 : decode cX6_mail 61 = .ok (.isub, 1) := by decide +kernel
theorem dX6_mail_62 : decode cX6_mail 62 = .ok (.invokestatic 51, 3) := by decide +kernel
theorem dX6_mail_65 : decode cX6_mail 65 = .ok (.ifCond .ne 13, 3) := by decide +kernel
theorem dX6_mail_68 : decode cX6_mail 68 = .ok (.new 109, 3) := by decide +kernel
theorem dX6_mail_71 : decode cX6_mail 71 = .ok (.dup, 1) := by decide +kernel
theorem dX6_mail_72 : decode cX6_mail 72 = .ok (.ldc 111, 2) := by decide +kernel
theorem dX6_mail_74 : decode cX6_mail 74 = .ok (.invokespecial 113, 3) := by decide +kernel
theorem dX6_mail_77 : decode cX6_mail 77 = .ok (.athrow, 1) := by decide +kernel
theorem dX6_mail_78 : decode cX6_mail 78 = .ok (.aload_n 0, 1) := by decide +kernel
theorem dX6_mail_79 : decode cX6_mail 79 = .ok (.getfield 15, 3) := by decide +kernel
theorem dX6_mail_82 : decode cX6_mail 82 = .ok (.iload_n 1, 1) := by decide +kernel
theorem dX6_mail_83 : decode cX6_mail 83 = .ok (.aaload, 1) := by decide +kernel
theorem dX6_mail_84 : decode cX6_mail 84 = .ok (.astore 6, 2) := by decide +kernel
theorem dX6_mail_86 : decode cX6_mail 86 = .ok (.aload_n 0, 1) := by decide +kernel
theorem dX6_mail_87 : decode cX6_mail 87 = .ok (.aload 6, 2) := by decide +kernel
theorem dX6_mail_89 : decode cX6_mail 89 = .ok (.iload_n 2, 1) := by decide +kernel
theorem dX6_mail_90 : decode cX6_mail 90 = .ok (.iload_n 3, 1) := by decide +kernel
theorem dX6_mail_91 : decode cX6_mail 91 = .ok (.invokevirtual 114, 3) := by decide +kernel
theorem dX6_mail_94 : decode cX6_mail 94 = .ok (.astore 7, 2) := by decide +kernel
theorem dX6_mail_96 : decode cX6_mail 96 = .ok (.aload_n 0, 1) := by decide +kernel
theorem dX6_mail_97 : decode cX6_mail 97 = .ok (.getfield 32, 3) := by decide +kernel
theorem dX6_mail_100 : decode cX6_mail 100 = .ok (.invokevirtual 62, 3) := by decide +kernel
theorem dX6_mail_103 : decode cX6_mail 103 = .ok (.bipush 80, 2) := by decide +kernel
theorem dX6_mail_105 : decode cX6_mail 105 = .ok (.if_icmp .ge 20, 3) := by decide +kernel
theorem dX6_mail_108 : decode cX6_mail 108 = .ok (.aload 7, 2) := by decide +kernel
theorem dX6_mail_110 : decode cX6_mail 110 = .ok (.ifnonnull 25, 3) := by decide +kernel
theorem dX6_mail_113 : decode cX6_mail 113 = .ok (.aload_n 0, 1) := by decide +kernel
theorem dX6_mail_114 : decode cX6_mail 114 = .ok (.getfield 36, 3) := by decide +kernel
theorem dX6_mail_117 : decode cX6_mail 117 = .ok (.invokevirtual 62, 3) := by decide +kernel
theorem dX6_mail_120 : decode cX6_mail 120 = .ok (.bipush 40, 2) := by decide +kernel
theorem dX6_mail_122 : decode cX6_mail 122 = .ok (.if_icmp .lt 13, 3) := by decide +kernel
theorem dX6_mail_125 : decode cX6_mail 125 = .ok (.new 118, 3) := by decide +kernel
theorem dX6_mail_128 : decode cX6_mail 128 = .ok (.dup, 1) := by decide +kernel
theorem dX6_mail_129 : decode cX6_mail 129 = .ok (.ldc 120, 2) := by decide +kernel
theorem dX6_mail_131 : decode cX6_mail 131 = .ok (.invokespecial 122, 3) := by decide +kernel
theorem dX6_mail_134 : decode cX6_mail 134 = .ok (.athrow, 1) := by decide +kernel
theorem dX6_mail_135 : decode cX6_mail 135 = .ok (.aload 7, 2) := by decide +kernel
theorem dX6_mail_137 : decode cX6_mail 137 = .ok (.ifnonnull 34, 3) := by decide +kernel
theorem dX6_mail_140 : decode cX6_mail 140 = .ok (.new 70, 3) := by decide +kernel
theorem dX6_mail_143 : decode cX6_mail 143 = .ok (.dup, 1) := by decide +kernel
theorem dX6_mail_144 : decode cX6_mail 144 = .ok (.aload_n 0, 1) := by decide +kernel
theorem dX6_mail_145 : decode cX6_mail 145 = .ok (.getfield 36, 3) := by decide +kernel
theorem dX6_mail_148 : decode cX6_mail 148 = .ok (.invokevirtual 62, 3) := by decide +kernel
theorem dX6_mail_151 : decode cX6_mail 151 = .ok (.aload 6, 2) := by decide +kernel
theorem dX6_mail_153 : decode cX6_mail 153 = .ok (.iload_n 2, 1) := by decide +kernel
theorem dX6_mail_154 : decode cX6_mail 154 = .ok (.iload 4, 2) := by decide +kernel
theorem dX6_mail_156 : decode cX6_mail 156 = .ok (.invokespecial 123, 3) := by decide +kernel
theorem dX6_mail_159 : decode cX6_mail 159 = .ok (.astore 7, 2) := by decide +kernel
theorem dX6_mail_161 : decode cX6_mail 161 = .ok (.aload_n 0, 1) := by decide +kernel
theorem dX6_mail_162 : decode cX6_mail 162 = .ok (.getfield 36, 3) := by decide +kernel
theorem dX6_mail_165 : decode cX6_mail 165 = .ok (.aload 7, 2) := by decide +kernel
theorem dX6_mail_167 : decode cX6_mail 167 = .ok (.invokevirtual 126, 3) := by decide +kernel
theorem dX6_mail_170 : decode cX6_mail 170 = .ok (.pop, 1) := by decide +kernel
theorem dX6_mail_171 : decode cX6_mail 171 = .ok (.aload_n 0, 1) := by decide +kernel
theorem dX6_mail_172 : decode cX6_mail 172 = .ok (.aload 7, 2) := by decide +kernel
theorem dX6_mail_174 : decode cX6_mail 174 = .ok (.invokevirtual 130, 3) := by decide +kernel
theorem dX6_mail_177 : decode cX6_mail 177 = .ok (.aload_n 0, 1) := by decide +kernel
theorem dX6_mail_178 : decode cX6_mail 178 = .ok (.aload 7, 2) := by decide +kernel
theorem dX6_mail_180 : decode cX6_mail 180 = .ok (.iload 5, 2) := by decide +kernel
theorem dX6_mail_182 : decode cX6_mail 182 = .ok (.invokevirtual 134, 3) := by decide +kernel
theorem dX6_mail_185 : decode cX6_mail 185 = .ok (.aload_n 0, 1) := by decide +kernel
theorem dX6_mail_186 : decode cX6_mail 186 = .ok (.aload 7, 2) := by decide +kernel
theorem dX6_mail_188 : decode cX6_mail 188 = .ok (.invokevirtual 138, 3) := by decide +kernel
theorem dX6_mail_191 : decode cX6_mail 191 = .ok (.aload 7, 2) := by decide +kernel
theorem dX6_mail_193 : decode cX6_mail 193 = .ok (.getfield 141, 3) := by decide +kernel
theorem dX6_mail_196 : decode cX6_mail 196 = .ok (.ireturn, 1) := by decide +kernel
theorem dX6_ticketOf_0 : decode cX6_ticketOf 0 = .ok (.iload_n 1, 1) := by decide +kernel
theorem dX6_ticketOf_1 : decode cX6_ticketOf 1 = .ok (.iconst 0, 1) := by decide +kernel
theorem dX6_ticketOf_2 : decode cX6_ticketOf 2 = .ok (.aload_n 0, 1) := by decide +kernel
theorem dX6_ticketOf_3 : decode cX6_ticketOf 3 = .ok (.getfield 32, 3) := by decide +kernel
theorem dX6_ticketOf_6 : decode cX6_ticketOf 6 = .ok (.invokevirtual 62, 3) := by decide +kernel
theorem dX6_ticketOf_9 : decode cX6_ticketOf 9 = .ok (.iconst 1, 1) := by decide +kernel
theorem dX6_ticketOf_10 : decode cX6_ticketOf 10 = .ok (.isub, 1) := by decide +kernel
theorem dX6_ticketOf_11 : decode cX6_ticketOf 11 = .ok (.invokestatic 51, 3) := by decide +kernel
theorem dX6_ticketOf_14 : decode cX6_ticketOf 14 = .ok (.ifCond .ne 13, 3) := by decide +kernel
theorem dX6_ticketOf_17 : decode cX6_ticketOf 17 = .ok (.new 109, 3) := by decide +kernel
theorem dX6_ticketOf_20 : decode cX6_ticketOf 20 = .ok (.dup, 1) := by decide +kernel
theorem dX6_ticketOf_21 : decode cX6_ticketOf 21 = .ok (.ldc 144, 2) := by decide +kernel
theorem dX6_ticketOf_23 : decode cX6_ticketOf 23 = .ok (.invokespecial 113, 3) := by decide +kernel
theorem dX6_ticketOf_26 : decode cX6_ticketOf 26 = .ok (.athrow, 1) := by decide +kernel
theorem dX6_ticketOf_27 : decode cX6_ticketOf 27 = .ok (.aload_n 0, 1) := by decide +kernel
theorem dX6_ticketOf_28 : decode cX6_ticketOf 28 = .ok (.getfield 32, 3) := by decide +kernel
theorem dX6_ticketOf_31 : decode cX6_ticketOf 31 = .ok (.iload_n 1, 1) := by decide +kernel
theorem dX6_ticketOf_32 : decode cX6_ticketOf 32 = .ok (.invokevirtual 66, 3) := by decide +kernel
theorem dX6_ticketOf_35 : decode cX6_ticketOf 35 = .ok (.checkcast 146, 3) := by decide +kernel
theorem dX6_ticketOf_38 : decode cX6_ticketOf 38 = .ok (.getfield 148, 3) := by decide +kernel
theorem dX6_ticketOf_41 : decode cX6_ticketOf 41 = .ok (.getfield 141, 3) := by decide +kernel
theorem dX6_ticketOf_44 : decode cX6_ticketOf 44 = .ok (.ireturn, 1) := by decide +kernel
theorem dX6_mails_0 : decode cX6_mails 0 = .ok (.aload_n 0, 1) := by decide +kernel
theorem dX6_mails_1 : decode cX6_mails 1 = .ok (.getfield 32, 3) := by decide +kernel
theorem dX6_mails_4 : decode cX6_mails 4 = .ok (.invokevirtual 62, 3) := by decide +kernel
theorem dX6_mails_7 : decode cX6_mails 7 = .ok (.ireturn, 1) := by decide +kernel
theorem dX6_mailsOf_0 : decode cX6_mailsOf 0 = .ok (.aload_n 0, 1) := by decide +kernel
theorem dX6_mailsOf_1 : decode cX6_mailsOf 1 = .ok (.iload_n 1, 1) := by decide +kernel
theorem dX6_mailsOf_2 : decode cX6_mailsOf 2 = .ok (.invokevirtual 152, 3) := by decide +kernel
theorem dX6_mailsOf_5 : decode cX6_mailsOf 5 = .ok (.getfield 156, 3) := by decide +kernel
theorem dX6_mailsOf_8 : decode cX6_mailsOf 8 = .ok (.invokevirtual 62, 3) := by decide +kernel
theorem dX6_mailsOf_11 : decode cX6_mailsOf 11 = .ok (.ireturn, 1) := by decide +kernel
theorem dX6_mailAt_0 : decode cX6_mailAt 0 = .ok (.aload_n 0, 1) := by decide +kernel
theorem dX6_mailAt_1 : decode cX6_mailAt 1 = .ok (.iload_n 1, 1) := by decide +kernel
theorem dX6_mailAt_2 : decode cX6_mailAt 2 = .ok (.invokevirtual 152, 3) := by decide +kernel
theorem dX6_mailAt_5 : decode cX6_mailAt 5 = .ok (.astore_n 3, 1) := by decide +kernel
theorem dX6_mailAt_6 : decode cX6_mailAt 6 = .ok (.iload_n 2, 1) := by decide +kernel
theorem dX6_mailAt_7 : decode cX6_mailAt 7 = .ok (.iconst 0, 1) := by decide +kernel
theorem dX6_mailAt_8 : decode cX6_mailAt 8 = .ok (.aload_n 3, 1) := by decide +kernel
theorem dX6_mailAt_9 : decode cX6_mailAt 9 = .ok (.getfield 156, 3) := by decide +kernel
theorem dX6_mailAt_12 : decode cX6_mailAt 12 = .ok (.invokevirtual 62, 3) := by decide +kernel
theorem dX6_mailAt_15 : decode cX6_mailAt 15 = .ok (.iconst 1, 1) := by decide +kernel
theorem dX6_mailAt_16 : decode cX6_mailAt 16 = .ok (.isub, 1) := by decide +kernel
theorem dX6_mailAt_17 : decode cX6_mailAt 17 = .ok (.invokestatic 51, 3) := by decide +kernel
theorem dX6_mailAt_20 : decode cX6_mailAt 20 = .ok (.ifCond .ne 13, 3) := by decide +kernel
theorem dX6_mailAt_23 : decode cX6_mailAt 23 = .ok (.new 109, 3) := by decide +kernel
theorem dX6_mailAt_26 : decode cX6_mailAt 26 = .ok (.dup, 1) := by decide +kernel
theorem dX6_mailAt_27 : decode cX6_mailAt 27 = .ok (.ldc 157, 2) := by decide +kernel
theorem dX6_mailAt_29 : decode cX6_mailAt 29 = .ok (.invokespecial 113, 3) := by decide +kernel
theorem dX6_mailAt_32 : decode cX6_mailAt 32 = .ok (.athrow, 1) := by decide +kernel
theorem dX6_mailAt_33 : decode cX6_mailAt 33 = .ok (.aload_n 3, 1) := by decide +kernel
theorem dX6_mailAt_34 : decode cX6_mailAt 34 = .ok (.getfield 156, 3) := by decide +kernel
theorem dX6_mailAt_37 : decode cX6_mailAt 37 = .ok (.iload_n 2, 1) := by decide +kernel
theorem dX6_mailAt_38 : decode cX6_mailAt 38 = .ok (.invokevirtual 66, 3) := by decide +kernel
theorem dX6_mailAt_41 : decode cX6_mailAt 41 = .ok (.checkcast 146, 3) := by decide +kernel
theorem dX6_mailAt_44 : decode cX6_mailAt 44 = .ok (.getfield 159, 3) := by decide +kernel
theorem dX6_mailAt_47 : decode cX6_mailAt 47 = .ok (.ireturn, 1) := by decide +kernel
theorem dX6_tickets_0 : decode cX6_tickets 0 = .ok (.aload_n 0, 1) := by decide +kernel
theorem dX6_tickets_1 : decode cX6_tickets 1 = .ok (.getfield 36, 3) := by decide +kernel
theorem dX6_tickets_4 : decode cX6_tickets 4 = .ok (.invokevirtual 62, 3) := by decide +kernel
theorem dX6_tickets_7 : decode cX6_tickets 7 = .ok (.ireturn, 1) := by decide +kernel
theorem dX6_stateOf_0 : decode cX6_stateOf 0 = .ok (.aload_n 0, 1) := by decide +kernel
theorem dX6_stateOf_1 : decode cX6_stateOf 1 = .ok (.iload_n 1, 1) := by decide +kernel
theorem dX6_stateOf_2 : decode cX6_stateOf 2 = .ok (.invokevirtual 152, 3) := by decide +kernel
theorem dX6_stateOf_5 : decode cX6_stateOf 5 = .ok (.getfield 72, 3) := by decide +kernel
theorem dX6_stateOf_8 : decode cX6_stateOf 8 = .ok (.ireturn, 1) := by decide +kernel
theorem dX6_mergedInto_0 : decode cX6_mergedInto 0 = .ok (.aload_n 0, 1) := by decide +kernel
theorem dX6_mergedInto_1 : decode cX6_mergedInto 1 = .ok (.iload_n 1, 1) := by decide +kernel
theorem dX6_mergedInto_2 : decode cX6_mergedInto 2 = .ok (.invokevirtual 152, 3) := by decide +kernel
theorem dX6_mergedInto_5 : decode cX6_mergedInto 5 = .ok (.astore_n 2, 1) := by decide +kernel
theorem dX6_mergedInto_6 : decode cX6_mergedInto 6 = .ok (.aload_n 2, 1) := by decide +kernel
theorem dX6_mergedInto_7 : decode cX6_mergedInto 7 = .ok (.getfield 160, 3) := by decide +kernel
theorem dX6_mergedInto_10 : decode cX6_mergedInto 10 = .ok (.ifnonnull 13, 3) := by decide +kernel
theorem dX6_mergedInto_13 : decode cX6_mergedInto 13 = .ok (.new 109, 3) := by decide +kernel
theorem dX6_mergedInto_16 : decode cX6_mergedInto 16 = .ok (.dup, 1) := by decide +kernel
theorem dX6_mergedInto_17 : decode cX6_mergedInto 17 = .ok (.ldc 163, 2) := by decide +kernel
theorem dX6_mergedInto_19 : decode cX6_mergedInto 19 = .ok (.invokespecial 113, 3) := by decide +kernel
theorem dX6_mergedInto_22 : decode cX6_mergedInto 22 = .ok (.athrow, 1) := by decide +kernel
theorem dX6_mergedInto_23 : decode cX6_mergedInto 23 = .ok (.aload_n 2, 1) := by decide +kernel
theorem dX6_mergedInto_24 : decode cX6_mergedInto 24 = .ok (.getfield 160, 3) := by decide +kernel
theorem dX6_mergedInto_27 : decode cX6_mergedInto 27 = .ok (.ifnull 11, 3) := by decide +kernel
theorem dX6_mergedInto_30 : decode cX6_mergedInto 30 = .ok (.aload_n 2, 1) := by decide +kernel
theorem dX6_mergedInto_31 : decode cX6_mergedInto 31 = .ok (.getfield 160, 3) := by decide +kernel
theorem dX6_mergedInto_34 : decode cX6_mergedInto 34 = .ok (.astore_n 2, 1) := by decide +kernel
theorem dX6_mergedInto_35 : decode cX6_mergedInto 35 = .ok (.goto (-12), 3) := by decide +kernel
theorem dX6_mergedInto_38 : decode cX6_mergedInto 38 = .ok (.aload_n 2, 1) := by decide +kernel
theorem dX6_mergedInto_39 : decode cX6_mergedInto 39 = .ok (.getfield 141, 3) := by decide +kernel
theorem dX6_mergedInto_42 : decode cX6_mergedInto 42 = .ok (.ireturn, 1) := by decide +kernel
theorem dX6_setTopic_0 : decode cX6_setTopic 0 = .ok (.aload_n 0, 1) := by decide +kernel
theorem dX6_setTopic_1 : decode cX6_setTopic 1 = .ok (.iload_n 1, 1) := by decide +kernel
theorem dX6_setTopic_2 : decode cX6_setTopic 2 = .ok (.invokevirtual 152, 3) := by decide +kernel
theorem dX6_setTopic_5 : decode cX6_setTopic 5 = .ok (.astore_n 3, 1) := by decide +kernel
theorem dX6_setTopic_6 : decode cX6_setTopic 6 = .ok (.iload_n 2, 1) := by decide +kernel
theorem dX6_setTopic_7 : decode cX6_setTopic 7 = .ok (.invokestatic 101, 3) := by decide +kernel
theorem dX6_setTopic_10 : decode cX6_setTopic 10 = .ok (.ifCond .ne 13, 3) := by decide +kernel
theorem dX6_setTopic_13 : decode cX6_setTopic 13 = .ok (.new 55, 3) := by decide +kernel
theorem dX6_setTopic_16 : decode cX6_setTopic 16 = .ok (.dup, 1) := by decide +kernel
theorem dX6_setTopic_17 : decode cX6_setTopic 17 = .ok (.ldc 165, 2) := by decide +kernel
theorem dX6_setTopic_19 : decode cX6_setTopic 19 = .ok (.invokespecial 59, 3) := by decide +kernel
theorem dX6_setTopic_22 : decode cX6_setTopic 22 = .ok (.athrow, 1) := by decide +kernel
theorem dX6_setTopic_23 : decode cX6_setTopic 23 = .ok (.aload_n 3, 1) := by decide +kernel
theorem dX6_setTopic_24 : decode cX6_setTopic 24 = .ok (.invokestatic 167, 3) := by decide +kernel
theorem dX6_setTopic_27 : decode cX6_setTopic 27 = .ok (.aload_n 3, 1) := by decide +kernel
theorem dX6_setTopic_28 : decode cX6_setTopic 28 = .ok (.getfield 170, 3) := by decide +kernel
theorem dX6_setTopic_31 : decode cX6_setTopic 31 = .ok (.istore 4, 2) := by decide +kernel
theorem dX6_setTopic_33 : decode cX6_setTopic 33 = .ok (.aload_n 0, 1) := by decide +kernel
theorem dX6_setTopic_34 : decode cX6_setTopic 34 = .ok (.aload_n 3, 1) := by decide +kernel
theorem dX6_setTopic_35 : decode cX6_setTopic 35 = .ok (.invokevirtual 130, 3) := by decide +kernel
theorem dX6_setTopic_38 : decode cX6_setTopic 38 = .ok (.aload_n 3, 1) := by decide +kernel
theorem dX6_setTopic_39 : decode cX6_setTopic 39 = .ok (.iload_n 2, 1) := by decide +kernel
theorem dX6_setTopic_40 : decode cX6_setTopic 40 = .ok (.putfield 170, 3) := by decide +kernel
theorem dX6_setTopic_43 : decode cX6_setTopic 43 = .ok (.aload_n 3, 1) := by decide +kernel
theorem dX6_setTopic_44 : decode cX6_setTopic 44 = .ok (.getfield 173, 3) := by decide +kernel
theorem dX6_setTopic_47 : decode cX6_setTopic 47 = .ok (.ifnull 18, 3) := by decide +kernel
theorem dX6_setTopic_50 : decode cX6_setTopic 50 = .ok (.aload_n 3, 1) := by decide +kernel
theorem dX6_setTopic_51 : decode cX6_setTopic 51 = .ok (.getfield 173, 3) := by decide +kernel
theorem dX6_setTopic_54 : decode cX6_setTopic 54 = .ok (.iload_n 2, 1) := by decide +kernel
theorem dX6_setTopic_55 : decode cX6_setTopic 55 = .ok (.invokevirtual 177, 3) := by decide +kernel
theorem dX6_setTopic_58 : decode cX6_setTopic 58 = .ok (.ifCond .ne 7, 3) := by decide +kernel
theorem dX6_setTopic_61 : decode cX6_setTopic 61 = .ok (.aload_n 3, 1) := by decide +kernel
theorem dX6_setTopic_62 : decode cX6_setTopic 62 = .ok (.invokevirtual 182, 3) := by decide +kernel
theorem dX6_setTopic_65 : decode cX6_setTopic 65 = .ok (.aload_n 0, 1) := by decide +kernel
theorem dX6_setTopic_66 : decode cX6_setTopic 66 = .ok (.aload_n 3, 1) := by decide +kernel
theorem dX6_setTopic_67 : decode cX6_setTopic 67 = .ok (.invokevirtual 138, 3) := by decide +kernel
theorem dX6_setTopic_70 : decode cX6_setTopic 70 = .ok (.iload 4, 2) := by decide +kernel
theorem dX6_setTopic_72 : decode cX6_setTopic 72 = .ok (.ireturn, 1) := by decide +kernel
theorem dX6_clock_0 : decode cX6_clock 0 = .ok (.aload_n 0, 1) := by decide +kernel
theorem dX6_clock_1 : decode cX6_clock 1 = .ok (.iload_n 1, 1) := by decide +kernel
theorem dX6_clock_2 : decode cX6_clock 2 = .ok (.invokevirtual 152, 3) := by decide +kernel
theorem dX6_clock_5 : decode cX6_clock 5 = .ok (.astore_n 2, 1) := by decide +kernel
theorem dX6_clock_6 : decode cX6_clock 6 = .ok (.aload_n 2, 1) := by decide +kernel
theorem dX6_clock_7 : decode cX6_clock 7 = .ok (.invokestatic 167, 3) := by decide +kernel
theorem dX6_clock_10 : decode cX6_clock 10 = .ok (.aload_n 2, 1) := by decide +kernel
theorem dX6_clock_11 : decode cX6_clock 11 = .ok (.getfield 185, 3) := by decide +kernel
theorem dX6_clock_14 : decode cX6_clock 14 = .ok (.ireturn, 1) := by decide +kernel
theorem dX6_leftOf_0 : decode cX6_leftOf 0 = .ok (.aload_n 0, 1) := by decide +kernel
theorem dX6_leftOf_1 : decode cX6_leftOf 1 = .ok (.iload_n 1, 1) := by decide +kernel
theorem dX6_leftOf_2 : decode cX6_leftOf 2 = .ok (.invokevirtual 152, 3) := by decide +kernel
theorem dX6_leftOf_5 : decode cX6_leftOf 5 = .ok (.astore_n 2, 1) := by decide +kernel
theorem dX6_leftOf_6 : decode cX6_leftOf 6 = .ok (.aload_n 2, 1) := by decide +kernel
theorem dX6_leftOf_7 : decode cX6_leftOf 7 = .ok (.invokestatic 167, 3) := by decide +kernel
theorem dX6_leftOf_10 : decode cX6_leftOf 10 = .ok (.aload_n 2, 1) := by decide +kernel
theorem dX6_leftOf_11 : decode cX6_leftOf 11 = .ok (.invokevirtual 188, 3) := by decide +kernel
theorem dX6_leftOf_14 : decode cX6_leftOf 14 = .ok (.ireturn, 1) := by decide +kernel
theorem dX6_isBreached_0 : decode cX6_isBreached 0 = .ok (.aload_n 0, 1) := by decide +kernel
theorem dX6_isBreached_1 : decode cX6_isBreached 1 = .ok (.iload_n 1, 1) := by decide +kernel
theorem dX6_isBreached_2 : decode cX6_isBreached 2 = .ok (.invokevirtual 152, 3) := by decide +kernel
theorem dX6_isBreached_5 : decode cX6_isBreached 5 = .ok (.astore_n 2, 1) := by decide +kernel
theorem dX6_isBreached_6 : decode cX6_isBreached 6 = .ok (.aload_n 2, 1) := by decide +kernel
theorem dX6_isBreached_7 : decode cX6_isBreached 7 = .ok (.invokevirtual 191, 3) := by decide +kernel
theorem dX6_isBreached_10 : decode cX6_isBreached 10 = .ok (.ifCond .eq 14, 3) := by decide +kernel
theorem dX6_isBreached_13 : decode cX6_isBreached 13 = .ok (.aload_n 2, 1) := by decide +kernel
theorem dX6_isBreached_14 : decode cX6_isBreached 14 = .ok (.getfield 195, 3) := by decide +kernel
theorem dX6_isBreached_17 : decode cX6_isBreached 17 = .ok (.ifCond .eq 7, 3) := by decide +kernel
theorem dX6_isBreached_20 : decode cX6_isBreached 20 = .ok (.iconst 1, 1) := by decide +kernel
theorem dX6_isBreached_21 : decode cX6_isBreached 21 = .ok (.goto 4, 3) := by decide +kernel
theorem dX6_isBreached_24 : decode cX6_isBreached 24 = .ok (.iconst 0, 1) := by decide +kernel
theorem dX6_isBreached_25 : decode cX6_isBreached 25 = .ok (.ireturn, 1) := by decide +kernel
theorem dX6_addAgent_0 : decode cX6_addAgent 0 = .ok (.iload_n 1, 1) := by decide +kernel
theorem dX6_addAgent_1 : decode cX6_addAgent 1 = .ok (.iconst 0, 1) := by decide +kernel
theorem dX6_addAgent_2 : decode cX6_addAgent 2 = .ok (.bipush 63, 2) := by decide +kernel
theorem dX6_addAgent_4 : decode cX6_addAgent 4 = .ok (.invokestatic 51, 3) := by decide +kernel
theorem dX6_addAgent_7 : decode cX6_addAgent 7 = .ok (.ifCond .ne 13, 3) := by decide +kernel
theorem dX6_addAgent_10 : decode cX6_addAgent 10 = .ok (.new 55, 3) := by decide +kernel
theorem dX6_addAgent_13 : decode cX6_addAgent 13 = .ok (.dup, 1) := by decide +kernel
theorem dX6_addAgent_14 : decode cX6_addAgent 14 = .ok (.ldc 199, 2) := by decide +kernel
theorem dX6_addAgent_16 : decode cX6_addAgent 16 = .ok (.invokespecial 59, 3) := by decide +kernel
theorem dX6_addAgent_19 : decode cX6_addAgent 19 = .ok (.athrow, 1) := by decide +kernel
theorem dX6_addAgent_20 : decode cX6_addAgent 20 = .ok (.aload_n 0, 1) := by decide +kernel
theorem dX6_addAgent_21 : decode cX6_addAgent 21 = .ok (.getfield 39, 3) := by decide +kernel
theorem dX6_addAgent_24 : decode cX6_addAgent 24 = .ok (.invokevirtual 62, 3) := by decide +kernel
theorem dX6_addAgent_27 : decode cX6_addAgent 27 = .ok (.bipush 6, 2) := by decide +kernel
theorem dX6_addAgent_29 : decode cX6_addAgent 29 = .ok (.if_icmp .lt 13, 3) := by decide +kernel
theorem dX6_addAgent_32 : decode cX6_addAgent 32 = .ok (.new 118, 3) := by decide +kernel
theorem dX6_addAgent_35 : decode cX6_addAgent 35 = .ok (.dup, 1) := by decide +kernel
theorem dX6_addAgent_36 : decode cX6_addAgent 36 = .ok (.ldc 201, 2) := by decide +kernel
theorem dX6_addAgent_38 : decode cX6_addAgent 38 = .ok (.invokespecial 122, 3) := by decide +kernel
theorem dX6_addAgent_41 : decode cX6_addAgent 41 = .ok (.athrow, 1) := by decide +kernel
theorem dX6_addAgent_42 : decode cX6_addAgent 42 = .ok (.aload_n 0, 1) := by decide +kernel
theorem dX6_addAgent_43 : decode cX6_addAgent 43 = .ok (.getfield 39, 3) := by decide +kernel
theorem dX6_addAgent_46 : decode cX6_addAgent 46 = .ok (.new 178, 3) := by decide +kernel
theorem dX6_addAgent_49 : decode cX6_addAgent 49 = .ok (.dup, 1) := by decide +kernel
theorem dX6_addAgent_50 : decode cX6_addAgent 50 = .ok (.aload_n 0, 1) := by decide +kernel
theorem dX6_addAgent_51 : decode cX6_addAgent 51 = .ok (.getfield 39, 3) := by decide +kernel
theorem dX6_addAgent_54 : decode cX6_addAgent 54 = .ok (.invokevirtual 62, 3) := by decide +kernel
theorem dX6_addAgent_57 : decode cX6_addAgent 57 = .ok (.iload_n 1, 1) := by decide +kernel
theorem dX6_addAgent_58 : decode cX6_addAgent 58 = .ok (.invokespecial 203, 3) := by decide +kernel
theorem dX6_addAgent_61 : decode cX6_addAgent 61 = .ok (.invokevirtual 126, 3) := by decide +kernel
theorem dX6_addAgent_64 : decode cX6_addAgent 64 = .ok (.pop, 1) := by decide +kernel
theorem dX6_addAgent_65 : decode cX6_addAgent 65 = .ok (.aload_n 0, 1) := by decide +kernel
theorem dX6_addAgent_66 : decode cX6_addAgent 66 = .ok (.getfield 39, 3) := by decide +kernel
theorem dX6_addAgent_69 : decode cX6_addAgent 69 = .ok (.invokevirtual 62, 3) := by decide +kernel
theorem dX6_addAgent_72 : decode cX6_addAgent 72 = .ok (.iconst 1, 1) := by decide +kernel
theorem dX6_addAgent_73 : decode cX6_addAgent 73 = .ok (.isub, 1) := by decide +kernel
theorem dX6_addAgent_74 : decode cX6_addAgent 74 = .ok (.ireturn, 1) := by decide +kernel
theorem dX6_learn_0 : decode cX6_learn 0 = .ok (.aload_n 0, 1) := by decide +kernel
theorem dX6_learn_1 : decode cX6_learn 1 = .ok (.iload_n 1, 1) := by decide +kernel
theorem dX6_learn_2 : decode cX6_learn 2 = .ok (.invokevirtual 206, 3) := by decide +kernel
theorem dX6_learn_5 : decode cX6_learn 5 = .ok (.astore_n 3, 1) := by decide +kernel
theorem dX6_learn_6 : decode cX6_learn 6 = .ok (.iload_n 2, 1) := by decide +kernel
theorem dX6_learn_7 : decode cX6_learn 7 = .ok (.invokestatic 101, 3) := by decide +kernel
theorem dX6_learn_10 : decode cX6_learn 10 = .ok (.ifCond .ne 13, 3) := by decide +kernel
theorem dX6_learn_13 : decode cX6_learn 13 = .ok (.new 55, 3) := by decide +kernel
theorem dX6_learn_16 : decode cX6_learn 16 = .ok (.dup, 1) := by decide +kernel
theorem dX6_learn_17 : decode cX6_learn 17 = .ok (.ldc 165, 2) := by decide +kernel
theorem dX6_learn_19 : decode cX6_learn 19 = .ok (.invokespecial 59, 3) := by decide +kernel
theorem dX6_learn_22 : decode cX6_learn 22 = .ok (.athrow, 1) := by decide +kernel
theorem dX6_learn_23 : decode cX6_learn 23 = .ok (.aload_n 3, 1) := by decide +kernel
theorem dX6_learn_24 : decode cX6_learn 24 = .ok (.iload_n 2, 1) := by decide +kernel
theorem dX6_learn_25 : decode cX6_learn 25 = .ok (.invokevirtual 177, 3) := by decide +kernel
theorem dX6_learn_28 : decode cX6_learn 28 = .ok (.ifCond .eq 13, 3) := by decide +kernel
theorem dX6_learn_31 : decode cX6_learn 31 = .ok (.new 210, 3) := by decide +kernel
theorem dX6_learn_34 : decode cX6_learn 34 = .ok (.dup, 1) := by decide +kernel
theorem dX6_learn_35 : decode cX6_learn 35 = .ok (.ldc 212, 2) := by decide +kernel
theorem dX6_learn_37 : decode cX6_learn 37 = .ok (.invokespecial 214, 3) := by decide +kernel
theorem dX6_learn_40 : decode cX6_learn 40 = .ok (.athrow, 1) := by decide +kernel
theorem dX6_learn_41 : decode cX6_learn 41 = .ok (.aload_n 3, 1) := by decide +kernel
theorem dX6_learn_42 : decode cX6_learn 42 = .ok (.dup, 1) := by decide +kernel
theorem dX6_learn_43 : decode cX6_learn 43 = .ok (.getfield 215, 3) := by decide +kernel
theorem dX6_learn_46 : decode cX6_learn 46 = .ok (.iconst 1, 1) := by decide +kernel
theorem dX6_learn_47 : decode cX6_learn 47 = .ok (.iload_n 2, 1) := by decide +kernel
theorem dX6_learn_48 : decode cX6_learn 48 = .ok (.ishl, 1) := by decide +kernel
theorem dX6_learn_49 : decode cX6_learn 49 = .ok (.ior, 1) := by decide +kernel
theorem dX6_learn_50 : decode cX6_learn 50 = .ok (.putfield 215, 3) := by decide +kernel
theorem dX6_learn_53 : decode cX6_learn 53 = .ok (.aload_n 3, 1) := by decide +kernel
theorem dX6_learn_54 : decode cX6_learn 54 = .ok (.getfield 215, 3) := by decide +kernel
theorem dX6_learn_57 : decode cX6_learn 57 = .ok (.invokestatic 218, 3) := by decide +kernel
theorem dX6_learn_60 : decode cX6_learn 60 = .ok (.ireturn, 1) := by decide +kernel
theorem dX6_setOnShift_0 : decode cX6_setOnShift 0 = .ok (.aload_n 0, 1) := by decide +kernel
theorem dX6_setOnShift_1 : decode cX6_setOnShift 1 = .ok (.iload_n 1, 1) := by decide +kernel
theorem dX6_setOnShift_2 : decode cX6_setOnShift 2 = .ok (.invokevirtual 206, 3) := by decide +kernel
theorem dX6_setOnShift_5 : decode cX6_setOnShift 5 = .ok (.astore_n 3, 1) := by decide +kernel
theorem dX6_setOnShift_6 : decode cX6_setOnShift 6 = .ok (.aload_n 3, 1) := by decide +kernel
theorem dX6_setOnShift_7 : decode cX6_setOnShift 7 = .ok (.getfield 224, 3) := by decide +kernel
theorem dX6_setOnShift_10 : decode cX6_setOnShift 10 = .ok (.istore 4, 2) := by decide +kernel
theorem dX6_setOnShift_12 : decode cX6_setOnShift 12 = .ok (.aload_n 3, 1) := by decide +kernel
theorem dX6_setOnShift_13 : decode cX6_setOnShift 13 = .ok (.iload_n 2, 1) := by decide +kernel
theorem dX6_setOnShift_14 : decode cX6_setOnShift 14 = .ok (.putfield 224, 3) := by decide +kernel
theorem dX6_setOnShift_17 : decode cX6_setOnShift 17 = .ok (.iload_n 2, 1) := by decide +kernel
theorem dX6_setOnShift_18 : decode cX6_setOnShift 18 = .ok (.ifCond .ne 8, 3) := by decide +kernel
theorem dX6_setOnShift_21 : decode cX6_setOnShift 21 = .ok (.aload_n 0, 1) := by decide +kernel
theorem dX6_setOnShift_22 : decode cX6_setOnShift 22 = .ok (.aload_n 3, 1) := by decide +kernel
theorem dX6_setOnShift_23 : decode cX6_setOnShift 23 = .ok (.invokevirtual 227, 3) := by decide +kernel
theorem dX6_setOnShift_26 : decode cX6_setOnShift 26 = .ok (.iload 4, 2) := by decide +kernel
theorem dX6_setOnShift_28 : decode cX6_setOnShift 28 = .ok (.ireturn, 1) := by decide +kernel
theorem dX6_held_0 : decode cX6_held 0 = .ok (.aload_n 0, 1) := by decide +kernel
theorem dX6_held_1 : decode cX6_held 1 = .ok (.iload_n 1, 1) := by decide +kernel
theorem dX6_held_2 : decode cX6_held 2 = .ok (.invokevirtual 206, 3) := by decide +kernel
theorem dX6_held_5 : decode cX6_held 5 = .ok (.getfield 231, 3) := by decide +kernel
theorem dX6_held_8 : decode cX6_held 8 = .ok (.ireturn, 1) := by decide +kernel
theorem dX6_agentOf_0 : decode cX6_agentOf 0 = .ok (.aload_n 0, 1) := by decide +kernel
theorem dX6_agentOf_1 : decode cX6_agentOf 1 = .ok (.iload_n 1, 1) := by decide +kernel
theorem dX6_agentOf_2 : decode cX6_agentOf 2 = .ok (.invokevirtual 152, 3) := by decide +kernel
theorem dX6_agentOf_5 : decode cX6_agentOf 5 = .ok (.getfield 173, 3) := by decide +kernel
theorem dX6_agentOf_8 : decode cX6_agentOf 8 = .ok (.astore_n 2, 1) := by decide +kernel
theorem dX6_agentOf_9 : decode cX6_agentOf 9 = .ok (.aload_n 2, 1) := by decide +kernel
theorem dX6_agentOf_10 : decode cX6_agentOf 10 = .ok (.ifnonnull 13, 3) := by decide +kernel
theorem dX6_agentOf_13 : decode cX6_agentOf 13 = .ok (.new 109, 3) := by decide +kernel
theorem dX6_agentOf_16 : decode cX6_agentOf 16 = .ok (.dup, 1) := by decide +kernel
theorem dX6_agentOf_17 : decode cX6_agentOf 17 = .ok (.ldc 234, 2) := by decide +kernel
theorem dX6_agentOf_19 : decode cX6_agentOf 19 = .ok (.invokespecial 113, 3) := by decide +kernel
theorem dX6_agentOf_22 : decode cX6_agentOf 22 = .ok (.athrow, 1) := by decide +kernel
theorem dX6_agentOf_23 : decode cX6_agentOf 23 = .ok (.aload_n 2, 1) := by decide +kernel
theorem dX6_agentOf_24 : decode cX6_agentOf 24 = .ok (.getfield 236, 3) := by decide +kernel
theorem dX6_agentOf_27 : decode cX6_agentOf 27 = .ok (.ireturn, 1) := by decide +kernel
theorem dX6_nextFor_0 : decode cX6_nextFor 0 = .ok (.aload_n 0, 1) := by decide +kernel
theorem dX6_nextFor_1 : decode cX6_nextFor 1 = .ok (.aload_n 0, 1) := by decide +kernel
theorem dX6_nextFor_2 : decode cX6_nextFor 2 = .ok (.iload_n 1, 1) := by decide +kernel
theorem dX6_nextFor_3 : decode cX6_nextFor 3 = .ok (.invokevirtual 206, 3) := by decide +kernel
theorem dX6_nextFor_6 : decode cX6_nextFor 6 = .ok (.invokevirtual 237, 3) := by decide +kernel
theorem dX6_nextFor_9 : decode cX6_nextFor 9 = .ok (.astore_n 2, 1) := by decide +kernel
theorem dX6_nextFor_10 : decode cX6_nextFor 10 = .ok (.aload_n 2, 1) := by decide +kernel
theorem dX6_nextFor_11 : decode cX6_nextFor 11 = .ok (.ifnonnull 13, 3) := by decide +kernel
theorem dX6_nextFor_14 : decode cX6_nextFor 14 = .ok (.new 109, 3) := by decide +kernel
theorem dX6_nextFor_17 : decode cX6_nextFor 17 = .ok (.dup, 1) := by decide +kernel
theorem dX6_nextFor_18 : decode cX6_nextFor 18 = .ok (.ldc 241, 2) := by decide +kernel
theorem dX6_nextFor_20 : decode cX6_nextFor 20 = .ok (.invokespecial 113, 3) := by decide +kernel
theorem dX6_nextFor_23 : decode cX6_nextFor 23 = .ok (.athrow, 1) := by decide +kernel
theorem dX6_nextFor_24 : decode cX6_nextFor 24 = .ok (.aload_n 2, 1) := by decide +kernel
theorem dX6_nextFor_25 : decode cX6_nextFor 25 = .ok (.getfield 141, 3) := by decide +kernel
theorem dX6_nextFor_28 : decode cX6_nextFor 28 = .ok (.ireturn, 1) := by decide +kernel
theorem dX6_nextByTickets_0 : decode cX6_nextByTickets 0 = .ok (.aload_n 0, 1) := by decide +kernel
theorem dX6_nextByTickets_1 : decode cX6_nextByTickets 1 = .ok (.aload_n 0, 1) := by decide +kernel
theorem dX6_nextByTickets_2 : decode cX6_nextByTickets 2 = .ok (.iload_n 1, 1) := by decide +kernel
theorem dX6_nextByTickets_3 : decode cX6_nextByTickets 3 = .ok (.invokevirtual 206, 3) := by decide +kernel
theorem dX6_nextByTickets_6 : decode cX6_nextByTickets 6 = .ok (.invokevirtual 243, 3) := by decide +kernel
theorem dX6_nextByTickets_9 : decode cX6_nextByTickets 9 = .ok (.astore_n 2, 1) := by decide +kernel
theorem dX6_nextByTickets_10 : decode cX6_nextByTickets 10 = .ok (.aload_n 2, 1) := by decide +kernel
theorem dX6_nextByTickets_11 : decode cX6_nextByTickets 11 = .ok (.ifnonnull 13, 3) := by decide +kernel
theorem dX6_nextByTickets_14 : decode cX6_nextByTickets 14 = .ok (.new 109, 3) := by decide +kernel
theorem dX6_nextByTickets_17 : decode cX6_nextByTickets 17 = .ok (.dup, 1) := by decide +kernel
theorem dX6_nextByTickets_18 : decode cX6_nextByTickets 18 = .ok (.ldc 241, 2) := by decide +kernel
theorem dX6_nextByTickets_20 : decode cX6_nextByTickets 20 = .ok (.invokespecial 113, 3) := by decide +kernel
theorem dX6_nextByTickets_23 : decode cX6_nextByTickets 23 = .ok (.athrow, 1) := by decide +kernel
theorem dX6_nextByTickets_24 : decode cX6_nextByTickets 24 = .ok (.aload_n 2, 1) := by decide +kernel
theorem dX6_nextByTickets_25 : decode cX6_nextByTickets 25 = .ok (.getfield 141, 3) := by decide +kernel
theorem dX6_nextByTickets_28 : decode cX6_nextByTickets 28 = .ok (.ireturn, 1) := by decide +kernel
theorem dX6_waiting_0 : decode cX6_waiting 0 = .ok (.aload_n 0, 1) := by decide +kernel
theorem dX6_waiting_1 : decode cX6_waiting 1 = .ok (.iload_n 1, 1) := by decide +kernel
theorem dX6_waiting_2 : decode cX6_waiting 2 = .ok (.invokevirtual 206, 3) := by decide +kernel
theorem dX6_waiting_5 : decode cX6_waiting 5 = .ok (.astore_n 2, 1) := by decide +kernel
theorem dX6_waiting_6 : decode cX6_waiting 6 = .ok (.iconst 0, 1) := by decide +kernel
theorem dX6_waiting_7 : decode cX6_waiting 7 = .ok (.istore_n 3, 1) := by decide +kernel
theorem dX6_waiting_8 : decode cX6_waiting 8 = .ok (.iconst 0, 1) := by decide +kernel
theorem dX6_waiting_9 : decode cX6_waiting 9 = .ok (.istore 4, 2) := by decide +kernel
theorem dX6_waiting_11 : decode cX6_waiting 11 = .ok (.iload 4, 2) := by decide +kernel
theorem dX6_waiting_13 : decode cX6_waiting 13 = .ok (.bipush 6, 2) := by decide +kernel
theorem dX6_waiting_15 : decode cX6_waiting 15 = .ok (.if_icmp .ge 31, 3) := by decide +kernel
theorem dX6_waiting_18 : decode cX6_waiting 18 = .ok (.aload_n 2, 1) := by decide +kernel
theorem dX6_waiting_19 : decode cX6_waiting 19 = .ok (.iload 4, 2) := by decide +kernel
theorem dX6_waiting_21 : decode cX6_waiting 21 = .ok (.invokevirtual 246, 3) := by decide +kernel
theorem dX6_waiting_24 : decode cX6_waiting 24 = .ok (.ifCond .eq 16, 3) := by decide +kernel
theorem dX6_waiting_27 : decode cX6_waiting 27 = .ok (.iload_n 3, 1) := by decide +kernel
theorem dX6_waiting_28 : decode cX6_waiting 28 = .ok (.aload_n 0, 1) := by decide +kernel
theorem dX6_waiting_29 : decode cX6_waiting 29 = .ok (.getfield 24, 3) := by decide +kernel
theorem dX6_waiting_32 : decode cX6_waiting 32 = .ok (.iload 4, 2) := by decide +kernel
theorem dX6_waiting_34 : decode cX6_waiting 34 = .ok (.aaload, 1) := by decide +kernel
theorem dX6_waiting_35 : decode cX6_waiting 35 = .ok (.invokevirtual 249, 3) := by decide +kernel
theorem dX6_waiting_38 : decode cX6_waiting 38 = .ok (.iadd, 1) := by decide +kernel
theorem dX6_waiting_39 : decode cX6_waiting 39 = .ok (.istore_n 3, 1) := by decide +kernel
theorem dX6_waiting_40 : decode cX6_waiting 40 = .ok (.iinc 4 1, 3) := by decide +kernel
theorem dX6_waiting_43 : decode cX6_waiting 43 = .ok (.goto (-32), 3) := by decide +kernel
theorem dX6_waiting_46 : decode cX6_waiting 46 = .ok (.iload_n 3, 1) := by decide +kernel
theorem dX6_waiting_47 : decode cX6_waiting 47 = .ok (.ireturn, 1) := by decide +kernel
theorem dX6_take_0 : decode cX6_take 0 = .ok (.aload_n 0, 1) := by decide +kernel
theorem dX6_take_1 : decode cX6_take 1 = .ok (.iload_n 1, 1) := by decide +kernel
theorem dX6_take_2 : decode cX6_take 2 = .ok (.invokevirtual 206, 3) := by decide +kernel
theorem dX6_take_5 : decode cX6_take 5 = .ok (.astore_n 2, 1) := by decide +kernel
theorem dX6_take_6 : decode cX6_take 6 = .ok (.aload_n 2, 1) := by decide +kernel
theorem dX6_take_7 : decode cX6_take 7 = .ok (.getfield 224, 3) := by decide +kernel
theorem dX6_take_10 : decode cX6_take 10 = .ok (.ifCond .eq 11, 3) := by decide +kernel
theorem dX6_take_13 : decode cX6_take 13 = .ok (.aload_n 2, 1) := by decide +kernel
theorem dX6_take_14 : decode cX6_take 14 = .ok (.getfield 231, 3) := by decide +kernel
theorem dX6_take_17 : decode cX6_take 17 = .ok (.iconst 3, 1) := by decide +kernel
theorem dX6_take_18 : decode cX6_take 18 = .ok (.if_icmp .lt 13, 3) := by decide +kernel
theorem dX6_take_21 : decode cX6_take 21 = .ok (.new 118, 3) := by decide +kernel
theorem dX6_take_24 : decode cX6_take 24 = .ok (.dup, 1) := by decide +kernel
theorem dX6_take_25 : decode cX6_take 25 = .ok (.ldc 252, 2) := by decide +kernel
theorem dX6_take_27 : decode cX6_take 27 = .ok (.invokespecial 122, 3) := by decide +kernel
theorem dX6_take_30 : decode cX6_take 30 = .ok (.athrow, 1) := by decide +kernel
theorem dX6_take_31 : decode cX6_take 31 = .ok (.aload_n 0, 1) := by decide +kernel
theorem dX6_take_32 : decode cX6_take 32 = .ok (.aload_n 2, 1) := by decide +kernel
theorem dX6_take_33 : decode cX6_take 33 = .ok (.invokevirtual 237, 3) := by decide +kernel
theorem dX6_take_36 : decode cX6_take 36 = .ok (.astore_n 3, 1) := by decide +kernel
theorem dX6_take_37 : decode cX6_take 37 = .ok (.aload_n 3, 1) := by decide +kernel
theorem dX6_take_38 : decode cX6_take 38 = .ok (.ifnonnull 13, 3) := by decide +kernel
theorem dX6_take_41 : decode cX6_take 41 = .ok (.new 109, 3) := by decide +kernel
theorem dX6_take_44 : decode cX6_take 44 = .ok (.dup, 1) := by decide +kernel
theorem dX6_take_45 : decode cX6_take 45 = .ok (.ldc 241, 2) := by decide +kernel
theorem dX6_take_47 : decode cX6_take 47 = .ok (.invokespecial 113, 3) := by decide +kernel
theorem dX6_take_50 : decode cX6_take 50 = .ok (.athrow, 1) := by decide +kernel
theorem dX6_take_51 : decode cX6_take 51 = .ok (.aload_n 0, 1) := by decide +kernel
theorem dX6_take_52 : decode cX6_take 52 = .ok (.aload_n 3, 1) := by decide +kernel
theorem dX6_take_53 : decode cX6_take 53 = .ok (.invokevirtual 130, 3) := by decide +kernel
theorem dX6_take_56 : decode cX6_take 56 = .ok (.aload_n 3, 1) := by decide +kernel
theorem dX6_take_57 : decode cX6_take 57 = .ok (.aload_n 2, 1) := by decide +kernel
theorem dX6_take_58 : decode cX6_take 58 = .ok (.invokevirtual 254, 3) := by decide +kernel
theorem dX6_take_61 : decode cX6_take 61 = .ok (.aload_n 3, 1) := by decide +kernel
theorem dX6_take_62 : decode cX6_take 62 = .ok (.getfield 141, 3) := by decide +kernel
theorem dX6_take_65 : decode cX6_take 65 = .ok (.ireturn, 1) := by decide +kernel
theorem dX6_handOver_0 : decode cX6_handOver 0 = .ok (.aload_n 0, 1) := by decide +kernel
theorem dX6_handOver_1 : decode cX6_handOver 1 = .ok (.iload_n 1, 1) := by decide +kernel
theorem dX6_handOver_2 : decode cX6_handOver 2 = .ok (.invokevirtual 152, 3) := by decide +kernel
theorem dX6_handOver_5 : decode cX6_handOver 5 = .ok (.astore_n 3, 1) := by decide +kernel
theorem dX6_handOver_6 : decode cX6_handOver 6 = .ok (.aload_n 0, 1) := by decide +kernel
theorem dX6_handOver_7 : decode cX6_handOver 7 = .ok (.iload_n 2, 1) := by decide +kernel
theorem dX6_handOver_8 : decode cX6_handOver 8 = .ok (.invokevirtual 206, 3) := by decide +kernel
theorem dX6_handOver_11 : decode cX6_handOver 11 = .ok (.astore 4, 2) := by decide +kernel
theorem dX6_handOver_13 : decode cX6_handOver 13 = .ok (.aload_n 3, 1) := by decide +kernel
theorem dX6_handOver_14 : decode cX6_handOver 14 = .ok (.getfield 173, 3) := by decide +kernel
theorem dX6_handOver_17 : decode cX6_handOver 17 = .ok (.ifnull 21, 3) := by decide +kernel
theorem dX6_handOver_20 : decode cX6_handOver 20 = .ok (.aload_n 3, 1) := by decide +kernel
theorem dX6_handOver_21 : decode cX6_handOver 21 = .ok (.getfield 173, 3) := by decide +kernel
theorem dX6_handOver_24 : decode cX6_handOver 24 = .ok (.aload 4, 2) := by decide +kernel
theorem dX6_handOver_26 : decode cX6_handOver 26 = .ok (.if_acmp .eq 12, 3) := by decide +kernel
theorem dX6_handOver_29 : decode cX6_handOver 29 = .ok (.aload 4, 2) := by decide +kernel
theorem dX6_handOver_31 : decode cX6_handOver 31 = .ok (.getfield 231, 3) := by decide +kernel
theorem dX6_handOver_34 : decode cX6_handOver 34 = .ok (.iconst 3, 1) := by decide +kernel
theorem dX6_handOver_35 : decode cX6_handOver 35 = .ok (.if_icmp .lt 14, 3) := by decide +kernel
theorem dX6_handOver_38 : decode cX6_handOver 38 = .ok (.new 118, 3) := by decide +kernel
theorem dX6_handOver_41 : decode cX6_handOver 41 = .ok (.dup, 1) := by decide +kernel
theorem dX6_handOver_42 : decode cX6_handOver 42 = .ok (.ldc_w 257, 3) := by decide +kernel
theorem dX6_handOver_45 : decode cX6_handOver 45 = .ok (.invokespecial 122, 3) := by decide +kernel
theorem dX6_handOver_48 : decode cX6_handOver 48 = .ok (.athrow, 1) := by decide +kernel
theorem dX6_handOver_49 : decode cX6_handOver 49 = .ok (.aload 4, 2) := by decide +kernel
theorem dX6_handOver_51 : decode cX6_handOver 51 = .ok (.aload_n 3, 1) := by decide +kernel
theorem dX6_handOver_52 : decode cX6_handOver 52 = .ok (.getfield 170, 3) := by decide +kernel
theorem dX6_handOver_55 : decode cX6_handOver 55 = .ok (.invokevirtual 246, 3) := by decide +kernel
theorem dX6_handOver_58 : decode cX6_handOver 58 = .ok (.ifCond .ne 14, 3) := by decide +kernel
theorem dX6_handOver_61 : decode cX6_handOver 61 = .ok (.new 210, 3) := by decide +kernel
theorem dX6_handOver_64 : decode cX6_handOver 64 = .ok (.dup, 1) := by decide +kernel
theorem dX6_handOver_65 : decode cX6_handOver 65 = .ok (.ldc_w 259, 3) := by decide +kernel
theorem dX6_handOver_68 : decode cX6_handOver 68 = .ok (.invokespecial 214, 3) := by decide +kernel
theorem dX6_handOver_71 : decode cX6_handOver 71 = .ok (.athrow, 1) := by decide +kernel
theorem dX6_handOver_72 : decode cX6_handOver 72 = .ok (.aload_n 3, 1) := by decide +kernel
theorem dX6_handOver_73 : decode cX6_handOver 73 = .ok (.invokevirtual 182, 3) := by decide +kernel
theorem dX6_handOver_76 : decode cX6_handOver 76 = .ok (.aload_n 3, 1) := by decide +kernel
theorem dX6_handOver_77 : decode cX6_handOver 77 = .ok (.aload 4, 2) := by decide +kernel
theorem dX6_handOver_79 : decode cX6_handOver 79 = .ok (.invokevirtual 254, 3) := by decide +kernel
theorem dX6_handOver_82 : decode cX6_handOver 82 = .ok (.aload_n 3, 1) := by decide +kernel
theorem dX6_handOver_83 : decode cX6_handOver 83 = .ok (.dup, 1) := by decide +kernel
theorem dX6_handOver_84 : decode cX6_handOver 84 = .ok (.getfield 261, 3) := by decide +kernel
theorem dX6_handOver_87 : decode cX6_handOver 87 = .ok (.iconst 1, 1) := by decide +kernel
theorem dX6_handOver_88 : decode cX6_handOver 88 = .ok (.iadd, 1) := by decide +kernel
theorem dX6_handOver_89 : decode cX6_handOver 89 = .ok (.putfield 261, 3) := by decide +kernel
theorem dX6_handOver_92 : decode cX6_handOver 92 = .ok (.aload_n 3, 1) := by decide +kernel
theorem dX6_handOver_93 : decode cX6_handOver 93 = .ok (.getfield 261, 3) := by decide +kernel
theorem dX6_handOver_96 : decode cX6_handOver 96 = .ok (.ireturn, 1) := by decide +kernel
theorem dX6_giveBack_0 : decode cX6_giveBack 0 = .ok (.aload_n 0, 1) := by decide +kernel
theorem dX6_giveBack_1 : decode cX6_giveBack 1 = .ok (.iload_n 1, 1) := by decide +kernel
theorem dX6_giveBack_2 : decode cX6_giveBack 2 = .ok (.invokevirtual 152, 3) := by decide +kernel
theorem dX6_giveBack_5 : decode cX6_giveBack 5 = .ok (.astore_n 2, 1) := by decide +kernel
theorem dX6_giveBack_6 : decode cX6_giveBack 6 = .ok (.aload_n 2, 1) := by decide +kernel
theorem dX6_giveBack_7 : decode cX6_giveBack 7 = .ok (.getfield 173, 3) := by decide +kernel
theorem dX6_giveBack_10 : decode cX6_giveBack 10 = .ok (.astore_n 3, 1) := by decide +kernel
theorem dX6_giveBack_11 : decode cX6_giveBack 11 = .ok (.aload_n 3, 1) := by decide +kernel
theorem dX6_giveBack_12 : decode cX6_giveBack 12 = .ok (.ifnonnull 13, 3) := by decide +kernel
theorem dX6_giveBack_15 : decode cX6_giveBack 15 = .ok (.new 118, 3) := by decide +kernel
theorem dX6_giveBack_18 : decode cX6_giveBack 18 = .ok (.dup, 1) := by decide +kernel
theorem dX6_giveBack_19 : decode cX6_giveBack 19 = .ok (.ldc 234, 2) := by decide +kernel
theorem dX6_giveBack_21 : decode cX6_giveBack 21 = .ok (.invokespecial 122, 3) := by decide +kernel
theorem dX6_giveBack_24 : decode cX6_giveBack 24 = .ok (.athrow, 1) := by decide +kernel
theorem dX6_giveBack_25 : decode cX6_giveBack 25 = .ok (.aload_n 2, 1) := by decide +kernel
theorem dX6_giveBack_26 : decode cX6_giveBack 26 = .ok (.invokevirtual 182, 3) := by decide +kernel
theorem dX6_giveBack_29 : decode cX6_giveBack 29 = .ok (.aload_n 0, 1) := by decide +kernel
theorem dX6_giveBack_30 : decode cX6_giveBack 30 = .ok (.aload_n 2, 1) := by decide +kernel
theorem dX6_giveBack_31 : decode cX6_giveBack 31 = .ok (.invokevirtual 138, 3) := by decide +kernel
theorem dX6_giveBack_34 : decode cX6_giveBack 34 = .ok (.aload_n 3, 1) := by decide +kernel
theorem dX6_giveBack_35 : decode cX6_giveBack 35 = .ok (.getfield 231, 3) := by decide +kernel
theorem dX6_giveBack_38 : decode cX6_giveBack 38 = .ok (.ireturn, 1) := by decide +kernel
theorem dX6_hold_0 : decode cX6_hold 0 = .ok (.aload_n 0, 1) := by decide +kernel
theorem dX6_hold_1 : decode cX6_hold 1 = .ok (.iload_n 1, 1) := by decide +kernel
theorem dX6_hold_2 : decode cX6_hold 2 = .ok (.invokevirtual 152, 3) := by decide +kernel
theorem dX6_hold_5 : decode cX6_hold 5 = .ok (.astore_n 2, 1) := by decide +kernel
theorem dX6_hold_6 : decode cX6_hold 6 = .ok (.aload_n 2, 1) := by decide +kernel
theorem dX6_hold_7 : decode cX6_hold 7 = .ok (.getfield 72, 3) := by decide +kernel
theorem dX6_hold_10 : decode cX6_hold 10 = .ok (.bipush 111, 2) := by decide +kernel
theorem dX6_hold_12 : decode cX6_hold 12 = .ok (.if_icmp .eq 14, 3) := by decide +kernel
theorem dX6_hold_15 : decode cX6_hold 15 = .ok (.new 118, 3) := by decide +kernel
theorem dX6_hold_18 : decode cX6_hold 18 = .ok (.dup, 1) := by decide +kernel
theorem dX6_hold_19 : decode cX6_hold 19 = .ok (.ldc_w 264, 3) := by decide +kernel
theorem dX6_hold_22 : decode cX6_hold 22 = .ok (.invokespecial 122, 3) := by decide +kernel
theorem dX6_hold_25 : decode cX6_hold 25 = .ok (.athrow, 1) := by decide +kernel
theorem dX6_hold_26 : decode cX6_hold 26 = .ok (.aload_n 0, 1) := by decide +kernel
theorem dX6_hold_27 : decode cX6_hold 27 = .ok (.aload_n 2, 1) := by decide +kernel
theorem dX6_hold_28 : decode cX6_hold 28 = .ok (.invokevirtual 130, 3) := by decide +kernel
theorem dX6_hold_31 : decode cX6_hold 31 = .ok (.aload_n 2, 1) := by decide +kernel
theorem dX6_hold_32 : decode cX6_hold 32 = .ok (.bipush 104, 2) := by decide +kernel
theorem dX6_hold_34 : decode cX6_hold 34 = .ok (.putfield 72, 3) := by decide +kernel
theorem dX6_hold_37 : decode cX6_hold 37 = .ok (.aload_n 2, 1) := by decide +kernel
theorem dX6_hold_38 : decode cX6_hold 38 = .ok (.getfield 185, 3) := by decide +kernel
theorem dX6_hold_41 : decode cX6_hold 41 = .ok (.ireturn, 1) := by decide +kernel
theorem dX6_resume_0 : decode cX6_resume 0 = .ok (.aload_n 0, 1) := by decide +kernel
theorem dX6_resume_1 : decode cX6_resume 1 = .ok (.iload_n 1, 1) := by decide +kernel
theorem dX6_resume_2 : decode cX6_resume 2 = .ok (.invokevirtual 152, 3) := by decide +kernel
theorem dX6_resume_5 : decode cX6_resume 5 = .ok (.astore_n 2, 1) := by decide +kernel
theorem dX6_resume_6 : decode cX6_resume 6 = .ok (.aload_n 2, 1) := by decide +kernel
theorem dX6_resume_7 : decode cX6_resume 7 = .ok (.getfield 72, 3) := by decide +kernel
theorem dX6_resume_10 : decode cX6_resume 10 = .ok (.bipush 104, 2) := by decide +kernel
theorem dX6_resume_12 : decode cX6_resume 12 = .ok (.if_icmp .eq 14, 3) := by decide +kernel
theorem dX6_resume_15 : decode cX6_resume 15 = .ok (.new 118, 3) := by decide +kernel
theorem dX6_resume_18 : decode cX6_resume 18 = .ok (.dup, 1) := by decide +kernel
theorem dX6_resume_19 : decode cX6_resume 19 = .ok (.ldc_w 266, 3) := by decide +kernel
theorem dX6_resume_22 : decode cX6_resume 22 = .ok (.invokespecial 122, 3) := by decide +kernel
theorem dX6_resume_25 : decode cX6_resume 25 = .ok (.athrow, 1) := by decide +kernel
theorem dX6_resume_26 : decode cX6_resume 26 = .ok (.aload_n 2, 1) := by decide +kernel
theorem dX6_resume_27 : decode cX6_resume 27 = .ok (.bipush 111, 2) := by decide +kernel
theorem dX6_resume_29 : decode cX6_resume 29 = .ok (.putfield 72, 3) := by decide +kernel
theorem dX6_resume_32 : decode cX6_resume 32 = .ok (.aload_n 0, 1) := by decide +kernel
theorem dX6_resume_33 : decode cX6_resume 33 = .ok (.aload_n 2, 1) := by decide +kernel
theorem dX6_resume_34 : decode cX6_resume 34 = .ok (.invokevirtual 138, 3) := by decide +kernel
theorem dX6_resume_37 : decode cX6_resume 37 = .ok (.aload_n 2, 1) := by decide +kernel
theorem dX6_resume_38 : decode cX6_resume 38 = .ok (.getfield 185, 3) := by decide +kernel
theorem dX6_resume_41 : decode cX6_resume 41 = .ok (.ireturn, 1) := by decide +kernel
theorem dX6_answer_0 : decode cX6_answer 0 = .ok (.aload_n 0, 1) := by decide +kernel
theorem dX6_answer_1 : decode cX6_answer 1 = .ok (.iload_n 1, 1) := by decide +kernel
theorem dX6_answer_2 : decode cX6_answer 2 = .ok (.invokevirtual 152, 3) := by decide +kernel
theorem dX6_answer_5 : decode cX6_answer 5 = .ok (.astore_n 3, 1) := by decide +kernel
theorem dX6_answer_6 : decode cX6_answer 6 = .ok (.aload_n 3, 1) := by decide +kernel
theorem dX6_answer_7 : decode cX6_answer 7 = .ok (.getfield 72, 3) := by decide +kernel
theorem dX6_answer_10 : decode cX6_answer 10 = .ok (.bipush 111, 2) := by decide +kernel
theorem dX6_answer_12 : decode cX6_answer 12 = .ok (.if_icmp .ne 10, 3) := by decide +kernel
theorem dX6_answer_15 : decode cX6_answer 15 = .ok (.aload_n 3, 1) := by decide +kernel
theorem dX6_answer_16 : decode cX6_answer 16 = .ok (.getfield 173, 3) := by decide +kernel
theorem dX6_answer_19 : decode cX6_answer 19 = .ok (.ifnonnull 14, 3) := by decide +kernel
theorem dX6_answer_22 : decode cX6_answer 22 = .ok (.new 118, 3) := by decide +kernel
theorem dX6_answer_25 : decode cX6_answer 25 = .ok (.dup, 1) := by decide +kernel
theorem dX6_answer_26 : decode cX6_answer 26 = .ok (.ldc_w 268, 3) := by decide +kernel
theorem dX6_answer_29 : decode cX6_answer 29 = .ok (.invokespecial 122, 3) := by decide +kernel
theorem dX6_answer_32 : decode cX6_answer 32 = .ok (.athrow, 1) := by decide +kernel
theorem dX6_answer_33 : decode cX6_answer 33 = .ok (.iload_n 2, 1) := by decide +kernel
theorem dX6_answer_34 : decode cX6_answer 34 = .ok (.iconst (-1), 1) := by decide +kernel
theorem dX6_answer_35 : decode cX6_answer 35 = .ok (.if_icmp .eq 22, 3) := by decide +kernel
theorem dX6_answer_38 : decode cX6_answer 38 = .ok (.aload_n 0, 1) := by decide +kernel
theorem dX6_answer_39 : decode cX6_answer 39 = .ok (.iload_n 2, 1) := by decide +kernel
theorem dX6_answer_40 : decode cX6_answer 40 = .ok (.invokevirtual 270, 3) := by decide +kernel
theorem dX6_answer_43 : decode cX6_answer 43 = .ok (.ifCond .ne 14, 3) := by decide +kernel
theorem dX6_answer_46 : decode cX6_answer 46 = .ok (.new 109, 3) := by decide +kernel
theorem dX6_answer_49 : decode cX6_answer 49 = .ok (.dup, 1) := by decide +kernel
theorem dX6_answer_50 : decode cX6_answer 50 = .ok (.ldc_w 273, 3) := by decide +kernel
theorem dX6_answer_53 : decode cX6_answer 53 = .ok (.invokespecial 113, 3) := by decide +kernel
theorem dX6_answer_56 : decode cX6_answer 56 = .ok (.athrow, 1) := by decide +kernel
theorem dX6_answer_57 : decode cX6_answer 57 = .ok (.aload_n 3, 1) := by decide +kernel
theorem dX6_answer_58 : decode cX6_answer 58 = .ok (.invokevirtual 182, 3) := by decide +kernel
theorem dX6_answer_61 : decode cX6_answer 61 = .ok (.aload_n 3, 1) := by decide +kernel
theorem dX6_answer_62 : decode cX6_answer 62 = .ok (.bipush 97, 2) := by decide +kernel
theorem dX6_answer_64 : decode cX6_answer 64 = .ok (.putfield 72, 3) := by decide +kernel
theorem dX6_answer_67 : decode cX6_answer 67 = .ok (.aload_n 3, 1) := by decide +kernel
theorem dX6_answer_68 : decode cX6_answer 68 = .ok (.iload_n 2, 1) := by decide +kernel
theorem dX6_answer_69 : decode cX6_answer 69 = .ok (.iconst (-1), 1) := by decide +kernel
theorem dX6_answer_70 : decode cX6_answer 70 = .ok (.if_icmp .ne 7, 3) := by decide +kernel
theorem dX6_answer_73 : decode cX6_answer 73 = .ok (.aconst_null, 1) := by decide +kernel
theorem dX6_answer_74 : decode cX6_answer 74 = .ok (.goto 14, 3) := by decide +kernel
theorem dX6_answer_77 : decode cX6_answer 77 = .ok (.aload_n 0, 1) := by decide +kernel
theorem dX6_answer_78 : decode cX6_answer 78 = .ok (.getfield 42, 3) := by decide +kernel
theorem dX6_answer_81 : decode cX6_answer 81 = .ok (.iload_n 2, 1) := by decide +kernel
theorem dX6_answer_82 : decode cX6_answer 82 = .ok (.invokevirtual 66, 3) := by decide +kernel
theorem dX6_answer_85 : decode cX6_answer 85 = .ok (.checkcast 275, 3) := by decide +kernel
theorem dX6_answer_88 : decode cX6_answer 88 = .ok (.putfield 277, 3) := by decide +kernel
theorem dX6_answer_91 : decode cX6_answer 91 = .ok (.aload_n 0, 1) := by decide +kernel
theorem dX6_answer_92 : decode cX6_answer 92 = .ok (.aload_n 3, 1) := by decide +kernel
theorem dX6_answer_93 : decode cX6_answer 93 = .ok (.invokevirtual 281, 3) := by decide +kernel
theorem dX6_answer_96 : decode cX6_answer 96 = .ok (.aload_n 3, 1) := by decide +kernel
theorem dX6_answer_97 : decode cX6_answer 97 = .ok (.getfield 185, 3) := by decide +kernel
theorem dX6_answer_100 : decode cX6_answer 100 = .ok (.ireturn, 1) := by decide +kernel
theorem dX6_close_0 : decode cX6_close 0 = .ok (.aload_n 0, 1) := by decide +kernel
theorem dX6_close_1 : decode cX6_close 1 = .ok (.iload_n 1, 1) := by decide +kernel
theorem dX6_close_2 : decode cX6_close 2 = .ok (.invokevirtual 152, 3) := by decide +kernel
theorem dX6_close_5 : decode cX6_close 5 = .ok (.astore_n 2, 1) := by decide +kernel
theorem dX6_close_6 : decode cX6_close 6 = .ok (.aload_n 2, 1) := by decide +kernel
theorem dX6_close_7 : decode cX6_close 7 = .ok (.getfield 72, 3) := by decide +kernel
theorem dX6_close_10 : decode cX6_close 10 = .ok (.bipush 97, 2) := by decide +kernel
theorem dX6_close_12 : decode cX6_close 12 = .ok (.if_icmp .eq 14, 3) := by decide +kernel
theorem dX6_close_15 : decode cX6_close 15 = .ok (.new 118, 3) := by decide +kernel
theorem dX6_close_18 : decode cX6_close 18 = .ok (.dup, 1) := by decide +kernel
theorem dX6_close_19 : decode cX6_close 19 = .ok (.ldc_w 284, 3) := by decide +kernel
theorem dX6_close_22 : decode cX6_close 22 = .ok (.invokespecial 122, 3) := by decide +kernel
theorem dX6_close_25 : decode cX6_close 25 = .ok (.athrow, 1) := by decide +kernel
theorem dX6_close_26 : decode cX6_close 26 = .ok (.aload_n 2, 1) := by decide +kernel
theorem dX6_close_27 : decode cX6_close 27 = .ok (.getfield 277, 3) := by decide +kernel
theorem dX6_close_30 : decode cX6_close 30 = .ok (.ifnull 14, 3) := by decide +kernel
theorem dX6_close_33 : decode cX6_close 33 = .ok (.aload_n 2, 1) := by decide +kernel
theorem dX6_close_34 : decode cX6_close 34 = .ok (.getfield 277, 3) := by decide +kernel
theorem dX6_close_37 : decode cX6_close 37 = .ok (.aload_n 2, 1) := by decide +kernel
theorem dX6_close_38 : decode cX6_close 38 = .ok (.getfield 170, 3) := by decide +kernel
theorem dX6_close_41 : decode cX6_close 41 = .ok (.invokevirtual 286, 3) := by decide +kernel
theorem dX6_close_44 : decode cX6_close 44 = .ok (.aload_n 2, 1) := by decide +kernel
theorem dX6_close_45 : decode cX6_close 45 = .ok (.aconst_null, 1) := by decide +kernel
theorem dX6_close_46 : decode cX6_close 46 = .ok (.putfield 277, 3) := by decide +kernel
theorem dX6_close_49 : decode cX6_close 49 = .ok (.aload_n 2, 1) := by decide +kernel
theorem dX6_close_50 : decode cX6_close 50 = .ok (.bipush 99, 2) := by decide +kernel
theorem dX6_close_52 : decode cX6_close 52 = .ok (.putfield 72, 3) := by decide +kernel
theorem dX6_close_55 : decode cX6_close 55 = .ok (.aload_n 2, 1) := by decide +kernel
theorem dX6_close_56 : decode cX6_close 56 = .ok (.aload_n 0, 1) := by decide +kernel
theorem dX6_close_57 : decode cX6_close 57 = .ok (.getfield 84, 3) := by decide +kernel
theorem dX6_close_60 : decode cX6_close 60 = .ok (.putfield 290, 3) := by decide +kernel
theorem dX6_close_63 : decode cX6_close 63 = .ok (.aload_n 0, 1) := by decide +kernel
theorem dX6_close_64 : decode cX6_close 64 = .ok (.invokevirtual 293, 3) := by decide +kernel
theorem dX6_close_67 : decode cX6_close 67 = .ok (.ireturn, 1) := by decide +kernel
theorem dX6_merge_0 : decode cX6_merge 0 = .ok (.aload_n 0, 1) := by decide +kernel
theorem dX6_merge_1 : decode cX6_merge 1 = .ok (.iload_n 1, 1) := by decide +kernel
theorem dX6_merge_2 : decode cX6_merge 2 = .ok (.invokevirtual 152, 3) := by decide +kernel
theorem dX6_merge_5 : decode cX6_merge 5 = .ok (.astore_n 3, 1) := by decide +kernel
theorem dX6_merge_6 : decode cX6_merge 6 = .ok (.aload_n 0, 1) := by decide +kernel
theorem dX6_merge_7 : decode cX6_merge 7 = .ok (.iload_n 2, 1) := by decide +kernel
theorem dX6_merge_8 : decode cX6_merge 8 = .ok (.invokevirtual 152, 3) := by decide +kernel
theorem dX6_merge_11 : decode cX6_merge 11 = .ok (.astore 4, 2) := by decide +kernel
theorem dX6_merge_13 : decode cX6_merge 13 = .ok (.aload_n 3, 1) := by decide +kernel
theorem dX6_merge_14 : decode cX6_merge 14 = .ok (.aload 4, 2) := by decide +kernel
theorem dX6_merge_16 : decode cX6_merge 16 = .ok (.if_acmp .ne 14, 3) := by decide +kernel
theorem dX6_merge_19 : decode cX6_merge 19 = .ok (.new 55, 3) := by decide +kernel
theorem dX6_merge_22 : decode cX6_merge 22 = .ok (.dup, 1) := by decide +kernel
theorem dX6_merge_23 : decode cX6_merge 23 = .ok (.ldc_w 296, 3) := by decide +kernel
theorem dX6_merge_26 : decode cX6_merge 26 = .ok (.invokespecial 59, 3) := by decide +kernel
theorem dX6_merge_29 : decode cX6_merge 29 = .ok (.athrow, 1) := by decide +kernel
theorem dX6_merge_30 : decode cX6_merge 30 = .ok (.aload_n 3, 1) := by decide +kernel
theorem dX6_merge_31 : decode cX6_merge 31 = .ok (.invokestatic 167, 3) := by decide +kernel
theorem dX6_merge_34 : decode cX6_merge 34 = .ok (.aload 4, 2) := by decide +kernel
theorem dX6_merge_36 : decode cX6_merge 36 = .ok (.invokestatic 167, 3) := by decide +kernel
theorem dX6_merge_39 : decode cX6_merge 39 = .ok (.aload_n 3, 1) := by decide +kernel
theorem dX6_merge_40 : decode cX6_merge 40 = .ok (.getfield 298, 3) := by decide +kernel
theorem dX6_merge_43 : decode cX6_merge 43 = .ok (.aload 4, 2) := by decide +kernel
theorem dX6_merge_45 : decode cX6_merge 45 = .ok (.getfield 298, 3) := by decide +kernel
theorem dX6_merge_48 : decode cX6_merge 48 = .ok (.if_acmp .eq 14, 3) := by decide +kernel
theorem dX6_merge_51 : decode cX6_merge 51 = .ok (.new 210, 3) := by decide +kernel
theorem dX6_merge_54 : decode cX6_merge 54 = .ok (.dup, 1) := by decide +kernel
theorem dX6_merge_55 : decode cX6_merge 55 = .ok (.ldc_w 302, 3) := by decide +kernel
theorem dX6_merge_58 : decode cX6_merge 58 = .ok (.invokespecial 214, 3) := by decide +kernel
theorem dX6_merge_61 : decode cX6_merge 61 = .ok (.athrow, 1) := by decide +kernel
theorem dX6_merge_62 : decode cX6_merge 62 = .ok (.aload_n 0, 1) := by decide +kernel
theorem dX6_merge_63 : decode cX6_merge 63 = .ok (.aload_n 3, 1) := by decide +kernel
theorem dX6_merge_64 : decode cX6_merge 64 = .ok (.invokevirtual 130, 3) := by decide +kernel
theorem dX6_merge_67 : decode cX6_merge 67 = .ok (.aload_n 0, 1) := by decide +kernel
theorem dX6_merge_68 : decode cX6_merge 68 = .ok (.aload 4, 2) := by decide +kernel
theorem dX6_merge_70 : decode cX6_merge 70 = .ok (.invokevirtual 130, 3) := by decide +kernel
theorem dX6_merge_73 : decode cX6_merge 73 = .ok (.aload_n 3, 1) := by decide +kernel
theorem dX6_merge_74 : decode cX6_merge 74 = .ok (.invokevirtual 182, 3) := by decide +kernel
theorem dX6_merge_77 : decode cX6_merge 77 = .ok (.aload 4, 2) := by decide +kernel
theorem dX6_merge_79 : decode cX6_merge 79 = .ok (.aload_n 3, 1) := by decide +kernel
theorem dX6_merge_80 : decode cX6_merge 80 = .ok (.invokevirtual 304, 3) := by decide +kernel
theorem dX6_merge_83 : decode cX6_merge 83 = .ok (.aload_n 0, 1) := by decide +kernel
theorem dX6_merge_84 : decode cX6_merge 84 = .ok (.aload 4, 2) := by decide +kernel
theorem dX6_merge_86 : decode cX6_merge 86 = .ok (.invokevirtual 138, 3) := by decide +kernel
theorem dX6_merge_89 : decode cX6_merge 89 = .ok (.aload 4, 2) := by decide +kernel
theorem dX6_merge_91 : decode cX6_merge 91 = .ok (.getfield 156, 3) := by decide +kernel
theorem dX6_merge_94 : decode cX6_merge 94 = .ok (.invokevirtual 62, 3) := by decide +kernel
theorem dX6_merge_97 : decode cX6_merge 97 = .ok (.ireturn, 1) := by decide +kernel
theorem dX6_addAnswer_0 : decode cX6_addAnswer 0 = .ok (.iload_n 1, 1) := by decide +kernel
theorem dX6_addAnswer_1 : decode cX6_addAnswer 1 = .ok (.invokestatic 104, 3) := by decide +kernel
theorem dX6_addAnswer_4 : decode cX6_addAnswer 4 = .ok (.ifCond .ne 14, 3) := by decide +kernel
theorem dX6_addAnswer_7 : decode cX6_addAnswer 7 = .ok (.new 55, 3) := by decide +kernel
theorem dX6_addAnswer_10 : decode cX6_addAnswer 10 = .ok (.dup, 1) := by decide +kernel
theorem dX6_addAnswer_11 : decode cX6_addAnswer 11 = .ok (.ldc_w 307, 3) := by decide +kernel
theorem dX6_addAnswer_14 : decode cX6_addAnswer 14 = .ok (.invokespecial 59, 3) := by decide +kernel
theorem dX6_addAnswer_17 : decode cX6_addAnswer 17 = .ok (.athrow, 1) := by decide +kernel
theorem dX6_addAnswer_18 : decode cX6_addAnswer 18 = .ok (.aload_n 0, 1) := by decide +kernel
theorem dX6_addAnswer_19 : decode cX6_addAnswer 19 = .ok (.getfield 42, 3) := by decide +kernel
theorem dX6_addAnswer_22 : decode cX6_addAnswer 22 = .ok (.invokevirtual 62, 3) := by decide +kernel
theorem dX6_addAnswer_25 : decode cX6_addAnswer 25 = .ok (.bipush 8, 2) := by decide +kernel
theorem dX6_addAnswer_27 : decode cX6_addAnswer 27 = .ok (.if_icmp .lt 14, 3) := by decide +kernel
theorem dX6_addAnswer_30 : decode cX6_addAnswer 30 = .ok (.new 118, 3) := by decide +kernel
theorem dX6_addAnswer_33 : decode cX6_addAnswer 33 = .ok (.dup, 1) := by decide +kernel
theorem dX6_addAnswer_34 : decode cX6_addAnswer 34 = .ok (.ldc_w 309, 3) := by decide +kernel
theorem dX6_addAnswer_37 : decode cX6_addAnswer 37 = .ok (.invokespecial 122, 3) := by decide +kernel
theorem dX6_addAnswer_40 : decode cX6_addAnswer 40 = .ok (.athrow, 1) := by decide +kernel
theorem dX6_addAnswer_41 : decode cX6_addAnswer 41 = .ok (.aload_n 0, 1) := by decide +kernel
theorem dX6_addAnswer_42 : decode cX6_addAnswer 42 = .ok (.getfield 42, 3) := by decide +kernel
theorem dX6_addAnswer_45 : decode cX6_addAnswer 45 = .ok (.invokevirtual 62, 3) := by decide +kernel
theorem dX6_addAnswer_48 : decode cX6_addAnswer 48 = .ok (.istore_n 2, 1) := by decide +kernel
theorem dX6_addAnswer_49 : decode cX6_addAnswer 49 = .ok (.aload_n 0, 1) := by decide +kernel
theorem dX6_addAnswer_50 : decode cX6_addAnswer 50 = .ok (.getfield 42, 3) := by decide +kernel
theorem dX6_addAnswer_53 : decode cX6_addAnswer 53 = .ok (.new 275, 3) := by decide +kernel
theorem dX6_addAnswer_56 : decode cX6_addAnswer 56 = .ok (.dup, 1) := by decide +kernel
theorem dX6_addAnswer_57 : decode cX6_addAnswer 57 = .ok (.iload_n 1, 1) := by decide +kernel
theorem dX6_addAnswer_58 : decode cX6_addAnswer 58 = .ok (.invokespecial 311, 3) := by decide +kernel
theorem dX6_addAnswer_61 : decode cX6_addAnswer 61 = .ok (.invokevirtual 126, 3) := by decide +kernel
theorem dX6_addAnswer_64 : decode cX6_addAnswer 64 = .ok (.pop, 1) := by decide +kernel
theorem dX6_addAnswer_65 : decode cX6_addAnswer 65 = .ok (.iconst 0, 1) := by decide +kernel
theorem dX6_addAnswer_66 : decode cX6_addAnswer 66 = .ok (.istore_n 3, 1) := by decide +kernel
theorem dX6_addAnswer_67 : decode cX6_addAnswer 67 = .ok (.iload_n 3, 1) := by decide +kernel
theorem dX6_addAnswer_68 : decode cX6_addAnswer 68 = .ok (.bipush 10, 2) := by decide +kernel
theorem dX6_addAnswer_70 : decode cX6_addAnswer 70 = .ok (.if_icmp .ge 30, 3) := by decide +kernel
theorem dX6_addAnswer_73 : decode cX6_addAnswer 73 = .ok (.iload_n 1, 1) := by decide +kernel
theorem dX6_addAnswer_74 : decode cX6_addAnswer 74 = .ok (.iload_n 3, 1) := by decide +kernel
theorem dX6_addAnswer_75 : decode cX6_addAnswer 75 = .ok (.ishr, 1) := by decide +kernel
theorem dX6_addAnswer_76 : decode cX6_addAnswer 76 = .ok (.iconst 1, 1) := by decide +kernel
theorem dX6_addAnswer_77 : decode cX6_addAnswer 77 = .ok (.iand, 1) := by decide +kernel
theorem dX6_addAnswer_78 : decode cX6_addAnswer 78 = .ok (.iconst 1, 1) := by decide +kernel
theorem dX6_addAnswer_79 : decode cX6_addAnswer 79 = .ok (.if_icmp .ne 15, 3) := by decide +kernel
theorem dX6_addAnswer_82 : decode cX6_addAnswer 82 = .ok (.aload_n 0, 1) := by decide +kernel
theorem dX6_addAnswer_83 : decode cX6_addAnswer 83 = .ok (.getfield 45, 3) := by decide +kernel
theorem dX6_addAnswer_86 : decode cX6_addAnswer 86 = .ok (.iload_n 3, 1) := by decide +kernel
theorem dX6_addAnswer_87 : decode cX6_addAnswer 87 = .ok (.dup2, 1) := by decide +kernel
theorem dX6_addAnswer_88 : decode cX6_addAnswer 88 = .ok (.iaload, 1) := by decide +kernel
theorem dX6_addAnswer_89 : decode cX6_addAnswer 89 = .ok (.iconst 1, 1) := by decide +kernel
theorem dX6_addAnswer_90 : decode cX6_addAnswer 90 = .ok (.iload_n 2, 1) := by decide +kernel
theorem dX6_addAnswer_91 : decode cX6_addAnswer 91 = .ok (.ishl, 1) := by decide +kernel
theorem dX6_addAnswer_92 : decode cX6_addAnswer 92 = .ok (.ior, 1) := by decide +kernel
theorem dX6_addAnswer_93 : decode cX6_addAnswer 93 = .ok (.iastore, 1) := by decide +kernel
theorem dX6_addAnswer_94 : decode cX6_addAnswer 94 = .ok (.iinc 3 1, 3) := by decide +kernel
theorem dX6_addAnswer_97 : decode cX6_addAnswer 97 = .ok (.goto (-30), 3) := by decide +kernel
theorem dX6_addAnswer_100 : decode cX6_addAnswer 100 = .ok (.iload_n 2, 1) := by decide +kernel
theorem dX6_addAnswer_101 : decode cX6_addAnswer 101 = .ok (.ireturn, 1) := by decide +kernel
theorem dX6_weight_0 : decode cX6_weight 0 = .ok (.aload_n 0, 1) := by decide +kernel
theorem dX6_weight_1 : decode cX6_weight 1 = .ok (.iload_n 1, 1) := by decide +kernel
theorem dX6_weight_2 : decode cX6_weight 2 = .ok (.invokevirtual 270, 3) := by decide +kernel
theorem dX6_weight_5 : decode cX6_weight 5 = .ok (.ifCond .ne 14, 3) := by decide +kernel
theorem dX6_weight_8 : decode cX6_weight 8 = .ok (.new 109, 3) := by decide +kernel
theorem dX6_weight_11 : decode cX6_weight 11 = .ok (.dup, 1) := by decide +kernel
theorem dX6_weight_12 : decode cX6_weight 12 = .ok (.ldc_w 273, 3) := by decide +kernel
theorem dX6_weight_15 : decode cX6_weight 15 = .ok (.invokespecial 113, 3) := by decide +kernel
theorem dX6_weight_18 : decode cX6_weight 18 = .ok (.athrow, 1) := by decide +kernel
theorem dX6_weight_19 : decode cX6_weight 19 = .ok (.iload_n 2, 1) := by decide +kernel
theorem dX6_weight_20 : decode cX6_weight 20 = .ok (.invokestatic 101, 3) := by decide +kernel
theorem dX6_weight_23 : decode cX6_weight 23 = .ok (.ifCond .ne 13, 3) := by decide +kernel
theorem dX6_weight_26 : decode cX6_weight 26 = .ok (.new 55, 3) := by decide +kernel
theorem dX6_weight_29 : decode cX6_weight 29 = .ok (.dup, 1) := by decide +kernel
theorem dX6_weight_30 : decode cX6_weight 30 = .ok (.ldc 165, 2) := by decide +kernel
theorem dX6_weight_32 : decode cX6_weight 32 = .ok (.invokespecial 59, 3) := by decide +kernel
theorem dX6_weight_35 : decode cX6_weight 35 = .ok (.athrow, 1) := by decide +kernel
theorem dX6_weight_36 : decode cX6_weight 36 = .ok (.aload_n 0, 1) := by decide +kernel
theorem dX6_weight_37 : decode cX6_weight 37 = .ok (.getfield 42, 3) := by decide +kernel
theorem dX6_weight_40 : decode cX6_weight 40 = .ok (.iload_n 1, 1) := by decide +kernel
theorem dX6_weight_41 : decode cX6_weight 41 = .ok (.invokevirtual 66, 3) := by decide +kernel
theorem dX6_weight_44 : decode cX6_weight 44 = .ok (.checkcast 275, 3) := by decide +kernel
theorem dX6_weight_47 : decode cX6_weight 47 = .ok (.getfield 313, 3) := by decide +kernel
theorem dX6_weight_50 : decode cX6_weight 50 = .ok (.iload_n 2, 1) := by decide +kernel
theorem dX6_weight_51 : decode cX6_weight 51 = .ok (.iaload, 1) := by decide +kernel
theorem dX6_weight_52 : decode cX6_weight 52 = .ok (.ireturn, 1) := by decide +kernel
theorem dX6_suggestion_0 : decode cX6_suggestion 0 = .ok (.aload_n 0, 1) := by decide +kernel
theorem dX6_suggestion_1 : decode cX6_suggestion 1 = .ok (.aload_n 0, 1) := by decide +kernel
theorem dX6_suggestion_2 : decode cX6_suggestion 2 = .ok (.iload_n 1, 1) := by decide +kernel
theorem dX6_suggestion_3 : decode cX6_suggestion 3 = .ok (.invokevirtual 152, 3) := by decide +kernel
theorem dX6_suggestion_6 : decode cX6_suggestion 6 = .ok (.invokevirtual 316, 3) := by decide +kernel
theorem dX6_suggestion_9 : decode cX6_suggestion 9 = .ok (.istore_n 2, 1) := by decide +kernel
theorem dX6_suggestion_10 : decode cX6_suggestion 10 = .ok (.iload_n 2, 1) := by decide +kernel
theorem dX6_suggestion_11 : decode cX6_suggestion 11 = .ok (.iconst (-1), 1) := by decide +kernel
theorem dX6_suggestion_12 : decode cX6_suggestion 12 = .ok (.if_icmp .ne 14, 3) := by decide +kernel
theorem dX6_suggestion_15 : decode cX6_suggestion 15 = .ok (.new 109, 3) := by decide +kernel
theorem dX6_suggestion_18 : decode cX6_suggestion 18 = .ok (.dup, 1) := by decide +kernel
theorem dX6_suggestion_19 : decode cX6_suggestion 19 = .ok (.ldc_w 320, 3) := by decide +kernel
theorem dX6_suggestion_22 : decode cX6_suggestion 22 = .ok (.invokespecial 113, 3) := by decide +kernel
theorem dX6_suggestion_25 : decode cX6_suggestion 25 = .ok (.athrow, 1) := by decide +kernel
theorem dX6_suggestion_26 : decode cX6_suggestion 26 = .ok (.iload_n 2, 1) := by decide +kernel
theorem dX6_suggestion_27 : decode cX6_suggestion 27 = .ok (.ireturn, 1) := by decide +kernel
theorem dX6_suggestionByWords_0 : decode cX6_suggestionByWords 0 = .ok (.aload_n 0, 1) := by decide +kernel
theorem dX6_suggestionByWords_1 : decode cX6_suggestionByWords 1 = .ok (.aload_n 0, 1) := by decide +kernel
theorem dX6_suggestionByWords_2 : decode cX6_suggestionByWords 2 = .ok (.iload_n 1, 1) := by decide +kernel
theorem dX6_suggestionByWords_3 : decode cX6_suggestionByWords 3 = .ok (.invokevirtual 152, 3) := by decide +kernel
theorem dX6_suggestionByWords_6 : decode cX6_suggestionByWords 6 = .ok (.invokevirtual 322, 3) := by decide +kernel
theorem dX6_suggestionByWords_9 : decode cX6_suggestionByWords 9 = .ok (.istore_n 2, 1) := by decide +kernel
theorem dX6_suggestionByWords_10 : decode cX6_suggestionByWords 10 = .ok (.iload_n 2, 1) := by decide +kernel
theorem dX6_suggestionByWords_11 : decode cX6_suggestionByWords 11 = .ok (.iconst (-1), 1) := by decide +kernel
theorem dX6_suggestionByWords_12 : decode cX6_suggestionByWords 12 = .ok (.if_icmp .ne 14, 3) := by decide +kernel
theorem dX6_suggestionByWords_15 : decode cX6_suggestionByWords 15 = .ok (.new 109, 3) := by decide +kernel
theorem dX6_suggestionByWords_18 : decode cX6_suggestionByWords 18 = .ok (.dup, 1) := by decide +kernel
theorem dX6_suggestionByWords_19 : decode cX6_suggestionByWords 19 = .ok (.ldc_w 320, 3) := by decide +kernel
theorem dX6_suggestionByWords_22 : decode cX6_suggestionByWords 22 = .ok (.invokespecial 113, 3) := by decide +kernel
theorem dX6_suggestionByWords_25 : decode cX6_suggestionByWords 25 = .ok (.athrow, 1) := by decide +kernel
theorem dX6_suggestionByWords_26 : decode cX6_suggestionByWords 26 = .ok (.iload_n 2, 1) := by decide +kernel
theorem dX6_suggestionByWords_27 : decode cX6_suggestionByWords 27 = .ok (.ireturn, 1) := by decide +kernel
theorem dX6_breaches_0 : decode cX6_breaches 0 = .ok (.aload_n 0, 1) := by decide +kernel
theorem dX6_breaches_1 : decode cX6_breaches 1 = .ok (.getfield 88, 3) := by decide +kernel
theorem dX6_breaches_4 : decode cX6_breaches 4 = .ok (.ireturn, 1) := by decide +kernel
theorem dX6_answers_0 : decode cX6_answers 0 = .ok (.aload_n 0, 1) := by decide +kernel
theorem dX6_answers_1 : decode cX6_answers 1 = .ok (.getfield 325, 3) := by decide +kernel
theorem dX6_answers_4 : decode cX6_answers 4 = .ok (.ireturn, 1) := by decide +kernel
theorem dX6_minutesOpen_0 : decode cX6_minutesOpen 0 = .ok (.aload_n 0, 1) := by decide +kernel
theorem dX6_minutesOpen_1 : decode cX6_minutesOpen 1 = .ok (.getfield 76, 3) := by decide +kernel
theorem dX6_minutesOpen_4 : decode cX6_minutesOpen 4 = .ok (.lreturn, 1) := by decide +kernel
theorem dX6_keptShare_0 : decode cX6_keptShare 0 = .ok (.aload_n 0, 1) := by decide +kernel
theorem dX6_keptShare_1 : decode cX6_keptShare 1 = .ok (.getfield 325, 3) := by decide +kernel
theorem dX6_keptShare_4 : decode cX6_keptShare 4 = .ok (.ifCond .ne 14, 3) := by decide +kernel
theorem dX6_keptShare_7 : decode cX6_keptShare 7 = .ok (.new 328, 3) := by decide +kernel
theorem dX6_keptShare_10 : decode cX6_keptShare 10 = .ok (.dup, 1) := by decide +kernel
theorem dX6_keptShare_11 : decode cX6_keptShare 11 = .ok (.ldc_w 330, 3) := by decide +kernel
theorem dX6_keptShare_14 : decode cX6_keptShare 14 = .ok (.invokespecial 332, 3) := by decide +kernel
theorem dX6_keptShare_17 : decode cX6_keptShare 17 = .ok (.athrow, 1) := by decide +kernel
theorem dX6_keptShare_18 : decode cX6_keptShare 18 = .ok (.aload_n 0, 1) := by decide +kernel
theorem dX6_keptShare_19 : decode cX6_keptShare 19 = .ok (.getfield 333, 3) := by decide +kernel
theorem dX6_keptShare_22 : decode cX6_keptShare 22 = .ok (.i2f, 1) := by decide +kernel
theorem dX6_keptShare_23 : decode cX6_keptShare 23 = .ok (.aload_n 0, 1) := by decide +kernel
theorem dX6_keptShare_24 : decode cX6_keptShare 24 = .ok (.getfield 325, 3) := by decide +kernel
theorem dX6_keptShare_27 : decode cX6_keptShare 27 = .ok (.i2f, 1) := by decide +kernel
theorem dX6_keptShare_28 : decode cX6_keptShare 28 = .ok (.fdiv, 1) := by decide +kernel
theorem dX6_keptShare_29 : decode cX6_keptShare 29 = .ok (.freturn, 1) := by decide +kernel
theorem dX6_meanClock_0 : decode cX6_meanClock 0 = .ok (.aload_n 0, 1) := by decide +kernel
theorem dX6_meanClock_1 : decode cX6_meanClock 1 = .ok (.getfield 325, 3) := by decide +kernel
theorem dX6_meanClock_4 : decode cX6_meanClock 4 = .ok (.ifCond .ne 14, 3) := by decide +kernel
theorem dX6_meanClock_7 : decode cX6_meanClock 7 = .ok (.new 328, 3) := by decide +kernel
theorem dX6_meanClock_10 : decode cX6_meanClock 10 = .ok (.dup, 1) := by decide +kernel
theorem dX6_meanClock_11 : decode cX6_meanClock 11 = .ok (.ldc_w 330, 3) := by decide +kernel
theorem dX6_meanClock_14 : decode cX6_meanClock 14 = .ok (.invokespecial 332, 3) := by decide +kernel
theorem dX6_meanClock_17 : decode cX6_meanClock 17 = .ok (.athrow, 1) := by decide +kernel
theorem dX6_meanClock_18 : decode cX6_meanClock 18 = .ok (.aload_n 0, 1) := by decide +kernel
theorem dX6_meanClock_19 : decode cX6_meanClock 19 = .ok (.getfield 336, 3) := by decide +kernel
theorem dX6_meanClock_22 : decode cX6_meanClock 22 = .ok (.l2d, 1) := by decide +kernel
theorem dX6_meanClock_23 : decode cX6_meanClock 23 = .ok (.aload_n 0, 1) := by decide +kernel
theorem dX6_meanClock_24 : decode cX6_meanClock 24 = .ok (.getfield 325, 3) := by decide +kernel
theorem dX6_meanClock_27 : decode cX6_meanClock 27 = .ok (.i2d, 1) := by decide +kernel
theorem dX6_meanClock_28 : decode cX6_meanClock 28 = .ok (.ddiv, 1) := by decide +kernel
theorem dX6_meanClock_29 : decode cX6_meanClock 29 = .ok (.dreturn, 1) := by decide +kernel
theorem dX6_isSound_0 : decode cX6_isSound 0 = .ok (.aload_n 0, 1) := by decide +kernel
theorem dX6_isSound_1 : decode cX6_isSound 1 = .ok (.invokevirtual 339, 3) := by decide +kernel
theorem dX6_isSound_4 : decode cX6_isSound 4 = .ok (.ifCond .eq 14, 3) := by decide +kernel
theorem dX6_isSound_7 : decode cX6_isSound 7 = .ok (.aload_n 0, 1) := by decide +kernel
theorem dX6_isSound_8 : decode cX6_isSound 8 = .ok (.invokevirtual 342, 3) := by decide +kernel
theorem dX6_isSound_11 : decode cX6_isSound 11 = .ok (.ifCond .eq 7, 3) := by decide +kernel
theorem dX6_isSound_14 : decode cX6_isSound 14 = .ok (.iconst 1, 1) := by decide +kernel
theorem dX6_isSound_15 : decode cX6_isSound 15 = .ok (.goto 4, 3) := by decide +kernel
theorem dX6_isSound_18 : decode cX6_isSound 18 = .ok (.iconst 0, 1) := by decide +kernel
theorem dX6_isSound_19 : decode cX6_isSound 19 = .ok (.ireturn, 1) := by decide +kernel
theorem dX6_isWithin_0 : decode cX6_isWithin 0 = .ok (.iload_n 0, 1) := by decide +kernel
theorem dX6_isWithin_1 : decode cX6_isWithin 1 = .ok (.iload_n 1, 1) := by decide +kernel
theorem dX6_isWithin_2 : decode cX6_isWithin 2 = .ok (.if_icmp .lt 12, 3) := by decide +kernel
theorem dX6_isWithin_5 : decode cX6_isWithin 5 = .ok (.iload_n 0, 1) := by decide +kernel
theorem dX6_isWithin_6 : decode cX6_isWithin 6 = .ok (.iload_n 2, 1) := by decide +kernel
theorem dX6_isWithin_7 : decode cX6_isWithin 7 = .ok (.if_icmp .gt 7, 3) := by decide +kernel
theorem dX6_isWithin_10 : decode cX6_isWithin 10 = .ok (.iconst 1, 1) := by decide +kernel
theorem dX6_isWithin_11 : decode cX6_isWithin 11 = .ok (.goto 4, 3) := by decide +kernel
theorem dX6_isWithin_14 : decode cX6_isWithin 14 = .ok (.iconst 0, 1) := by decide +kernel
theorem dX6_isWithin_15 : decode cX6_isWithin 15 = .ok (.ireturn, 1) := by decide +kernel
theorem dX6_isTopic_0 : decode cX6_isTopic 0 = .ok (.iload_n 0, 1) := by decide +kernel
theorem dX6_isTopic_1 : decode cX6_isTopic 1 = .ok (.iconst 0, 1) := by decide +kernel
theorem dX6_isTopic_2 : decode cX6_isTopic 2 = .ok (.iconst 5, 1) := by decide +kernel
theorem dX6_isTopic_3 : decode cX6_isTopic 3 = .ok (.invokestatic 51, 3) := by decide +kernel
theorem dX6_isTopic_6 : decode cX6_isTopic 6 = .ok (.ireturn, 1) := by decide +kernel
theorem dX6_areWords_0 : decode cX6_areWords 0 = .ok (.iload_n 0, 1) := by decide +kernel
theorem dX6_areWords_1 : decode cX6_areWords 1 = .ok (.iconst 0, 1) := by decide +kernel
theorem dX6_areWords_2 : decode cX6_areWords 2 = .ok (.sipush 1023, 3) := by decide +kernel
theorem dX6_areWords_5 : decode cX6_areWords 5 = .ok (.invokestatic 51, 3) := by decide +kernel
theorem dX6_areWords_8 : decode cX6_areWords 8 = .ok (.ireturn, 1) := by decide +kernel
theorem dX6_isAnswer_0 : decode cX6_isAnswer 0 = .ok (.iload_n 1, 1) := by decide +kernel
theorem dX6_isAnswer_1 : decode cX6_isAnswer 1 = .ok (.iconst 0, 1) := by decide +kernel
theorem dX6_isAnswer_2 : decode cX6_isAnswer 2 = .ok (.aload_n 0, 1) := by decide +kernel
theorem dX6_isAnswer_3 : decode cX6_isAnswer 3 = .ok (.getfield 42, 3) := by decide +kernel
theorem dX6_isAnswer_6 : decode cX6_isAnswer 6 = .ok (.invokevirtual 62, 3) := by decide +kernel
theorem dX6_isAnswer_9 : decode cX6_isAnswer 9 = .ok (.iconst 1, 1) := by decide +kernel
theorem dX6_isAnswer_10 : decode cX6_isAnswer 10 = .ok (.isub, 1) := by decide +kernel
theorem dX6_isAnswer_11 : decode cX6_isAnswer 11 = .ok (.invokestatic 51, 3) := by decide +kernel
theorem dX6_isAnswer_14 : decode cX6_isAnswer 14 = .ok (.ireturn, 1) := by decide +kernel
theorem dX6_ticketNumbered_0 : decode cX6_ticketNumbered 0 = .ok (.iload_n 1, 1) := by decide +kernel
theorem dX6_ticketNumbered_1 : decode cX6_ticketNumbered 1 = .ok (.iconst 0, 1) := by decide +kernel
theorem dX6_ticketNumbered_2 : decode cX6_ticketNumbered 2 = .ok (.aload_n 0, 1) := by decide +kernel
theorem dX6_ticketNumbered_3 : decode cX6_ticketNumbered 3 = .ok (.getfield 36, 3) := by decide +kernel
theorem dX6_ticketNumbered_6 : decode cX6_ticketNumbered 6 = .ok (.invokevirtual 62, 3) := by decide +kernel
theorem dX6_ticketNumbered_9 : decode cX6_ticketNumbered 9 = .ok (.iconst 1, 1) := by decide +kernel
theorem dX6_ticketNumbered_10 : decode cX6_ticketNumbered 10 = .ok (.isub, 1) := by decide +kernel
theorem dX6_ticketNumbered_11 : decode cX6_ticketNumbered 11 = .ok (.invokestatic 51, 3) := by decide +kernel
theorem dX6_ticketNumbered_14 : decode cX6_ticketNumbered 14 = .ok (.ifCond .ne 14, 3) := by decide +kernel
theorem dX6_ticketNumbered_17 : decode cX6_ticketNumbered 17 = .ok (.new 345, 3) := by decide +kernel
theorem dX6_ticketNumbered_20 : decode cX6_ticketNumbered 20 = .ok (.dup, 1) := by decide +kernel
theorem dX6_ticketNumbered_21 : decode cX6_ticketNumbered 21 = .ok (.ldc_w 347, 3) := by decide +kernel
theorem dX6_ticketNumbered_24 : decode cX6_ticketNumbered 24 = .ok (.invokespecial 349, 3) := by decide +kernel
theorem dX6_ticketNumbered_27 : decode cX6_ticketNumbered 27 = .ok (.athrow, 1) := by decide +kernel
theorem dX6_ticketNumbered_28 : decode cX6_ticketNumbered 28 = .ok (.aload_n 0, 1) := by decide +kernel
theorem dX6_ticketNumbered_29 : decode cX6_ticketNumbered 29 = .ok (.getfield 36, 3) := by decide +kernel
theorem dX6_ticketNumbered_32 : decode cX6_ticketNumbered 32 = .ok (.iload_n 1, 1) := by decide +kernel
theorem dX6_ticketNumbered_33 : decode cX6_ticketNumbered 33 = .ok (.invokevirtual 66, 3) := by decide +kernel
theorem dX6_ticketNumbered_36 : decode cX6_ticketNumbered 36 = .ok (.checkcast 70, 3) := by decide +kernel
theorem dX6_ticketNumbered_39 : decode cX6_ticketNumbered 39 = .ok (.areturn, 1) := by decide +kernel
theorem dX6_agentNumbered_0 : decode cX6_agentNumbered 0 = .ok (.iload_n 1, 1) := by decide +kernel
theorem dX6_agentNumbered_1 : decode cX6_agentNumbered 1 = .ok (.iconst 0, 1) := by decide +kernel
theorem dX6_agentNumbered_2 : decode cX6_agentNumbered 2 = .ok (.aload_n 0, 1) := by decide +kernel
theorem dX6_agentNumbered_3 : decode cX6_agentNumbered 3 = .ok (.getfield 39, 3) := by decide +kernel
theorem dX6_agentNumbered_6 : decode cX6_agentNumbered 6 = .ok (.invokevirtual 62, 3) := by decide +kernel
theorem dX6_agentNumbered_9 : decode cX6_agentNumbered 9 = .ok (.iconst 1, 1) := by decide +kernel
theorem dX6_agentNumbered_10 : decode cX6_agentNumbered 10 = .ok (.isub, 1) := by decide +kernel
theorem dX6_agentNumbered_11 : decode cX6_agentNumbered 11 = .ok (.invokestatic 51, 3) := by decide +kernel
theorem dX6_agentNumbered_14 : decode cX6_agentNumbered 14 = .ok (.ifCond .ne 14, 3) := by decide +kernel
theorem dX6_agentNumbered_17 : decode cX6_agentNumbered 17 = .ok (.new 345, 3) := by decide +kernel
theorem dX6_agentNumbered_20 : decode cX6_agentNumbered 20 = .ok (.dup, 1) := by decide +kernel
theorem dX6_agentNumbered_21 : decode cX6_agentNumbered 21 = .ok (.ldc_w 350, 3) := by decide +kernel
theorem dX6_agentNumbered_24 : decode cX6_agentNumbered 24 = .ok (.invokespecial 349, 3) := by decide +kernel
theorem dX6_agentNumbered_27 : decode cX6_agentNumbered 27 = .ok (.athrow, 1) := by decide +kernel
theorem dX6_agentNumbered_28 : decode cX6_agentNumbered 28 = .ok (.aload_n 0, 1) := by decide +kernel
theorem dX6_agentNumbered_29 : decode cX6_agentNumbered 29 = .ok (.getfield 39, 3) := by decide +kernel
theorem dX6_agentNumbered_32 : decode cX6_agentNumbered 32 = .ok (.iload_n 1, 1) := by decide +kernel
theorem dX6_agentNumbered_33 : decode cX6_agentNumbered 33 = .ok (.invokevirtual 66, 3) := by decide +kernel
theorem dX6_agentNumbered_36 : decode cX6_agentNumbered 36 = .ok (.checkcast 178, 3) := by decide +kernel
theorem dX6_agentNumbered_39 : decode cX6_agentNumbered 39 = .ok (.areturn, 1) := by decide +kernel
theorem dX6_requireOpenOrHeld_0 : decode cX6_requireOpenOrHeld 0 = .ok (.aload_n 0, 1) := by decide +kernel
theorem dX6_requireOpenOrHeld_1 : decode cX6_requireOpenOrHeld 1 = .ok (.invokevirtual 191, 3) := by decide +kernel
theorem dX6_requireOpenOrHeld_4 : decode cX6_requireOpenOrHeld 4 = .ok (.ifCond .ne 14, 3) := by decide +kernel
theorem dX6_requireOpenOrHeld_7 : decode cX6_requireOpenOrHeld 7 = .ok (.new 118, 3) := by decide +kernel
theorem dX6_requireOpenOrHeld_10 : decode cX6_requireOpenOrHeld 10 = .ok (.dup, 1) := by decide +kernel
theorem dX6_requireOpenOrHeld_11 : decode cX6_requireOpenOrHeld 11 = .ok (.ldc_w 352, 3) := by decide +kernel
theorem dX6_requireOpenOrHeld_14 : decode cX6_requireOpenOrHeld 14 = .ok (.invokespecial 122, 3) := by decide +kernel
theorem dX6_requireOpenOrHeld_17 : decode cX6_requireOpenOrHeld 17 = .ok (.athrow, 1) := by decide +kernel
theorem dX6_requireOpenOrHeld_18 : decode cX6_requireOpenOrHeld 18 = .ok (.return_, 1) := by decide +kernel
theorem dX6_ticketToJoin_0 : decode cX6_ticketToJoin 0 = .ok (.iload_n 3, 1) := by decide +kernel
theorem dX6_ticketToJoin_1 : decode cX6_ticketToJoin 1 = .ok (.iconst 0, 1) := by decide +kernel
theorem dX6_ticketToJoin_2 : decode cX6_ticketToJoin 2 = .ok (.aload_n 0, 1) := by decide +kernel
theorem dX6_ticketToJoin_3 : decode cX6_ticketToJoin 3 = .ok (.getfield 32, 3) := by decide +kernel
theorem dX6_ticketToJoin_6 : decode cX6_ticketToJoin 6 = .ok (.invokevirtual 62, 3) := by decide +kernel
theorem dX6_ticketToJoin_9 : decode cX6_ticketToJoin 9 = .ok (.iconst 1, 1) := by decide +kernel
theorem dX6_ticketToJoin_10 : decode cX6_ticketToJoin 10 = .ok (.isub, 1) := by decide +kernel
theorem dX6_ticketToJoin_11 : decode cX6_ticketToJoin 11 = .ok (.invokestatic 51, 3) := by decide +kernel
theorem dX6_ticketToJoin_14 : decode cX6_ticketToJoin 14 = .ok (.ifCond .eq 43, 3) := by decide +kernel
theorem dX6_ticketToJoin_17 : decode cX6_ticketToJoin 17 = .ok (.aload_n 0, 1) := by decide +kernel
theorem dX6_ticketToJoin_18 : decode cX6_ticketToJoin 18 = .ok (.getfield 32, 3) := by decide +kernel
theorem dX6_ticketToJoin_21 : decode cX6_ticketToJoin 21 = .ok (.iload_n 3, 1) := by decide +kernel
theorem dX6_ticketToJoin_22 : decode cX6_ticketToJoin 22 = .ok (.invokevirtual 66, 3) := by decide +kernel
theorem dX6_ticketToJoin_25 : decode cX6_ticketToJoin 25 = .ok (.checkcast 146, 3) := by decide +kernel
theorem dX6_ticketToJoin_28 : decode cX6_ticketToJoin 28 = .ok (.getfield 148, 3) := by decide +kernel
theorem dX6_ticketToJoin_31 : decode cX6_ticketToJoin 31 = .ok (.astore 4, 2) := by decide +kernel
theorem dX6_ticketToJoin_33 : decode cX6_ticketToJoin 33 = .ok (.aload 4, 2) := by decide +kernel
theorem dX6_ticketToJoin_35 : decode cX6_ticketToJoin 35 = .ok (.getfield 298, 3) := by decide +kernel
theorem dX6_ticketToJoin_38 : decode cX6_ticketToJoin 38 = .ok (.aload_n 1, 1) := by decide +kernel
theorem dX6_ticketToJoin_39 : decode cX6_ticketToJoin 39 = .ok (.if_acmp .ne 18, 3) := by decide +kernel
theorem dX6_ticketToJoin_42 : decode cX6_ticketToJoin 42 = .ok (.aload 4, 2) := by decide +kernel
theorem dX6_ticketToJoin_44 : decode cX6_ticketToJoin 44 = .ok (.aload_n 0, 1) := by decide +kernel
theorem dX6_ticketToJoin_45 : decode cX6_ticketToJoin 45 = .ok (.getfield 84, 3) := by decide +kernel
theorem dX6_ticketToJoin_48 : decode cX6_ticketToJoin 48 = .ok (.invokevirtual 354, 3) := by decide +kernel
theorem dX6_ticketToJoin_51 : decode cX6_ticketToJoin 51 = .ok (.ifCond .eq 6, 3) := by decide +kernel
theorem dX6_ticketToJoin_54 : decode cX6_ticketToJoin 54 = .ok (.aload 4, 2) := by decide +kernel
theorem dX6_ticketToJoin_56 : decode cX6_ticketToJoin 56 = .ok (.areturn, 1) := by decide +kernel
theorem dX6_ticketToJoin_57 : decode cX6_ticketToJoin 57 = .ok (.aload_n 0, 1) := by decide +kernel
theorem dX6_ticketToJoin_58 : decode cX6_ticketToJoin 58 = .ok (.aload_n 1, 1) := by decide +kernel
theorem dX6_ticketToJoin_59 : decode cX6_ticketToJoin 59 = .ok (.iload_n 2, 1) := by decide +kernel
theorem dX6_ticketToJoin_60 : decode cX6_ticketToJoin 60 = .ok (.invokevirtual 357, 3) := by decide +kernel
theorem dX6_ticketToJoin_63 : decode cX6_ticketToJoin 63 = .ok (.areturn, 1) := by decide +kernel
theorem dX6_latestWithSubject_0 : decode cX6_latestWithSubject 0 = .ok (.aconst_null, 1) := by decide +kernel
theorem dX6_latestWithSubject_1 : decode cX6_latestWithSubject 1 = .ok (.astore_n 3, 1) := by decide +kernel
theorem dX6_latestWithSubject_2 : decode cX6_latestWithSubject 2 = .ok (.iconst 0, 1) := by decide +kernel
theorem dX6_latestWithSubject_3 : decode cX6_latestWithSubject 3 = .ok (.istore 4, 2) := by decide +kernel
theorem dX6_latestWithSubject_5 : decode cX6_latestWithSubject 5 = .ok (.iload 4, 2) := by decide +kernel
theorem dX6_latestWithSubject_7 : decode cX6_latestWithSubject 7 = .ok (.aload_n 0, 1) := by decide +kernel
theorem dX6_latestWithSubject_8 : decode cX6_latestWithSubject 8 = .ok (.getfield 36, 3) := by decide +kernel
theorem dX6_latestWithSubject_11 : decode cX6_latestWithSubject 11 = .ok (.invokevirtual 62, 3) := by decide +kernel
theorem dX6_latestWithSubject_14 : decode cX6_latestWithSubject 14 = .ok (.if_icmp .ge 84, 3) := by decide +kernel
theorem dX6_latestWithSubject_17 : decode cX6_latestWithSubject 17 = .ok (.aload_n 0, 1) := by decide +kernel
theorem dX6_latestWithSubject_18 : decode cX6_latestWithSubject 18 = .ok (.getfield 36, 3) := by decide +kernel
theorem dX6_latestWithSubject_21 : decode cX6_latestWithSubject 21 = .ok (.iload 4, 2) := by decide +kernel
theorem dX6_latestWithSubject_23 : decode cX6_latestWithSubject 23 = .ok (.invokevirtual 66, 3) := by decide +kernel
theorem dX6_latestWithSubject_26 : decode cX6_latestWithSubject 26 = .ok (.checkcast 70, 3) := by decide +kernel
theorem dX6_latestWithSubject_29 : decode cX6_latestWithSubject 29 = .ok (.astore 5, 2) := by decide +kernel
theorem dX6_latestWithSubject_31 : decode cX6_latestWithSubject 31 = .ok (.aload 5, 2) := by decide +kernel
theorem dX6_latestWithSubject_33 : decode cX6_latestWithSubject 33 = .ok (.getfield 298, 3) := by decide +kernel
theorem dX6_latestWithSubject_36 : decode cX6_latestWithSubject 36 = .ok (.aload_n 1, 1) := by decide +kernel
theorem dX6_latestWithSubject_37 : decode cX6_latestWithSubject 37 = .ok (.if_acmp .ne 28, 3) := by decide +kernel
theorem dX6_latestWithSubject_40 : decode cX6_latestWithSubject 40 = .ok (.aload 5, 2) := by decide +kernel
theorem dX6_latestWithSubject_42 : decode cX6_latestWithSubject 42 = .ok (.getfield 361, 3) := by decide +kernel
theorem dX6_latestWithSubject_45 : decode cX6_latestWithSubject 45 = .ok (.iload_n 2, 1) := by decide +kernel
theorem dX6_latestWithSubject_46 : decode cX6_latestWithSubject 46 = .ok (.if_icmp .ne 19, 3) := by decide +kernel
theorem dX6_latestWithSubject_49 : decode cX6_latestWithSubject 49 = .ok (.aload 5, 2) := by decide +kernel
theorem dX6_latestWithSubject_51 : decode cX6_latestWithSubject 51 = .ok (.aload_n 0, 1) := by decide +kernel
theorem dX6_latestWithSubject_52 : decode cX6_latestWithSubject 52 = .ok (.getfield 84, 3) := by decide +kernel
theorem dX6_latestWithSubject_55 : decode cX6_latestWithSubject 55 = .ok (.invokevirtual 354, 3) := by decide +kernel
theorem dX6_latestWithSubject_58 : decode cX6_latestWithSubject 58 = .ok (.ifCond .eq 7, 3) := by decide +kernel
theorem dX6_latestWithSubject_61 : decode cX6_latestWithSubject 61 = .ok (.iconst 1, 1) := by decide +kernel
theorem dX6_latestWithSubject_62 : decode cX6_latestWithSubject 62 = .ok (.goto 4, 3) := by decide +kernel
theorem dX6_latestWithSubject_65 : decode cX6_latestWithSubject 65 = .ok (.iconst 0, 1) := by decide +kernel
theorem dX6_latestWithSubject_66 : decode cX6_latestWithSubject 66 = .ok (.istore 6, 2) := by decide +kernel
theorem dX6_latestWithSubject_68 : decode cX6_latestWithSubject 68 = .ok (.iload 6, 2) := by decide +kernel
theorem dX6_latestWithSubject_70 : decode cX6_latestWithSubject 70 = .ok (.ifCond .eq 22, 3) := by decide +kernel
theorem dX6_latestWithSubject_73 : decode cX6_latestWithSubject 73 = .ok (.aload_n 3, 1) := by decide +kernel
theorem dX6_latestWithSubject_74 : decode cX6_latestWithSubject 74 = .ok (.ifnull 15, 3) := by decide +kernel
theorem dX6_latestWithSubject_77 : decode cX6_latestWithSubject 77 = .ok (.aload 5, 2) := by decide +kernel
theorem dX6_latestWithSubject_79 : decode cX6_latestWithSubject 79 = .ok (.invokevirtual 364, 3) := by decide +kernel
theorem dX6_latestWithSubject_82 : decode cX6_latestWithSubject 82 = .ok (.aload_n 3, 1) := by decide +kernel
theorem dX6_latestWithSubject_83 : decode cX6_latestWithSubject 83 = .ok (.invokevirtual 364, 3) := by decide +kernel
theorem dX6_latestWithSubject_86 : decode cX6_latestWithSubject 86 = .ok (.if_icmp .le 6, 3) := by decide +kernel
theorem dX6_latestWithSubject_89 : decode cX6_latestWithSubject 89 = .ok (.aload 5, 2) := by decide +kernel
theorem dX6_latestWithSubject_91 : decode cX6_latestWithSubject 91 = .ok (.astore_n 3, 1) := by decide +kernel
theorem dX6_latestWithSubject_92 : decode cX6_latestWithSubject 92 = .ok (.iinc 4 1, 3) := by decide +kernel
theorem dX6_latestWithSubject_95 : decode cX6_latestWithSubject 95 = .ok (.goto (-90), 3) := by decide +kernel
theorem dX6_latestWithSubject_98 : decode cX6_latestWithSubject 98 = .ok (.aload_n 3, 1) := by decide +kernel
theorem dX6_latestWithSubject_99 : decode cX6_latestWithSubject 99 = .ok (.areturn, 1) := by decide +kernel
theorem dX6_addMail_0 : decode cX6_addMail 0 = .ok (.new 146, 3) := by decide +kernel
theorem dX6_addMail_3 : decode cX6_addMail 3 = .ok (.dup, 1) := by decide +kernel
theorem dX6_addMail_4 : decode cX6_addMail 4 = .ok (.aload_n 0, 1) := by decide +kernel
theorem dX6_addMail_5 : decode cX6_addMail 5 = .ok (.getfield 32, 3) := by decide +kernel
theorem dX6_addMail_8 : decode cX6_addMail 8 = .ok (.invokevirtual 62, 3) := by decide +kernel
theorem dX6_addMail_11 : decode cX6_addMail 11 = .ok (.aload_n 1, 1) := by decide +kernel
theorem dX6_addMail_12 : decode cX6_addMail 12 = .ok (.invokespecial 367, 3) := by decide +kernel
theorem dX6_addMail_15 : decode cX6_addMail 15 = .ok (.astore_n 3, 1) := by decide +kernel
theorem dX6_addMail_16 : decode cX6_addMail 16 = .ok (.aload_n 0, 1) := by decide +kernel
theorem dX6_addMail_17 : decode cX6_addMail 17 = .ok (.getfield 32, 3) := by decide +kernel
theorem dX6_addMail_20 : decode cX6_addMail 20 = .ok (.aload_n 3, 1) := by decide +kernel
theorem dX6_addMail_21 : decode cX6_addMail 21 = .ok (.invokevirtual 126, 3) := by decide +kernel
theorem dX6_addMail_24 : decode cX6_addMail 24 = .ok (.pop, 1) := by decide +kernel
theorem dX6_addMail_25 : decode cX6_addMail 25 = .ok (.aload_n 1, 1) := by decide +kernel
theorem dX6_addMail_26 : decode cX6_addMail 26 = .ok (.aload_n 3, 1) := by decide +kernel
theorem dX6_addMail_27 : decode cX6_addMail 27 = .ok (.invokevirtual 370, 3) := by decide +kernel
theorem dX6_addMail_30 : decode cX6_addMail 30 = .ok (.aload_n 1, 1) := by decide +kernel
theorem dX6_addMail_31 : decode cX6_addMail 31 = .ok (.dup, 1) := by decide +kernel
theorem dX6_addMail_32 : decode cX6_addMail 32 = .ok (.getfield 374, 3) := by decide +kernel
theorem dX6_addMail_35 : decode cX6_addMail 35 = .ok (.iload_n 2, 1) := by decide +kernel
theorem dX6_addMail_36 : decode cX6_addMail 36 = .ok (.ior, 1) := by decide +kernel
theorem dX6_addMail_37 : decode cX6_addMail 37 = .ok (.putfield 374, 3) := by decide +kernel
theorem dX6_addMail_40 : decode cX6_addMail 40 = .ok (.aload_n 1, 1) := by decide +kernel
theorem dX6_addMail_41 : decode cX6_addMail 41 = .ok (.getfield 72, 3) := by decide +kernel
theorem dX6_addMail_44 : decode cX6_addMail 44 = .ok (.bipush 97, 2) := by decide +kernel
theorem dX6_addMail_46 : decode cX6_addMail 46 = .ok (.if_icmp .eq 12, 3) := by decide +kernel
theorem dX6_addMail_49 : decode cX6_addMail 49 = .ok (.aload_n 1, 1) := by decide +kernel
theorem dX6_addMail_50 : decode cX6_addMail 50 = .ok (.getfield 72, 3) := by decide +kernel
theorem dX6_addMail_53 : decode cX6_addMail 53 = .ok (.bipush 99, 2) := by decide +kernel
theorem dX6_addMail_55 : decode cX6_addMail 55 = .ok (.if_icmp .ne 7, 3) := by decide +kernel
theorem dX6_addMail_58 : decode cX6_addMail 58 = .ok (.aload_n 1, 1) := by decide +kernel
theorem dX6_addMail_59 : decode cX6_addMail 59 = .ok (.invokevirtual 377, 3) := by decide +kernel
theorem dX6_addMail_62 : decode cX6_addMail 62 = .ok (.return_, 1) := by decide +kernel
theorem dX6_leaveQueue_0 : decode cX6_leaveQueue 0 = .ok (.aload_n 0, 1) := by decide +kernel
theorem dX6_leaveQueue_1 : decode cX6_leaveQueue 1 = .ok (.getfield 24, 3) := by decide +kernel
theorem dX6_leaveQueue_4 : decode cX6_leaveQueue 4 = .ok (.aload_n 1, 1) := by decide +kernel
theorem dX6_leaveQueue_5 : decode cX6_leaveQueue 5 = .ok (.getfield 170, 3) := by decide +kernel
theorem dX6_leaveQueue_8 : decode cX6_leaveQueue 8 = .ok (.aaload, 1) := by decide +kernel
theorem dX6_leaveQueue_9 : decode cX6_leaveQueue 9 = .ok (.aload_n 1, 1) := by decide +kernel
theorem dX6_leaveQueue_10 : decode cX6_leaveQueue 10 = .ok (.invokevirtual 380, 3) := by decide +kernel
theorem dX6_leaveQueue_13 : decode cX6_leaveQueue 13 = .ok (.return_, 1) := by decide +kernel
theorem dX6_joinQueue_0 : decode cX6_joinQueue 0 = .ok (.aload_n 1, 1) := by decide +kernel
theorem dX6_joinQueue_1 : decode cX6_joinQueue 1 = .ok (.invokevirtual 383, 3) := by decide +kernel
theorem dX6_joinQueue_4 : decode cX6_joinQueue 4 = .ok (.ifCond .eq 16, 3) := by decide +kernel
theorem dX6_joinQueue_7 : decode cX6_joinQueue 7 = .ok (.aload_n 0, 1) := by decide +kernel
theorem dX6_joinQueue_8 : decode cX6_joinQueue 8 = .ok (.getfield 24, 3) := by decide +kernel
theorem dX6_joinQueue_11 : decode cX6_joinQueue 11 = .ok (.aload_n 1, 1) := by decide +kernel
theorem dX6_joinQueue_12 : decode cX6_joinQueue 12 = .ok (.getfield 170, 3) := by decide +kernel
theorem dX6_joinQueue_15 : decode cX6_joinQueue 15 = .ok (.aaload, 1) := by decide +kernel
theorem dX6_joinQueue_16 : decode cX6_joinQueue 16 = .ok (.aload_n 1, 1) := by decide +kernel
theorem dX6_joinQueue_17 : decode cX6_joinQueue 17 = .ok (.invokevirtual 386, 3) := by decide +kernel
theorem dX6_joinQueue_20 : decode cX6_joinQueue 20 = .ok (.return_, 1) := by decide +kernel
theorem dX6_giveAllBack_0 : decode cX6_giveAllBack 0 = .ok (.iconst 0, 1) := by decide +kernel
theorem dX6_giveAllBack_1 : decode cX6_giveAllBack 1 = .ok (.istore_n 2, 1) := by decide +kernel
theorem dX6_giveAllBack_2 : decode cX6_giveAllBack 2 = .ok (.iload_n 2, 1) := by decide +kernel
theorem dX6_giveAllBack_3 : decode cX6_giveAllBack 3 = .ok (.aload_n 0, 1) := by decide +kernel
theorem dX6_giveAllBack_4 : decode cX6_giveAllBack 4 = .ok (.getfield 36, 3) := by decide +kernel
theorem dX6_giveAllBack_7 : decode cX6_giveAllBack 7 = .ok (.invokevirtual 62, 3) := by decide +kernel
theorem dX6_giveAllBack_10 : decode cX6_giveAllBack 10 = .ok (.if_icmp .ge 38, 3) := by decide +kernel
theorem dX6_giveAllBack_13 : decode cX6_giveAllBack 13 = .ok (.aload_n 0, 1) := by decide +kernel
theorem dX6_giveAllBack_14 : decode cX6_giveAllBack 14 = .ok (.getfield 36, 3) := by decide +kernel
theorem dX6_giveAllBack_17 : decode cX6_giveAllBack 17 = .ok (.iload_n 2, 1) := by decide +kernel
theorem dX6_giveAllBack_18 : decode cX6_giveAllBack 18 = .ok (.invokevirtual 66, 3) := by decide +kernel
theorem dX6_giveAllBack_21 : decode cX6_giveAllBack 21 = .ok (.checkcast 70, 3) := by decide +kernel
theorem dX6_giveAllBack_24 : decode cX6_giveAllBack 24 = .ok (.astore_n 3, 1) := by decide +kernel
theorem dX6_giveAllBack_25 : decode cX6_giveAllBack 25 = .ok (.aload_n 3, 1) := by decide +kernel
theorem dX6_giveAllBack_26 : decode cX6_giveAllBack 26 = .ok (.getfield 173, 3) := by decide +kernel
theorem dX6_giveAllBack_29 : decode cX6_giveAllBack 29 = .ok (.aload_n 1, 1) := by decide +kernel
theorem dX6_giveAllBack_30 : decode cX6_giveAllBack 30 = .ok (.if_acmp .ne 12, 3) := by decide +kernel
theorem dX6_giveAllBack_33 : decode cX6_giveAllBack 33 = .ok (.aload_n 3, 1) := by decide +kernel
theorem dX6_giveAllBack_34 : decode cX6_giveAllBack 34 = .ok (.invokevirtual 182, 3) := by decide +kernel
theorem dX6_giveAllBack_37 : decode cX6_giveAllBack 37 = .ok (.aload_n 0, 1) := by decide +kernel
theorem dX6_giveAllBack_38 : decode cX6_giveAllBack 38 = .ok (.aload_n 3, 1) := by decide +kernel
theorem dX6_giveAllBack_39 : decode cX6_giveAllBack 39 = .ok (.invokevirtual 138, 3) := by decide +kernel
theorem dX6_giveAllBack_42 : decode cX6_giveAllBack 42 = .ok (.iinc 2 1, 3) := by decide +kernel
theorem dX6_giveAllBack_45 : decode cX6_giveAllBack 45 = .ok (.goto (-43), 3) := by decide +kernel
theorem dX6_giveAllBack_48 : decode cX6_giveAllBack 48 = .ok (.return_, 1) := by decide +kernel
theorem dX6_orderQueuesAnew_0 : decode cX6_orderQueuesAnew 0 = .ok (.iconst 0, 1) := by decide +kernel
theorem dX6_orderQueuesAnew_1 : decode cX6_orderQueuesAnew 1 = .ok (.istore_n 1, 1) := by decide +kernel
theorem dX6_orderQueuesAnew_2 : decode cX6_orderQueuesAnew 2 = .ok (.iload_n 1, 1) := by decide +kernel
theorem dX6_orderQueuesAnew_3 : decode cX6_orderQueuesAnew 3 = .ok (.bipush 6, 2) := by decide +kernel
theorem dX6_orderQueuesAnew_5 : decode cX6_orderQueuesAnew 5 = .ok (.if_icmp .ge 18, 3) := by decide +kernel
theorem dX6_orderQueuesAnew_8 : decode cX6_orderQueuesAnew 8 = .ok (.aload_n 0, 1) := by decide +kernel
theorem dX6_orderQueuesAnew_9 : decode cX6_orderQueuesAnew 9 = .ok (.getfield 24, 3) := by decide +kernel
theorem dX6_orderQueuesAnew_12 : decode cX6_orderQueuesAnew 12 = .ok (.iload_n 1, 1) := by decide +kernel
theorem dX6_orderQueuesAnew_13 : decode cX6_orderQueuesAnew 13 = .ok (.aaload, 1) := by decide +kernel
theorem dX6_orderQueuesAnew_14 : decode cX6_orderQueuesAnew 14 = .ok (.invokevirtual 388, 3) := by decide +kernel
theorem dX6_orderQueuesAnew_17 : decode cX6_orderQueuesAnew 17 = .ok (.iinc 1 1, 3) := by decide +kernel
theorem dX6_orderQueuesAnew_20 : decode cX6_orderQueuesAnew 20 = .ok (.goto (-18), 3) := by decide +kernel
theorem dX6_orderQueuesAnew_23 : decode cX6_orderQueuesAnew 23 = .ok (.return_, 1) := by decide +kernel
theorem dX6_nextFromQueues_0 : decode cX6_nextFromQueues 0 = .ok (.aconst_null, 1) := by decide +kernel
theorem dX6_nextFromQueues_1 : decode cX6_nextFromQueues 1 = .ok (.astore_n 2, 1) := by decide +kernel
theorem dX6_nextFromQueues_2 : decode cX6_nextFromQueues 2 = .ok (.iconst 0, 1) := by decide +kernel
theorem dX6_nextFromQueues_3 : decode cX6_nextFromQueues 3 = .ok (.istore_n 3, 1) := by decide +kernel
theorem dX6_nextFromQueues_4 : decode cX6_nextFromQueues 4 = .ok (.iload_n 3, 1) := by decide +kernel
theorem dX6_nextFromQueues_5 : decode cX6_nextFromQueues 5 = .ok (.bipush 6, 2) := by decide +kernel
theorem dX6_nextFromQueues_7 : decode cX6_nextFromQueues 7 = .ok (.if_icmp .ge 31, 3) := by decide +kernel
theorem dX6_nextFromQueues_10 : decode cX6_nextFromQueues 10 = .ok (.aload_n 1, 1) := by decide +kernel
theorem dX6_nextFromQueues_11 : decode cX6_nextFromQueues 11 = .ok (.iload_n 3, 1) := by decide +kernel
theorem dX6_nextFromQueues_12 : decode cX6_nextFromQueues 12 = .ok (.invokevirtual 246, 3) := by decide +kernel
theorem dX6_nextFromQueues_15 : decode cX6_nextFromQueues 15 = .ok (.ifCond .eq 17, 3) := by decide +kernel
theorem dX6_nextFromQueues_18 : decode cX6_nextFromQueues 18 = .ok (.aload_n 2, 1) := by decide +kernel
theorem dX6_nextFromQueues_19 : decode cX6_nextFromQueues 19 = .ok (.aload_n 0, 1) := by decide +kernel
theorem dX6_nextFromQueues_20 : decode cX6_nextFromQueues 20 = .ok (.getfield 24, 3) := by decide +kernel
theorem dX6_nextFromQueues_23 : decode cX6_nextFromQueues 23 = .ok (.iload_n 3, 1) := by decide +kernel
theorem dX6_nextFromQueues_24 : decode cX6_nextFromQueues 24 = .ok (.aaload, 1) := by decide +kernel
theorem dX6_nextFromQueues_25 : decode cX6_nextFromQueues 25 = .ok (.invokevirtual 391, 3) := by decide +kernel
theorem dX6_nextFromQueues_28 : decode cX6_nextFromQueues 28 = .ok (.invokestatic 395, 3) := by decide +kernel
theorem dX6_nextFromQueues_31 : decode cX6_nextFromQueues 31 = .ok (.astore_n 2, 1) := by decide +kernel
theorem dX6_nextFromQueues_32 : decode cX6_nextFromQueues 32 = .ok (.iinc 3 1, 3) := by decide +kernel
theorem dX6_nextFromQueues_35 : decode cX6_nextFromQueues 35 = .ok (.goto (-31), 3) := by decide +kernel
theorem dX6_nextFromQueues_38 : decode cX6_nextFromQueues 38 = .ok (.aload_n 2, 1) := by decide +kernel
theorem dX6_nextFromQueues_39 : decode cX6_nextFromQueues 39 = .ok (.areturn, 1) := by decide +kernel
theorem dX6_nextFromTickets_0 : decode cX6_nextFromTickets 0 = .ok (.aconst_null, 1) := by decide +kernel
theorem dX6_nextFromTickets_1 : decode cX6_nextFromTickets 1 = .ok (.astore_n 2, 1) := by decide +kernel
theorem dX6_nextFromTickets_2 : decode cX6_nextFromTickets 2 = .ok (.iconst 0, 1) := by decide +kernel
theorem dX6_nextFromTickets_3 : decode cX6_nextFromTickets 3 = .ok (.istore_n 3, 1) := by decide +kernel
theorem dX6_nextFromTickets_4 : decode cX6_nextFromTickets 4 = .ok (.iload_n 3, 1) := by decide +kernel
theorem dX6_nextFromTickets_5 : decode cX6_nextFromTickets 5 = .ok (.aload_n 0, 1) := by decide +kernel
theorem dX6_nextFromTickets_6 : decode cX6_nextFromTickets 6 = .ok (.getfield 36, 3) := by decide +kernel
theorem dX6_nextFromTickets_9 : decode cX6_nextFromTickets 9 = .ok (.invokevirtual 62, 3) := by decide +kernel
theorem dX6_nextFromTickets_12 : decode cX6_nextFromTickets 12 = .ok (.if_icmp .ge 49, 3) := by decide +kernel
theorem dX6_nextFromTickets_15 : decode cX6_nextFromTickets 15 = .ok (.aload_n 0, 1) := by decide +kernel
theorem dX6_nextFromTickets_16 : decode cX6_nextFromTickets 16 = .ok (.getfield 36, 3) := by decide +kernel
theorem dX6_nextFromTickets_19 : decode cX6_nextFromTickets 19 = .ok (.iload_n 3, 1) := by decide +kernel
theorem dX6_nextFromTickets_20 : decode cX6_nextFromTickets 20 = .ok (.invokevirtual 66, 3) := by decide +kernel
theorem dX6_nextFromTickets_23 : decode cX6_nextFromTickets 23 = .ok (.checkcast 70, 3) := by decide +kernel
theorem dX6_nextFromTickets_26 : decode cX6_nextFromTickets 26 = .ok (.astore 4, 2) := by decide +kernel
theorem dX6_nextFromTickets_28 : decode cX6_nextFromTickets 28 = .ok (.aload 4, 2) := by decide +kernel
theorem dX6_nextFromTickets_30 : decode cX6_nextFromTickets 30 = .ok (.invokevirtual 383, 3) := by decide +kernel
theorem dX6_nextFromTickets_33 : decode cX6_nextFromTickets 33 = .ok (.ifCond .eq 22, 3) := by decide +kernel
theorem dX6_nextFromTickets_36 : decode cX6_nextFromTickets 36 = .ok (.aload_n 1, 1) := by decide +kernel
theorem dX6_nextFromTickets_37 : decode cX6_nextFromTickets 37 = .ok (.aload 4, 2) := by decide +kernel
theorem dX6_nextFromTickets_39 : decode cX6_nextFromTickets 39 = .ok (.getfield 170, 3) := by decide +kernel
theorem dX6_nextFromTickets_42 : decode cX6_nextFromTickets 42 = .ok (.invokevirtual 246, 3) := by decide +kernel
theorem dX6_nextFromTickets_45 : decode cX6_nextFromTickets 45 = .ok (.ifCond .eq 10, 3) := by decide +kernel
theorem dX6_nextFromTickets_48 : decode cX6_nextFromTickets 48 = .ok (.aload_n 2, 1) := by decide +kernel
theorem dX6_nextFromTickets_49 : decode cX6_nextFromTickets 49 = .ok (.aload 4, 2) := by decide +kernel
theorem dX6_nextFromTickets_51 : decode cX6_nextFromTickets 51 = .ok (.invokestatic 395, 3) := by decide +kernel
theorem dX6_nextFromTickets_54 : decode cX6_nextFromTickets 54 = .ok (.astore_n 2, 1) := by decide +kernel
theorem dX6_nextFromTickets_55 : decode cX6_nextFromTickets 55 = .ok (.iinc 3 1, 3) := by decide +kernel
theorem dX6_nextFromTickets_58 : decode cX6_nextFromTickets 58 = .ok (.goto (-54), 3) := by decide +kernel
theorem dX6_nextFromTickets_61 : decode cX6_nextFromTickets 61 = .ok (.aload_n 2, 1) := by decide +kernel
theorem dX6_nextFromTickets_62 : decode cX6_nextFromTickets 62 = .ok (.areturn, 1) := by decide +kernel
theorem dX6_earlierOf_0 : decode cX6_earlierOf 0 = .ok (.aload_n 0, 1) := by decide +kernel
theorem dX6_earlierOf_1 : decode cX6_earlierOf 1 = .ok (.ifnonnull 5, 3) := by decide +kernel
theorem dX6_earlierOf_4 : decode cX6_earlierOf 4 = .ok (.aload_n 1, 1) := by decide +kernel
theorem dX6_earlierOf_5 : decode cX6_earlierOf 5 = .ok (.areturn, 1) := by decide +kernel
theorem dX6_earlierOf_6 : decode cX6_earlierOf 6 = .ok (.aload_n 1, 1) := by decide +kernel
theorem dX6_earlierOf_7 : decode cX6_earlierOf 7 = .ok (.ifnonnull 5, 3) := by decide +kernel
theorem dX6_earlierOf_10 : decode cX6_earlierOf 10 = .ok (.aload_n 0, 1) := by decide +kernel
theorem dX6_earlierOf_11 : decode cX6_earlierOf 11 = .ok (.areturn, 1) := by decide +kernel
theorem dX6_earlierOf_12 : decode cX6_earlierOf 12 = .ok (.aload_n 1, 1) := by decide +kernel
theorem dX6_earlierOf_13 : decode cX6_earlierOf 13 = .ok (.aload_n 0, 1) := by decide +kernel
theorem dX6_earlierOf_14 : decode cX6_earlierOf 14 = .ok (.invokevirtual 399, 3) := by decide +kernel
theorem dX6_earlierOf_17 : decode cX6_earlierOf 17 = .ok (.ifCond .eq 7, 3) := by decide +kernel
theorem dX6_earlierOf_20 : decode cX6_earlierOf 20 = .ok (.aload_n 1, 1) := by decide +kernel
theorem dX6_earlierOf_21 : decode cX6_earlierOf 21 = .ok (.goto 4, 3) := by decide +kernel
theorem dX6_earlierOf_24 : decode cX6_earlierOf 24 = .ok (.aload_n 0, 1) := by decide +kernel
theorem dX6_earlierOf_25 : decode cX6_earlierOf 25 = .ok (.areturn, 1) := by decide +kernel
theorem dX6_bestFromAnswers_0 : decode cX6_bestFromAnswers 0 = .ok (.iconst (-1), 1) := by decide +kernel
theorem dX6_bestFromAnswers_1 : decode cX6_bestFromAnswers 1 = .ok (.istore_n 2, 1) := by decide +kernel
theorem dX6_bestFromAnswers_2 : decode cX6_bestFromAnswers 2 = .ok (.iconst 0, 1) := by decide +kernel
theorem dX6_bestFromAnswers_3 : decode cX6_bestFromAnswers 3 = .ok (.istore_n 3, 1) := by decide +kernel
theorem dX6_bestFromAnswers_4 : decode cX6_bestFromAnswers 4 = .ok (.iconst 0, 1) := by decide +kernel
theorem dX6_bestFromAnswers_5 : decode cX6_bestFromAnswers 5 = .ok (.istore 4, 2) := by decide +kernel
theorem dX6_bestFromAnswers_7 : decode cX6_bestFromAnswers 7 = .ok (.iload 4, 2) := by decide +kernel
theorem dX6_bestFromAnswers_9 : decode cX6_bestFromAnswers 9 = .ok (.aload_n 0, 1) := by decide +kernel
theorem dX6_bestFromAnswers_10 : decode cX6_bestFromAnswers 10 = .ok (.getfield 42, 3) := by decide +kernel
theorem dX6_bestFromAnswers_13 : decode cX6_bestFromAnswers 13 = .ok (.invokevirtual 62, 3) := by decide +kernel
theorem dX6_bestFromAnswers_16 : decode cX6_bestFromAnswers 16 = .ok (.if_icmp .ge 73, 3) := by decide +kernel
theorem dX6_bestFromAnswers_19 : decode cX6_bestFromAnswers 19 = .ok (.aload_n 0, 1) := by decide +kernel
theorem dX6_bestFromAnswers_20 : decode cX6_bestFromAnswers 20 = .ok (.getfield 42, 3) := by decide +kernel
theorem dX6_bestFromAnswers_23 : decode cX6_bestFromAnswers 23 = .ok (.iload 4, 2) := by decide +kernel
theorem dX6_bestFromAnswers_25 : decode cX6_bestFromAnswers 25 = .ok (.invokevirtual 66, 3) := by decide +kernel
theorem dX6_bestFromAnswers_28 : decode cX6_bestFromAnswers 28 = .ok (.checkcast 275, 3) := by decide +kernel
theorem dX6_bestFromAnswers_31 : decode cX6_bestFromAnswers 31 = .ok (.astore 5, 2) := by decide +kernel
theorem dX6_bestFromAnswers_33 : decode cX6_bestFromAnswers 33 = .ok (.aload 5, 2) := by decide +kernel
theorem dX6_bestFromAnswers_35 : decode cX6_bestFromAnswers 35 = .ok (.getfield 403, 3) := by decide +kernel
theorem dX6_bestFromAnswers_38 : decode cX6_bestFromAnswers 38 = .ok (.aload_n 1, 1) := by decide +kernel
theorem dX6_bestFromAnswers_39 : decode cX6_bestFromAnswers 39 = .ok (.getfield 374, 3) := by decide +kernel
theorem dX6_bestFromAnswers_42 : decode cX6_bestFromAnswers 42 = .ok (.iand, 1) := by decide +kernel
theorem dX6_bestFromAnswers_43 : decode cX6_bestFromAnswers 43 = .ok (.invokestatic 218, 3) := by decide +kernel
theorem dX6_bestFromAnswers_46 : decode cX6_bestFromAnswers 46 = .ok (.istore 6, 2) := by decide +kernel
theorem dX6_bestFromAnswers_48 : decode cX6_bestFromAnswers 48 = .ok (.bipush 10, 2) := by decide +kernel
theorem dX6_bestFromAnswers_50 : decode cX6_bestFromAnswers 50 = .ok (.iload 6, 2) := by decide +kernel
theorem dX6_bestFromAnswers_52 : decode cX6_bestFromAnswers 52 = .ok (.imul, 1) := by decide +kernel
theorem dX6_bestFromAnswers_53 : decode cX6_bestFromAnswers 53 = .ok (.aload 5, 2) := by decide +kernel
theorem dX6_bestFromAnswers_55 : decode cX6_bestFromAnswers 55 = .ok (.getfield 313, 3) := by decide +kernel
theorem dX6_bestFromAnswers_58 : decode cX6_bestFromAnswers 58 = .ok (.aload_n 1, 1) := by decide +kernel
theorem dX6_bestFromAnswers_59 : decode cX6_bestFromAnswers 59 = .ok (.getfield 170, 3) := by decide +kernel
theorem dX6_bestFromAnswers_62 : decode cX6_bestFromAnswers 62 = .ok (.iaload, 1) := by decide +kernel
theorem dX6_bestFromAnswers_63 : decode cX6_bestFromAnswers 63 = .ok (.iadd, 1) := by decide +kernel
theorem dX6_bestFromAnswers_64 : decode cX6_bestFromAnswers 64 = .ok (.istore 7, 2) := by decide +kernel
theorem dX6_bestFromAnswers_66 : decode cX6_bestFromAnswers 66 = .ok (.iload 6, 2) := by decide +kernel
theorem dX6_bestFromAnswers_68 : decode cX6_bestFromAnswers 68 = .ok (.ifCond .le 15, 3) := by decide +kernel
theorem dX6_bestFromAnswers_71 : decode cX6_bestFromAnswers 71 = .ok (.iload 7, 2) := by decide +kernel
theorem dX6_bestFromAnswers_73 : decode cX6_bestFromAnswers 73 = .ok (.iload_n 3, 1) := by decide +kernel
theorem dX6_bestFromAnswers_74 : decode cX6_bestFromAnswers 74 = .ok (.if_icmp .le 9, 3) := by decide +kernel
theorem dX6_bestFromAnswers_77 : decode cX6_bestFromAnswers 77 = .ok (.iload 4, 2) := by decide +kernel
theorem dX6_bestFromAnswers_79 : decode cX6_bestFromAnswers 79 = .ok (.istore_n 2, 1) := by decide +kernel
theorem dX6_bestFromAnswers_80 : decode cX6_bestFromAnswers 80 = .ok (.iload 7, 2) := by decide +kernel
theorem dX6_bestFromAnswers_82 : decode cX6_bestFromAnswers 82 = .ok (.istore_n 3, 1) := by decide +kernel
theorem dX6_bestFromAnswers_83 : decode cX6_bestFromAnswers 83 = .ok (.iinc 4 1, 3) := by decide +kernel
theorem dX6_bestFromAnswers_86 : decode cX6_bestFromAnswers 86 = .ok (.goto (-79), 3) := by decide +kernel
theorem dX6_bestFromAnswers_89 : decode cX6_bestFromAnswers 89 = .ok (.iload_n 2, 1) := by decide +kernel
theorem dX6_bestFromAnswers_90 : decode cX6_bestFromAnswers 90 = .ok (.ireturn, 1) := by decide +kernel
theorem dX6_bestFromWords_0 : decode cX6_bestFromWords 0 = .ok (.aload_n 0, 1) := by decide +kernel
theorem dX6_bestFromWords_1 : decode cX6_bestFromWords 1 = .ok (.aload_n 1, 1) := by decide +kernel
theorem dX6_bestFromWords_2 : decode cX6_bestFromWords 2 = .ok (.getfield 374, 3) := by decide +kernel
theorem dX6_bestFromWords_5 : decode cX6_bestFromWords 5 = .ok (.invokevirtual 404, 3) := by decide +kernel
theorem dX6_bestFromWords_8 : decode cX6_bestFromWords 8 = .ok (.iconst (-1), 1) := by decide +kernel
theorem dX6_bestFromWords_9 : decode cX6_bestFromWords 9 = .ok (.istore_n 2, 1) := by decide +kernel
theorem dX6_bestFromWords_10 : decode cX6_bestFromWords 10 = .ok (.iconst 0, 1) := by decide +kernel
theorem dX6_bestFromWords_11 : decode cX6_bestFromWords 11 = .ok (.istore_n 3, 1) := by decide +kernel
theorem dX6_bestFromWords_12 : decode cX6_bestFromWords 12 = .ok (.iconst 0, 1) := by decide +kernel
theorem dX6_bestFromWords_13 : decode cX6_bestFromWords 13 = .ok (.istore 4, 2) := by decide +kernel
theorem dX6_bestFromWords_15 : decode cX6_bestFromWords 15 = .ok (.iload 4, 2) := by decide +kernel
theorem dX6_bestFromWords_17 : decode cX6_bestFromWords 17 = .ok (.aload_n 0, 1) := by decide +kernel
theorem dX6_bestFromWords_18 : decode cX6_bestFromWords 18 = .ok (.getfield 42, 3) := by decide +kernel
theorem dX6_bestFromWords_21 : decode cX6_bestFromWords 21 = .ok (.invokevirtual 62, 3) := by decide +kernel
theorem dX6_bestFromWords_24 : decode cX6_bestFromWords 24 = .ok (.if_icmp .ge 71, 3) := by decide +kernel
theorem dX6_bestFromWords_27 : decode cX6_bestFromWords 27 = .ok (.iload 4, 2) := by decide +kernel
theorem dX6_bestFromWords_29 : decode cX6_bestFromWords 29 = .ok (.aload_n 0, 1) := by decide +kernel
theorem dX6_bestFromWords_30 : decode cX6_bestFromWords 30 = .ok (.getfield 48, 3) := by decide +kernel
theorem dX6_bestFromWords_33 : decode cX6_bestFromWords 33 = .ok (.arraylength, 1) := by decide +kernel
theorem dX6_bestFromWords_34 : decode cX6_bestFromWords 34 = .ok (.if_icmp .ge 61, 3) := by decide +kernel
theorem dX6_bestFromWords_37 : decode cX6_bestFromWords 37 = .ok (.aload_n 0, 1) := by decide +kernel
theorem dX6_bestFromWords_38 : decode cX6_bestFromWords 38 = .ok (.getfield 48, 3) := by decide +kernel
theorem dX6_bestFromWords_41 : decode cX6_bestFromWords 41 = .ok (.iload 4, 2) := by decide +kernel
theorem dX6_bestFromWords_43 : decode cX6_bestFromWords 43 = .ok (.iaload, 1) := by decide +kernel
theorem dX6_bestFromWords_44 : decode cX6_bestFromWords 44 = .ok (.aload_n 0, 1) := by decide +kernel
theorem dX6_bestFromWords_45 : decode cX6_bestFromWords 45 = .ok (.getfield 42, 3) := by decide +kernel
theorem dX6_bestFromWords_48 : decode cX6_bestFromWords 48 = .ok (.iload 4, 2) := by decide +kernel
theorem dX6_bestFromWords_50 : decode cX6_bestFromWords 50 = .ok (.invokevirtual 66, 3) := by decide +kernel
theorem dX6_bestFromWords_53 : decode cX6_bestFromWords 53 = .ok (.checkcast 275, 3) := by decide +kernel
theorem dX6_bestFromWords_56 : decode cX6_bestFromWords 56 = .ok (.getfield 313, 3) := by decide +kernel
theorem dX6_bestFromWords_59 : decode cX6_bestFromWords 59 = .ok (.aload_n 1, 1) := by decide +kernel
theorem dX6_bestFromWords_60 : decode cX6_bestFromWords 60 = .ok (.getfield 170, 3) := by decide +kernel
theorem dX6_bestFromWords_63 : decode cX6_bestFromWords 63 = .ok (.iaload, 1) := by decide +kernel
theorem dX6_bestFromWords_64 : decode cX6_bestFromWords 64 = .ok (.iadd, 1) := by decide +kernel
theorem dX6_bestFromWords_65 : decode cX6_bestFromWords 65 = .ok (.istore 5, 2) := by decide +kernel
theorem dX6_bestFromWords_67 : decode cX6_bestFromWords 67 = .ok (.aload_n 0, 1) := by decide +kernel
theorem dX6_bestFromWords_68 : decode cX6_bestFromWords 68 = .ok (.getfield 48, 3) := by decide +kernel
theorem dX6_bestFromWords_71 : decode cX6_bestFromWords 71 = .ok (.iload 4, 2) := by decide +kernel
theorem dX6_bestFromWords_73 : decode cX6_bestFromWords 73 = .ok (.iaload, 1) := by decide +kernel
theorem dX6_bestFromWords_74 : decode cX6_bestFromWords 74 = .ok (.ifCond .le 15, 3) := by decide +kernel
theorem dX6_bestFromWords_77 : decode cX6_bestFromWords 77 = .ok (.iload 5, 2) := by decide +kernel
theorem dX6_bestFromWords_79 : decode cX6_bestFromWords 79 = .ok (.iload_n 3, 1) := by decide +kernel
theorem dX6_bestFromWords_80 : decode cX6_bestFromWords 80 = .ok (.if_icmp .le 9, 3) := by decide +kernel
theorem dX6_bestFromWords_83 : decode cX6_bestFromWords 83 = .ok (.iload 4, 2) := by decide +kernel
theorem dX6_bestFromWords_85 : decode cX6_bestFromWords 85 = .ok (.istore_n 2, 1) := by decide +kernel
theorem dX6_bestFromWords_86 : decode cX6_bestFromWords 86 = .ok (.iload 5, 2) := by decide +kernel
theorem dX6_bestFromWords_88 : decode cX6_bestFromWords 88 = .ok (.istore_n 3, 1) := by decide +kernel
theorem dX6_bestFromWords_89 : decode cX6_bestFromWords 89 = .ok (.iinc 4 1, 3) := by decide +kernel
theorem dX6_bestFromWords_92 : decode cX6_bestFromWords 92 = .ok (.goto (-77), 3) := by decide +kernel
theorem dX6_bestFromWords_95 : decode cX6_bestFromWords 95 = .ok (.iload_n 2, 1) := by decide +kernel
theorem dX6_bestFromWords_96 : decode cX6_bestFromWords 96 = .ok (.ireturn, 1) := by decide +kernel
theorem dX6_scoreWords_0 : decode cX6_scoreWords 0 = .ok (.aload_n 0, 1) := by decide +kernel
theorem dX6_scoreWords_1 : decode cX6_scoreWords 1 = .ok (.getfield 48, 3) := by decide +kernel
theorem dX6_scoreWords_4 : decode cX6_scoreWords 4 = .ok (.iconst 0, 1) := by decide +kernel
theorem dX6_scoreWords_5 : decode cX6_scoreWords 5 = .ok (.invokestatic 407, 3) := by decide +kernel
theorem dX6_scoreWords_8 : decode cX6_scoreWords 8 = .ok (.iconst 0, 1) := by decide +kernel
theorem dX6_scoreWords_9 : decode cX6_scoreWords 9 = .ok (.istore_n 2, 1) := by decide +kernel
theorem dX6_scoreWords_10 : decode cX6_scoreWords 10 = .ok (.iload_n 2, 1) := by decide +kernel
theorem dX6_scoreWords_11 : decode cX6_scoreWords 11 = .ok (.bipush 10, 2) := by decide +kernel
theorem dX6_scoreWords_13 : decode cX6_scoreWords 13 = .ok (.if_icmp .ge 23, 3) := by decide +kernel
theorem dX6_scoreWords_16 : decode cX6_scoreWords 16 = .ok (.iload_n 1, 1) := by decide +kernel
theorem dX6_scoreWords_17 : decode cX6_scoreWords 17 = .ok (.iload_n 2, 1) := by decide +kernel
theorem dX6_scoreWords_18 : decode cX6_scoreWords 18 = .ok (.ishr, 1) := by decide +kernel
theorem dX6_scoreWords_19 : decode cX6_scoreWords 19 = .ok (.iconst 1, 1) := by decide +kernel
theorem dX6_scoreWords_20 : decode cX6_scoreWords 20 = .ok (.iand, 1) := by decide +kernel
theorem dX6_scoreWords_21 : decode cX6_scoreWords 21 = .ok (.iconst 1, 1) := by decide +kernel
theorem dX6_scoreWords_22 : decode cX6_scoreWords 22 = .ok (.if_icmp .ne 8, 3) := by decide +kernel
theorem dX6_scoreWords_25 : decode cX6_scoreWords 25 = .ok (.aload_n 0, 1) := by decide +kernel
theorem dX6_scoreWords_26 : decode cX6_scoreWords 26 = .ok (.iload_n 2, 1) := by decide +kernel
theorem dX6_scoreWords_27 : decode cX6_scoreWords 27 = .ok (.invokevirtual 413, 3) := by decide +kernel
theorem dX6_scoreWords_30 : decode cX6_scoreWords 30 = .ok (.iinc 2 1, 3) := by decide +kernel
theorem dX6_scoreWords_33 : decode cX6_scoreWords 33 = .ok (.goto (-23), 3) := by decide +kernel
theorem dX6_scoreWords_36 : decode cX6_scoreWords 36 = .ok (.return_, 1) := by decide +kernel
theorem dX6_scoreWord_0 : decode cX6_scoreWord 0 = .ok (.iconst 0, 1) := by decide +kernel
theorem dX6_scoreWord_1 : decode cX6_scoreWord 1 = .ok (.istore_n 2, 1) := by decide +kernel
theorem dX6_scoreWord_2 : decode cX6_scoreWord 2 = .ok (.iload_n 2, 1) := by decide +kernel
theorem dX6_scoreWord_3 : decode cX6_scoreWord 3 = .ok (.aload_n 0, 1) := by decide +kernel
theorem dX6_scoreWord_4 : decode cX6_scoreWord 4 = .ok (.getfield 48, 3) := by decide +kernel
theorem dX6_scoreWord_7 : decode cX6_scoreWord 7 = .ok (.arraylength, 1) := by decide +kernel
theorem dX6_scoreWord_8 : decode cX6_scoreWord 8 = .ok (.if_icmp .ge 34, 3) := by decide +kernel
theorem dX6_scoreWord_11 : decode cX6_scoreWord 11 = .ok (.aload_n 0, 1) := by decide +kernel
theorem dX6_scoreWord_12 : decode cX6_scoreWord 12 = .ok (.getfield 45, 3) := by decide +kernel
theorem dX6_scoreWord_15 : decode cX6_scoreWord 15 = .ok (.iload_n 1, 1) := by decide +kernel
theorem dX6_scoreWord_16 : decode cX6_scoreWord 16 = .ok (.iaload, 1) := by decide +kernel
theorem dX6_scoreWord_17 : decode cX6_scoreWord 17 = .ok (.iload_n 2, 1) := by decide +kernel
theorem dX6_scoreWord_18 : decode cX6_scoreWord 18 = .ok (.ishr, 1) := by decide +kernel
theorem dX6_scoreWord_19 : decode cX6_scoreWord 19 = .ok (.iconst 1, 1) := by decide +kernel
theorem dX6_scoreWord_20 : decode cX6_scoreWord 20 = .ok (.iand, 1) := by decide +kernel
theorem dX6_scoreWord_21 : decode cX6_scoreWord 21 = .ok (.iconst 1, 1) := by decide +kernel
theorem dX6_scoreWord_22 : decode cX6_scoreWord 22 = .ok (.if_icmp .ne 14, 3) := by decide +kernel
theorem dX6_scoreWord_25 : decode cX6_scoreWord 25 = .ok (.aload_n 0, 1) := by decide +kernel
theorem dX6_scoreWord_26 : decode cX6_scoreWord 26 = .ok (.getfield 48, 3) := by decide +kernel
theorem dX6_scoreWord_29 : decode cX6_scoreWord 29 = .ok (.iload_n 2, 1) := by decide +kernel
theorem dX6_scoreWord_30 : decode cX6_scoreWord 30 = .ok (.dup2, 1) := by decide +kernel
theorem dX6_scoreWord_31 : decode cX6_scoreWord 31 = .ok (.iaload, 1) := by decide +kernel
theorem dX6_scoreWord_32 : decode cX6_scoreWord 32 = .ok (.bipush 10, 2) := by decide +kernel
theorem dX6_scoreWord_34 : decode cX6_scoreWord 34 = .ok (.iadd, 1) := by decide +kernel
theorem dX6_scoreWord_35 : decode cX6_scoreWord 35 = .ok (.iastore, 1) := by decide +kernel
theorem dX6_scoreWord_36 : decode cX6_scoreWord 36 = .ok (.iinc 2 1, 3) := by decide +kernel
theorem dX6_scoreWord_39 : decode cX6_scoreWord 39 = .ok (.goto (-37), 3) := by decide +kernel
theorem dX6_scoreWord_42 : decode cX6_scoreWord 42 = .ok (.return_, 1) := by decide +kernel
theorem dX6_countAnswer_0 : decode cX6_countAnswer 0 = .ok (.aload_n 0, 1) := by decide +kernel
theorem dX6_countAnswer_1 : decode cX6_countAnswer 1 = .ok (.dup, 1) := by decide +kernel
theorem dX6_countAnswer_2 : decode cX6_countAnswer 2 = .ok (.getfield 325, 3) := by decide +kernel
theorem dX6_countAnswer_5 : decode cX6_countAnswer 5 = .ok (.iconst 1, 1) := by decide +kernel
theorem dX6_countAnswer_6 : decode cX6_countAnswer 6 = .ok (.iadd, 1) := by decide +kernel
theorem dX6_countAnswer_7 : decode cX6_countAnswer 7 = .ok (.putfield 325, 3) := by decide +kernel
theorem dX6_countAnswer_10 : decode cX6_countAnswer 10 = .ok (.aload_n 0, 1) := by decide +kernel
theorem dX6_countAnswer_11 : decode cX6_countAnswer 11 = .ok (.dup, 1) := by decide +kernel
theorem dX6_countAnswer_12 : decode cX6_countAnswer 12 = .ok (.getfield 336, 3) := by decide +kernel
theorem dX6_countAnswer_15 : decode cX6_countAnswer 15 = .ok (.aload_n 1, 1) := by decide +kernel
theorem dX6_countAnswer_16 : decode cX6_countAnswer 16 = .ok (.getfield 185, 3) := by decide +kernel
theorem dX6_countAnswer_19 : decode cX6_countAnswer 19 = .ok (.i2l, 1) := by decide +kernel
theorem dX6_countAnswer_20 : decode cX6_countAnswer 20 = .ok (.ladd, 1) := by decide +kernel
theorem dX6_countAnswer_21 : decode cX6_countAnswer 21 = .ok (.putfield 336, 3) := by decide +kernel
theorem dX6_countAnswer_24 : decode cX6_countAnswer 24 = .ok (.aload_n 1, 1) := by decide +kernel
theorem dX6_countAnswer_25 : decode cX6_countAnswer 25 = .ok (.getfield 195, 3) := by decide +kernel
theorem dX6_countAnswer_28 : decode cX6_countAnswer 28 = .ok (.ifCond .ne 13, 3) := by decide +kernel
theorem dX6_countAnswer_31 : decode cX6_countAnswer 31 = .ok (.aload_n 0, 1) := by decide +kernel
theorem dX6_countAnswer_32 : decode cX6_countAnswer 32 = .ok (.dup, 1) := by decide +kernel
theorem dX6_countAnswer_33 : decode cX6_countAnswer 33 = .ok (.getfield 333, 3) := by decide +kernel
theorem dX6_countAnswer_36 : decode cX6_countAnswer 36 = .ok (.iconst 1, 1) := by decide +kernel
theorem dX6_countAnswer_37 : decode cX6_countAnswer 37 = .ok (.iadd, 1) := by decide +kernel
theorem dX6_countAnswer_38 : decode cX6_countAnswer 38 = .ok (.putfield 333, 3) := by decide +kernel
theorem dX6_countAnswer_41 : decode cX6_countAnswer 41 = .ok (.return_, 1) := by decide +kernel
theorem dX6_closedTickets_0 : decode cX6_closedTickets 0 = .ok (.iconst 0, 1) := by decide +kernel
theorem dX6_closedTickets_1 : decode cX6_closedTickets 1 = .ok (.istore_n 1, 1) := by decide +kernel
theorem dX6_closedTickets_2 : decode cX6_closedTickets 2 = .ok (.iconst 0, 1) := by decide +kernel
theorem dX6_closedTickets_3 : decode cX6_closedTickets 3 = .ok (.istore_n 2, 1) := by decide +kernel
theorem dX6_closedTickets_4 : decode cX6_closedTickets 4 = .ok (.iload_n 2, 1) := by decide +kernel
theorem dX6_closedTickets_5 : decode cX6_closedTickets 5 = .ok (.aload_n 0, 1) := by decide +kernel
theorem dX6_closedTickets_6 : decode cX6_closedTickets 6 = .ok (.getfield 36, 3) := by decide +kernel
theorem dX6_closedTickets_9 : decode cX6_closedTickets 9 = .ok (.invokevirtual 62, 3) := by decide +kernel
theorem dX6_closedTickets_12 : decode cX6_closedTickets 12 = .ok (.if_icmp .ge 31, 3) := by decide +kernel
theorem dX6_closedTickets_15 : decode cX6_closedTickets 15 = .ok (.aload_n 0, 1) := by decide +kernel
theorem dX6_closedTickets_16 : decode cX6_closedTickets 16 = .ok (.getfield 36, 3) := by decide +kernel
theorem dX6_closedTickets_19 : decode cX6_closedTickets 19 = .ok (.iload_n 2, 1) := by decide +kernel
theorem dX6_closedTickets_20 : decode cX6_closedTickets 20 = .ok (.invokevirtual 66, 3) := by decide +kernel
theorem dX6_closedTickets_23 : decode cX6_closedTickets 23 = .ok (.checkcast 70, 3) := by decide +kernel
theorem dX6_closedTickets_26 : decode cX6_closedTickets 26 = .ok (.getfield 72, 3) := by decide +kernel
theorem dX6_closedTickets_29 : decode cX6_closedTickets 29 = .ok (.bipush 99, 2) := by decide +kernel
theorem dX6_closedTickets_31 : decode cX6_closedTickets 31 = .ok (.if_icmp .ne 6, 3) := by decide +kernel
theorem dX6_closedTickets_34 : decode cX6_closedTickets 34 = .ok (.iinc 1 1, 3) := by decide +kernel
theorem dX6_closedTickets_37 : decode cX6_closedTickets 37 = .ok (.iinc 2 1, 3) := by decide +kernel
theorem dX6_closedTickets_40 : decode cX6_closedTickets 40 = .ok (.goto (-36), 3) := by decide +kernel
theorem dX6_closedTickets_43 : decode cX6_closedTickets 43 = .ok (.iload_n 1, 1) := by decide +kernel
theorem dX6_closedTickets_44 : decode cX6_closedTickets 44 = .ok (.ireturn, 1) := by decide +kernel
theorem dX6_hasEachMailOnce_0 : decode cX6_hasEachMailOnce 0 = .ok (.iconst 0, 1) := by decide +kernel
theorem dX6_hasEachMailOnce_1 : decode cX6_hasEachMailOnce 1 = .ok (.istore_n 1, 1) := by decide +kernel
theorem dX6_hasEachMailOnce_2 : decode cX6_hasEachMailOnce 2 = .ok (.iconst 0, 1) := by decide +kernel
theorem dX6_hasEachMailOnce_3 : decode cX6_hasEachMailOnce 3 = .ok (.istore_n 2, 1) := by decide +kernel
theorem dX6_hasEachMailOnce_4 : decode cX6_hasEachMailOnce 4 = .ok (.iload_n 2, 1) := by decide +kernel
theorem dX6_hasEachMailOnce_5 : decode cX6_hasEachMailOnce 5 = .ok (.aload_n 0, 1) := by decide +kernel
theorem dX6_hasEachMailOnce_6 : decode cX6_hasEachMailOnce 6 = .ok (.getfield 36, 3) := by decide +kernel
theorem dX6_hasEachMailOnce_9 : decode cX6_hasEachMailOnce 9 = .ok (.invokevirtual 62, 3) := by decide +kernel
theorem dX6_hasEachMailOnce_12 : decode cX6_hasEachMailOnce 12 = .ok (.if_icmp .ge 49, 3) := by decide +kernel
theorem dX6_hasEachMailOnce_15 : decode cX6_hasEachMailOnce 15 = .ok (.aload_n 0, 1) := by decide +kernel
theorem dX6_hasEachMailOnce_16 : decode cX6_hasEachMailOnce 16 = .ok (.getfield 36, 3) := by decide +kernel
theorem dX6_hasEachMailOnce_19 : decode cX6_hasEachMailOnce 19 = .ok (.iload_n 2, 1) := by decide +kernel
theorem dX6_hasEachMailOnce_20 : decode cX6_hasEachMailOnce 20 = .ok (.invokevirtual 66, 3) := by decide +kernel
theorem dX6_hasEachMailOnce_23 : decode cX6_hasEachMailOnce 23 = .ok (.checkcast 70, 3) := by decide +kernel
theorem dX6_hasEachMailOnce_26 : decode cX6_hasEachMailOnce 26 = .ok (.astore_n 3, 1) := by decide +kernel
theorem dX6_hasEachMailOnce_27 : decode cX6_hasEachMailOnce 27 = .ok (.aload_n 3, 1) := by decide +kernel
theorem dX6_hasEachMailOnce_28 : decode cX6_hasEachMailOnce 28 = .ok (.getfield 72, 3) := by decide +kernel
theorem dX6_hasEachMailOnce_31 : decode cX6_hasEachMailOnce 31 = .ok (.bipush 109, 2) := by decide +kernel
theorem dX6_hasEachMailOnce_33 : decode cX6_hasEachMailOnce 33 = .ok (.if_icmp .eq 22, 3) := by decide +kernel
theorem dX6_hasEachMailOnce_36 : decode cX6_hasEachMailOnce 36 = .ok (.aload_n 3, 1) := by decide +kernel
theorem dX6_hasEachMailOnce_37 : decode cX6_hasEachMailOnce 37 = .ok (.invokevirtual 416, 3) := by decide +kernel
theorem dX6_hasEachMailOnce_40 : decode cX6_hasEachMailOnce 40 = .ok (.ifCond .ne 5, 3) := by decide +kernel
theorem dX6_hasEachMailOnce_43 : decode cX6_hasEachMailOnce 43 = .ok (.iconst 0, 1) := by decide +kernel
theorem dX6_hasEachMailOnce_44 : decode cX6_hasEachMailOnce 44 = .ok (.ireturn, 1) := by decide +kernel
theorem dX6_hasEachMailOnce_45 : decode cX6_hasEachMailOnce 45 = .ok (.iload_n 1, 1) := by decide +kernel
theorem dX6_hasEachMailOnce_46 : decode cX6_hasEachMailOnce 46 = .ok (.aload_n 3, 1) := by decide +kernel
theorem dX6_hasEachMailOnce_47 : decode cX6_hasEachMailOnce 47 = .ok (.getfield 156, 3) := by decide +kernel
theorem dX6_hasEachMailOnce_50 : decode cX6_hasEachMailOnce 50 = .ok (.invokevirtual 62, 3) := by decide +kernel
theorem dX6_hasEachMailOnce_53 : decode cX6_hasEachMailOnce 53 = .ok (.iadd, 1) := by decide +kernel
theorem dX6_hasEachMailOnce_54 : decode cX6_hasEachMailOnce 54 = .ok (.istore_n 1, 1) := by decide +kernel
theorem dX6_hasEachMailOnce_55 : decode cX6_hasEachMailOnce 55 = .ok (.iinc 2 1, 3) := by decide +kernel
theorem dX6_hasEachMailOnce_58 : decode cX6_hasEachMailOnce 58 = .ok (.goto (-54), 3) := by decide +kernel
theorem dX6_hasEachMailOnce_61 : decode cX6_hasEachMailOnce 61 = .ok (.iload_n 1, 1) := by decide +kernel
theorem dX6_hasEachMailOnce_62 : decode cX6_hasEachMailOnce 62 = .ok (.aload_n 0, 1) := by decide +kernel
theorem dX6_hasEachMailOnce_63 : decode cX6_hasEachMailOnce 63 = .ok (.getfield 32, 3) := by decide +kernel
theorem dX6_hasEachMailOnce_66 : decode cX6_hasEachMailOnce 66 = .ok (.invokevirtual 62, 3) := by decide +kernel
theorem dX6_hasEachMailOnce_69 : decode cX6_hasEachMailOnce 69 = .ok (.if_icmp .ne 7, 3) := by decide +kernel
theorem dX6_hasEachMailOnce_72 : decode cX6_hasEachMailOnce 72 = .ok (.iconst 1, 1) := by decide +kernel
theorem dX6_hasEachMailOnce_73 : decode cX6_hasEachMailOnce 73 = .ok (.goto 4, 3) := by decide +kernel
theorem dX6_hasEachMailOnce_76 : decode cX6_hasEachMailOnce 76 = .ok (.iconst 0, 1) := by decide +kernel
theorem dX6_hasEachMailOnce_77 : decode cX6_hasEachMailOnce 77 = .ok (.ireturn, 1) := by decide +kernel
theorem dX6_agreesOnNextTickets_0 : decode cX6_agreesOnNextTickets 0 = .ok (.iconst 0, 1) := by decide +kernel
theorem dX6_agreesOnNextTickets_1 : decode cX6_agreesOnNextTickets 1 = .ok (.istore_n 1, 1) := by decide +kernel
theorem dX6_agreesOnNextTickets_2 : decode cX6_agreesOnNextTickets 2 = .ok (.iload_n 1, 1) := by decide +kernel
theorem dX6_agreesOnNextTickets_3 : decode cX6_agreesOnNextTickets 3 = .ok (.aload_n 0, 1) := by decide +kernel
theorem dX6_agreesOnNextTickets_4 : decode cX6_agreesOnNextTickets 4 = .ok (.getfield 39, 3) := by decide +kernel
theorem dX6_agreesOnNextTickets_7 : decode cX6_agreesOnNextTickets 7 = .ok (.invokevirtual 62, 3) := by decide +kernel
theorem dX6_agreesOnNextTickets_10 : decode cX6_agreesOnNextTickets 10 = .ok (.if_icmp .ge 44, 3) := by decide +kernel
theorem dX6_agreesOnNextTickets_13 : decode cX6_agreesOnNextTickets 13 = .ok (.aload_n 0, 1) := by decide +kernel
theorem dX6_agreesOnNextTickets_14 : decode cX6_agreesOnNextTickets 14 = .ok (.aload_n 0, 1) := by decide +kernel
theorem dX6_agreesOnNextTickets_15 : decode cX6_agreesOnNextTickets 15 = .ok (.getfield 39, 3) := by decide +kernel
theorem dX6_agreesOnNextTickets_18 : decode cX6_agreesOnNextTickets 18 = .ok (.iload_n 1, 1) := by decide +kernel
theorem dX6_agreesOnNextTickets_19 : decode cX6_agreesOnNextTickets 19 = .ok (.invokevirtual 66, 3) := by decide +kernel
theorem dX6_agreesOnNextTickets_22 : decode cX6_agreesOnNextTickets 22 = .ok (.checkcast 178, 3) := by decide +kernel
theorem dX6_agreesOnNextTickets_25 : decode cX6_agreesOnNextTickets 25 = .ok (.invokevirtual 237, 3) := by decide +kernel
theorem dX6_agreesOnNextTickets_28 : decode cX6_agreesOnNextTickets 28 = .ok (.aload_n 0, 1) := by decide +kernel
theorem dX6_agreesOnNextTickets_29 : decode cX6_agreesOnNextTickets 29 = .ok (.aload_n 0, 1) := by decide +kernel
theorem dX6_agreesOnNextTickets_30 : decode cX6_agreesOnNextTickets 30 = .ok (.getfield 39, 3) := by decide +kernel
theorem dX6_agreesOnNextTickets_33 : decode cX6_agreesOnNextTickets 33 = .ok (.iload_n 1, 1) := by decide +kernel
theorem dX6_agreesOnNextTickets_34 : decode cX6_agreesOnNextTickets 34 = .ok (.invokevirtual 66, 3) := by decide +kernel
theorem dX6_agreesOnNextTickets_37 : decode cX6_agreesOnNextTickets 37 = .ok (.checkcast 178, 3) := by decide +kernel
theorem dX6_agreesOnNextTickets_40 : decode cX6_agreesOnNextTickets 40 = .ok (.invokevirtual 243, 3) := by decide +kernel
theorem dX6_agreesOnNextTickets_43 : decode cX6_agreesOnNextTickets 43 = .ok (.if_acmp .eq 5, 3) := by decide +kernel
theorem dX6_agreesOnNextTickets_46 : decode cX6_agreesOnNextTickets 46 = .ok (.iconst 0, 1) := by decide +kernel
theorem dX6_agreesOnNextTickets_47 : decode cX6_agreesOnNextTickets 47 = .ok (.ireturn, 1) := by decide +kernel
theorem dX6_agreesOnNextTickets_48 : decode cX6_agreesOnNextTickets 48 = .ok (.iinc 1 1, 3) := by decide +kernel
theorem dX6_agreesOnNextTickets_51 : decode cX6_agreesOnNextTickets 51 = .ok (.goto (-49), 3) := by decide +kernel
theorem dX6_agreesOnNextTickets_54 : decode cX6_agreesOnNextTickets 54 = .ok (.iconst 1, 1) := by decide +kernel
theorem dX6_agreesOnNextTickets_55 : decode cX6_agreesOnNextTickets 55 = .ok (.ireturn, 1) := by decide +kernel
