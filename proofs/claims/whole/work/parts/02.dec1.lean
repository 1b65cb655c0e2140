theorem dX0_init_0 : decode cX0_init 0 = .ok (.aload_n 0, 1) := by decide +kernel
theorem dX0_init_1 : decode cX0_init 1 = .ok (.invokespecial 3, 3) := by decide +kernel
theorem dX0_init_4 : decode cX0_init 4 = .ok (.aload_n 0, 1) := by decide +kernel
theorem dX0_init_5 : decode cX0_init 5 = .ok (.iconst 0, 1) := by decide +kernel
theorem dX0_init_6 : decode cX0_init 6 = .ok (.putfield 9, 3) := by decide +kernel
theorem dX0_init_9 : decode cX0_init 9 = .ok (.aload_n 0, 1) := by decide +kernel
theorem dX0_init_10 : decode cX0_init 10 = .ok (.bipush 15, 2) := by decide +kernel
theorem dX0_init_12 : decode cX0_init 12 = .ok (.newarray .int, 2) := by decide +kernel
theorem dX0_init_14 : decode cX0_init 14 = .ok (.putfield 15, 3) := by decide +kernel
theorem dX0_init_17 : decode cX0_init 17 = .ok (.return_, 1) := by decide +kernel
theorem dX0_numberAt_0 : decode cX0_numberAt 0 = .ok (.iload_n 1, 1) := by decide +kernel
theorem dX0_numberAt_1 : decode cX0_numberAt 1 = .ok (.ifCond .lt 12, 3) := by decide +kernel
theorem dX0_numberAt_4 : decode cX0_numberAt 4 = .ok (.iload_n 1, 1) := by decide +kernel
theorem dX0_numberAt_5 : decode cX0_numberAt 5 = .ok (.aload_n 0, 1) := by decide +kernel
theorem dX0_numberAt_6 : decode cX0_numberAt 6 = .ok (.getfield 15, 3) := by decide +kernel
theorem dX0_numberAt_9 : decode cX0_numberAt 9 = .ok (.arraylength, 1) := by decide +kernel
theorem dX0_numberAt_10 : decode cX0_numberAt 10 = .ok (.if_icmp .lt 7, 3) := by decide +kernel
theorem dX0_numberAt_13 : decode cX0_numberAt 13 = .ok (.iconst 0, 1) := by decide +kernel
theorem dX0_numberAt_14 : decode cX0_numberAt 14 = .ok (.goto 9, 3) := by decide +kernel
theorem dX0_numberAt_17 : decode cX0_numberAt 17 = .ok (.aload_n 0, 1) := by decide +kernel
theorem dX0_numberAt_18 : decode cX0_numberAt 18 = .ok (.getfield 15, 3) := by decide +kernel
theorem dX0_numberAt_21 : decode cX0_numberAt 21 = .ok (.iload_n 1, 1) := by decide +kernel
theorem dX0_numberAt_22 : decode cX0_numberAt 22 = .ok (.iaload, 1) := by decide +kernel
theorem dX0_numberAt_23 : decode cX0_numberAt 23 = .ok (.ireturn, 1) := by decide +kernel
theorem dX0_number_0 : decode cX0_number 0 = .ok (.aload_n 0, 1) := by decide +kernel
theorem dX0_number_1 : decode cX0_number 1 = .ok (.iload_n 1, 1) := by decide +kernel
theorem dX0_number_2 : decode cX0_number 2 = .ok (.iload_n 2, 1) := by decide +kernel
theorem dX0_number_3 : decode cX0_number 3 = .ok (.invokestatic 19, 3) := by decide +kernel
theorem dX0_number_6 : decode cX0_number 6 = .ok (.invokevirtual 23, 3) := by decide +kernel
theorem dX0_number_9 : decode cX0_number 9 = .ok (.ireturn, 1) := by decide +kernel
theorem dX0_setNumber_0 : decode cX0_setNumber 0 = .ok (.iload_n 1, 1) := by decide +kernel
theorem dX0_setNumber_1 : decode cX0_setNumber 1 = .ok (.ifCond .lt 19, 3) := by decide +kernel
theorem dX0_setNumber_4 : decode cX0_setNumber 4 = .ok (.iload_n 1, 1) := by decide +kernel
theorem dX0_setNumber_5 : decode cX0_setNumber 5 = .ok (.aload_n 0, 1) := by decide +kernel
theorem dX0_setNumber_6 : decode cX0_setNumber 6 = .ok (.getfield 15, 3) := by decide +kernel
theorem dX0_setNumber_9 : decode cX0_setNumber 9 = .ok (.arraylength, 1) := by decide +kernel
theorem dX0_setNumber_10 : decode cX0_setNumber 10 = .ok (.if_icmp .ge 10, 3) := by decide +kernel
theorem dX0_setNumber_13 : decode cX0_setNumber 13 = .ok (.aload_n 0, 1) := by decide +kernel
theorem dX0_setNumber_14 : decode cX0_setNumber 14 = .ok (.getfield 15, 3) := by decide +kernel
theorem dX0_setNumber_17 : decode cX0_setNumber 17 = .ok (.iload_n 1, 1) := by decide +kernel
theorem dX0_setNumber_18 : decode cX0_setNumber 18 = .ok (.iload_n 2, 1) := by decide +kernel
theorem dX0_setNumber_19 : decode cX0_setNumber 19 = .ok (.iastore, 1) := by decide +kernel
theorem dX0_setNumber_20 : decode cX0_setNumber 20 = .ok (.return_, 1) := by decide +kernel
theorem dX0_becomesZero_0 : decode cX0_becomesZero 0 = .ok (.aload_n 0, 1) := by decide +kernel
theorem dX0_becomesZero_1 : decode cX0_becomesZero 1 = .ok (.iload_n 1, 1) := by decide +kernel
theorem dX0_becomesZero_2 : decode cX0_becomesZero 2 = .ok (.putfield 9, 3) := by decide +kernel
theorem dX0_becomesZero_5 : decode cX0_becomesZero 5 = .ok (.aload_n 0, 1) := by decide +kernel
theorem dX0_becomesZero_6 : decode cX0_becomesZero 6 = .ok (.getfield 15, 3) := by decide +kernel
theorem dX0_becomesZero_9 : decode cX0_becomesZero 9 = .ok (.iconst 0, 1) := by decide +kernel
theorem dX0_becomesZero_10 : decode cX0_becomesZero 10 = .ok (.invokestatic 27, 3) := by decide +kernel
theorem dX0_becomesZero_13 : decode cX0_becomesZero 13 = .ok (.return_, 1) := by decide +kernel
theorem dX0_becomes_0 : decode cX0_becomes 0 = .ok (.aload_n 0, 1) := by decide +kernel
theorem dX0_becomes_1 : decode cX0_becomes 1 = .ok (.aload_n 1, 1) := by decide +kernel
theorem dX0_becomes_2 : decode cX0_becomes 2 = .ok (.getfield 9, 3) := by decide +kernel
theorem dX0_becomes_5 : decode cX0_becomes 5 = .ok (.putfield 9, 3) := by decide +kernel
theorem dX0_becomes_8 : decode cX0_becomes 8 = .ok (.aload_n 1, 1) := by decide +kernel
theorem dX0_becomes_9 : decode cX0_becomes 9 = .ok (.getfield 15, 3) := by decide +kernel
theorem dX0_becomes_12 : decode cX0_becomes 12 = .ok (.iconst 0, 1) := by decide +kernel
theorem dX0_becomes_13 : decode cX0_becomes 13 = .ok (.aload_n 0, 1) := by decide +kernel
theorem dX0_becomes_14 : decode cX0_becomes 14 = .ok (.getfield 15, 3) := by decide +kernel
theorem dX0_becomes_17 : decode cX0_becomes 17 = .ok (.iconst 0, 1) := by decide +kernel
theorem dX0_becomes_18 : decode cX0_becomes 18 = .ok (.bipush 15, 2) := by decide +kernel
theorem dX0_becomes_20 : decode cX0_becomes 20 = .ok (.invokestatic 33, 3) := by decide +kernel
theorem dX0_becomes_23 : decode cX0_becomes 23 = .ok (.return_, 1) := by decide +kernel
theorem dX0_notZero_0 : decode cX0_notZero 0 = .ok (.iconst 0, 1) := by decide +kernel
theorem dX0_notZero_1 : decode cX0_notZero 1 = .ok (.istore_n 1, 1) := by decide +kernel
theorem dX0_notZero_2 : decode cX0_notZero 2 = .ok (.iconst 0, 1) := by decide +kernel
theorem dX0_notZero_3 : decode cX0_notZero 3 = .ok (.istore_n 2, 1) := by decide +kernel
theorem dX0_notZero_4 : decode cX0_notZero 4 = .ok (.iload_n 2, 1) := by decide +kernel
theorem dX0_notZero_5 : decode cX0_notZero 5 = .ok (.aload_n 0, 1) := by decide +kernel
theorem dX0_notZero_6 : decode cX0_notZero 6 = .ok (.getfield 15, 3) := by decide +kernel
theorem dX0_notZero_9 : decode cX0_notZero 9 = .ok (.arraylength, 1) := by decide +kernel
theorem dX0_notZero_10 : decode cX0_notZero 10 = .ok (.if_icmp .ge 21, 3) := by decide +kernel
theorem dX0_notZero_13 : decode cX0_notZero 13 = .ok (.aload_n 0, 1) := by decide +kernel
theorem dX0_notZero_14 : decode cX0_notZero 14 = .ok (.getfield 15, 3) := by decide +kernel
theorem dX0_notZero_17 : decode cX0_notZero 17 = .ok (.iload_n 2, 1) := by decide +kernel
theorem dX0_notZero_18 : decode cX0_notZero 18 = .ok (.iaload, 1) := by decide +kernel
theorem dX0_notZero_19 : decode cX0_notZero 19 = .ok (.ifCond .eq 6, 3) := by decide +kernel
theorem dX0_notZero_22 : decode cX0_notZero 22 = .ok (.iinc 1 1, 3) := by decide +kernel
theorem dX0_notZero_25 : decode cX0_notZero 25 = .ok (.iinc 2 1, 3) := by decide +kernel
theorem dX0_notZero_28 : decode cX0_notZero 28 = .ok (.goto (-24), 3) := by decide +kernel
theorem dX0_notZero_31 : decode cX0_notZero 31 = .ok (.iload_n 1, 1) := by decide +kernel
theorem dX0_notZero_32 : decode cX0_notZero 32 = .ok (.ireturn, 1) := by decide +kernel
theorem dX0_isOf_0 : decode cX0_isOf 0 = .ok (.iload_n 1, 1) := by decide +kernel
theorem dX0_isOf_1 : decode cX0_isOf 1 = .ok (.ifCond .eq 11, 3) := by decide +kernel
theorem dX0_isOf_4 : decode cX0_isOf 4 = .ok (.iload_n 1, 1) := by decide +kernel
theorem dX0_isOf_5 : decode cX0_isOf 5 = .ok (.aload_n 0, 1) := by decide +kernel
theorem dX0_isOf_6 : decode cX0_isOf 6 = .ok (.getfield 9, 3) := by decide +kernel
theorem dX0_isOf_9 : decode cX0_isOf 9 = .ok (.if_icmp .ne 5, 3) := by decide +kernel
theorem dX0_isOf_12 : decode cX0_isOf 12 = .ok (.iconst 1, 1) := by decide +kernel
theorem dX0_isOf_13 : decode cX0_isOf 13 = .ok (.ireturn, 1) := by decide +kernel
theorem dX0_isOf_14 : decode cX0_isOf 14 = .ok (.iload_n 1, 1) := by decide +kernel
theorem dX0_isOf_15 : decode cX0_isOf 15 = .ok (.iconst 1, 1) := by decide +kernel
theorem dX0_isOf_16 : decode cX0_isOf 16 = .ok (.if_icmp .ne 11, 3) := by decide +kernel
theorem dX0_isOf_19 : decode cX0_isOf 19 = .ok (.aload_n 0, 1) := by decide +kernel
theorem dX0_isOf_20 : decode cX0_isOf 20 = .ok (.getfield 9, 3) := by decide +kernel
theorem dX0_isOf_23 : decode cX0_isOf 23 = .ok (.iconst 3, 1) := by decide +kernel
theorem dX0_isOf_24 : decode cX0_isOf 24 = .ok (.if_icmp .eq 16, 3) := by decide +kernel
theorem dX0_isOf_27 : decode cX0_isOf 27 = .ok (.iload_n 1, 1) := by decide +kernel
theorem dX0_isOf_28 : decode cX0_isOf 28 = .ok (.iconst 2, 1) := by decide +kernel
theorem dX0_isOf_29 : decode cX0_isOf 29 = .ok (.if_icmp .ne 15, 3) := by decide +kernel
theorem dX0_isOf_32 : decode cX0_isOf 32 = .ok (.aload_n 0, 1) := by decide +kernel
theorem dX0_isOf_33 : decode cX0_isOf 33 = .ok (.getfield 9, 3) := by decide +kernel
theorem dX0_isOf_36 : decode cX0_isOf 36 = .ok (.iconst 4, 1) := by decide +kernel
theorem dX0_isOf_37 : decode cX0_isOf 37 = .ok (.if_icmp .ne 7, 3) := by decide +kernel
theorem dX0_isOf_40 : decode cX0_isOf 40 = .ok (.iconst 1, 1) := by decide +kernel
theorem dX0_isOf_41 : decode cX0_isOf 41 = .ok (.goto 4, 3) := by decide +kernel
theorem dX0_isOf_44 : decode cX0_isOf 44 = .ok (.iconst 0, 1) := by decide +kernel
theorem dX0_isOf_45 : decode cX0_isOf 45 = .ok (.ireturn, 1) := by decide +kernel
theorem dX0_worth_0 : decode cX0_worth 0 = .ok (.aload_n 0, 1) := by decide +kernel
theorem dX0_worth_1 : decode cX0_worth 1 = .ok (.getfield 9, 3) := by decide +kernel
theorem dX0_worth_4 : decode cX0_worth 4 = .ok (.tableswitch 84 1 5 #[36, 61, 48, 68, 77], 36) := by decide +kernel
theorem dX0_worth_40 : decode cX0_worth 40 = .ok (.aload_n 0, 1) := by decide +kernel
theorem dX0_worth_41 : decode cX0_worth 41 = .ok (.invokevirtual 39, 3) := by decide +kernel
theorem dX0_worth_44 : decode cX0_worth 44 = .ok (.aload_n 0, 1) := by decide +kernel
theorem dX0_worth_45 : decode cX0_worth 45 = .ok (.iconst 1, 1) := by decide +kernel
theorem dX0_worth_46 : decode cX0_worth 46 = .ok (.iconst 0, 1) := by decide +kernel
theorem dX0_worth_47 : decode cX0_worth 47 = .ok (.invokevirtual 43, 3) := by decide +kernel
theorem dX0_worth_50 : decode cX0_worth 50 = .ok (.iadd, 1) := by decide +kernel
theorem dX0_worth_51 : decode cX0_worth 51 = .ok (.ireturn, 1) := by decide +kernel
theorem dX0_worth_52 : decode cX0_worth 52 = .ok (.aload_n 0, 1) := by decide +kernel
theorem dX0_worth_53 : decode cX0_worth 53 = .ok (.invokevirtual 39, 3) := by decide +kernel
theorem dX0_worth_56 : decode cX0_worth 56 = .ok (.aload_n 0, 1) := by decide +kernel
theorem dX0_worth_57 : decode cX0_worth 57 = .ok (.iconst 1, 1) := by decide +kernel
theorem dX0_worth_58 : decode cX0_worth 58 = .ok (.iconst 0, 1) := by decide +kernel
theorem dX0_worth_59 : decode cX0_worth 59 = .ok (.invokevirtual 43, 3) := by decide +kernel
theorem dX0_worth_62 : decode cX0_worth 62 = .ok (.iadd, 1) := by decide +kernel
theorem dX0_worth_63 : decode cX0_worth 63 = .ok (.ineg, 1) := by decide +kernel
theorem dX0_worth_64 : decode cX0_worth 64 = .ok (.ireturn, 1) := by decide +kernel
theorem dX0_worth_65 : decode cX0_worth 65 = .ok (.iconst 2, 1) := by decide +kernel
theorem dX0_worth_66 : decode cX0_worth 66 = .ok (.aload_n 0, 1) := by decide +kernel
theorem dX0_worth_67 : decode cX0_worth 67 = .ok (.invokevirtual 39, 3) := by decide +kernel
theorem dX0_worth_70 : decode cX0_worth 70 = .ok (.imul, 1) := by decide +kernel
theorem dX0_worth_71 : decode cX0_worth 71 = .ok (.ireturn, 1) := by decide +kernel
theorem dX0_worth_72 : decode cX0_worth 72 = .ok (.iconst 2, 1) := by decide +kernel
theorem dX0_worth_73 : decode cX0_worth 73 = .ok (.aload_n 0, 1) := by decide +kernel
theorem dX0_worth_74 : decode cX0_worth 74 = .ok (.invokevirtual 39, 3) := by decide +kernel
theorem dX0_worth_77 : decode cX0_worth 77 = .ok (.imul, 1) := by decide +kernel
theorem dX0_worth_78 : decode cX0_worth 78 = .ok (.iconst 1, 1) := by decide +kernel
theorem dX0_worth_79 : decode cX0_worth 79 = .ok (.iadd, 1) := by decide +kernel
theorem dX0_worth_80 : decode cX0_worth 80 = .ok (.ireturn, 1) := by decide +kernel
theorem dX0_worth_81 : decode cX0_worth 81 = .ok (.aload_n 0, 1) := by decide +kernel
theorem dX0_worth_82 : decode cX0_worth 82 = .ok (.iconst 0, 1) := by decide +kernel
theorem dX0_worth_83 : decode cX0_worth 83 = .ok (.iconst 0, 1) := by decide +kernel
theorem dX0_worth_84 : decode cX0_worth 84 = .ok (.invokevirtual 43, 3) := by decide +kernel
theorem dX0_worth_87 : decode cX0_worth 87 = .ok (.ireturn, 1) := by decide +kernel
theorem dX0_worth_88 : decode cX0_worth 88 = .ok (.aload_n 0, 1) := by decide +kernel
theorem dX0_worth_89 : decode cX0_worth 89 = .ok (.invokevirtual 39, 3) := by decide +kernel
theorem dX0_worth_92 : decode cX0_worth 92 = .ok (.ireturn, 1) := by decide +kernel
theorem dX0_factor_0 : decode cX0_factor 0 = .ok (.aload_n 0, 1) := by decide +kernel
theorem dX0_factor_1 : decode cX0_factor 1 = .ok (.getfield 9, 3) := by decide +kernel
theorem dX0_factor_4 : decode cX0_factor 4 = .ok (.tableswitch 69 2 5 #[34, 32, 46, 59], 32) := by decide +kernel
theorem dX0_factor_36 : decode cX0_factor 36 = .ok (.iconst (-1), 1) := by decide +kernel
theorem dX0_factor_37 : decode cX0_factor 37 = .ok (.ireturn, 1) := by decide +kernel
theorem dX0_factor_38 : decode cX0_factor 38 = .ok (.iload_n 1, 1) := by decide +kernel
theorem dX0_factor_39 : decode cX0_factor 39 = .ok (.iconst 2, 1) := by decide +kernel
theorem dX0_factor_40 : decode cX0_factor 40 = .ok (.irem, 1) := by decide +kernel
theorem dX0_factor_41 : decode cX0_factor 41 = .ok (.ifCond .ne 7, 3) := by decide +kernel
theorem dX0_factor_44 : decode cX0_factor 44 = .ok (.iconst 1, 1) := by decide +kernel
theorem dX0_factor_45 : decode cX0_factor 45 = .ok (.goto 4, 3) := by decide +kernel
theorem dX0_factor_48 : decode cX0_factor 48 = .ok (.iconst (-1), 1) := by decide +kernel
theorem dX0_factor_49 : decode cX0_factor 49 = .ok (.ireturn, 1) := by decide +kernel
theorem dX0_factor_50 : decode cX0_factor 50 = .ok (.iload_n 1, 1) := by decide +kernel
theorem dX0_factor_51 : decode cX0_factor 51 = .ok (.iconst 2, 1) := by decide +kernel
theorem dX0_factor_52 : decode cX0_factor 52 = .ok (.irem, 1) := by decide +kernel
theorem dX0_factor_53 : decode cX0_factor 53 = .ok (.ifCond .ne 7, 3) := by decide +kernel
theorem dX0_factor_56 : decode cX0_factor 56 = .ok (.iconst 2, 1) := by decide +kernel
theorem dX0_factor_57 : decode cX0_factor 57 = .ok (.goto 5, 3) := by decide +kernel
theorem dX0_factor_60 : decode cX0_factor 60 = .ok (.bipush (-2), 2) := by decide +kernel
theorem dX0_factor_62 : decode cX0_factor 62 = .ok (.ireturn, 1) := by decide +kernel
theorem dX0_factor_63 : decode cX0_factor 63 = .ok (.iload_n 2, 1) := by decide +kernel
theorem dX0_factor_64 : decode cX0_factor 64 = .ok (.ifCond .ne 7, 3) := by decide +kernel
theorem dX0_factor_67 : decode cX0_factor 67 = .ok (.iconst 1, 1) := by decide +kernel
theorem dX0_factor_68 : decode cX0_factor 68 = .ok (.goto 4, 3) := by decide +kernel
theorem dX0_factor_71 : decode cX0_factor 71 = .ok (.iconst 0, 1) := by decide +kernel
theorem dX0_factor_72 : decode cX0_factor 72 = .ok (.ireturn, 1) := by decide +kernel
theorem dX0_factor_73 : decode cX0_factor 73 = .ok (.iconst 1, 1) := by decide +kernel
theorem dX0_factor_74 : decode cX0_factor 74 = .ok (.ireturn, 1) := by decide +kernel
theorem dX1_init_0 : decode cX1_init 0 = .ok (.aload_n 0, 1) := by decide +kernel
theorem dX1_init_1 : decode cX1_init 1 = .ok (.invokespecial 1, 3) := by decide +kernel
theorem dX1_init_4 : decode cX1_init 4 = .ok (.aload_n 0, 1) := by decide +kernel
theorem dX1_init_5 : decode cX1_init 5 = .ok (.iload_n 1, 1) := by decide +kernel
theorem dX1_init_6 : decode cX1_init 6 = .ok (.putfield 7, 3) := by decide +kernel
theorem dX1_init_9 : decode cX1_init 9 = .ok (.aload_n 0, 1) := by decide +kernel
theorem dX1_init_10 : decode cX1_init 10 = .ok (.iload_n 2, 1) := by decide +kernel
theorem dX1_init_11 : decode cX1_init 11 = .ok (.putfield 13, 3) := by decide +kernel
theorem dX1_init_14 : decode cX1_init 14 = .ok (.aload_n 0, 1) := by decide +kernel
theorem dX1_init_15 : decode cX1_init 15 = .ok (.aload_n 3, 1) := by decide +kernel
theorem dX1_init_16 : decode cX1_init 16 = .ok (.putfield 16, 3) := by decide +kernel
theorem dX1_init_19 : decode cX1_init 19 = .ok (.return_, 1) := by decide +kernel
theorem dX1_gives_0 : decode cX1_gives 0 = .ok (.iconst 0, 1) := by decide +kernel
theorem dX1_gives_1 : decode cX1_gives 1 = .ok (.istore 5, 2) := by decide +kernel
theorem dX1_gives_3 : decode cX1_gives 3 = .ok (.iconst 0, 1) := by decide +kernel
theorem dX1_gives_4 : decode cX1_gives 4 = .ok (.istore 6, 2) := by decide +kernel
theorem dX1_gives_6 : decode cX1_gives 6 = .ok (.iload 6, 2) := by decide +kernel
theorem dX1_gives_8 : decode cX1_gives 8 = .ok (.aload_n 0, 1) := by decide +kernel
theorem dX1_gives_9 : decode cX1_gives 9 = .ok (.getfield 16, 3) := by decide +kernel
theorem dX1_gives_12 : decode cX1_gives 12 = .ok (.arraylength, 1) := by decide +kernel
theorem dX1_gives_13 : decode cX1_gives 13 = .ok (.if_icmp .ge 170, 3) := by decide +kernel
theorem dX1_gives_16 : decode cX1_gives 16 = .ok (.aload_n 0, 1) := by decide +kernel
theorem dX1_gives_17 : decode cX1_gives 17 = .ok (.getfield 16, 3) := by decide +kernel
theorem dX1_gives_20 : decode cX1_gives 20 = .ok (.iload 6, 2) := by decide +kernel
theorem dX1_gives_22 : decode cX1_gives 22 = .ok (.iaload, 1) := by decide +kernel
theorem dX1_gives_23 : decode cX1_gives 23 = .ok (.istore 7, 2) := by decide +kernel
theorem dX1_gives_25 : decode cX1_gives 25 = .ok (.iload 7, 2) := by decide +kernel
theorem dX1_gives_27 : decode cX1_gives 27 = .ok (.bipush (-3), 2) := by decide +kernel
theorem dX1_gives_29 : decode cX1_gives 29 = .ok (.if_icmp .lt 56, 3) := by decide +kernel
theorem dX1_gives_32 : decode cX1_gives 32 = .ok (.iload 5, 2) := by decide +kernel
theorem dX1_gives_34 : decode cX1_gives 34 = .ok (.aload 4, 2) := by decide +kernel
theorem dX1_gives_36 : decode cX1_gives 36 = .ok (.arraylength, 1) := by decide +kernel
theorem dX1_gives_37 : decode cX1_gives 37 = .ok (.if_icmp .lt 5, 3) := by decide +kernel
theorem dX1_gives_40 : decode cX1_gives 40 = .ok (.iconst 0, 1) := by decide +kernel
theorem dX1_gives_41 : decode cX1_gives 41 = .ok (.ireturn, 1) := by decide +kernel
theorem dX1_gives_42 : decode cX1_gives 42 = .ok (.aload 4, 2) := by decide +kernel
theorem dX1_gives_44 : decode cX1_gives 44 = .ok (.iload 5, 2) := by decide +kernel
theorem dX1_gives_46 : decode cX1_gives 46 = .ok (.iload 7, 2) := by decide +kernel
theorem dX1_gives_48 : decode cX1_gives 48 = .ok (.ifCond .lt 8, 3) := by decide +kernel
theorem dX1_gives_51 : decode cX1_gives 51 = .ok (.iload 7, 2) := by decide +kernel
theorem dX1_gives_53 : decode cX1_gives 53 = .ok (.goto 25, 3) := by decide +kernel
theorem dX1_gives_56 : decode cX1_gives 56 = .ok (.iload 7, 2) := by decide +kernel
theorem dX1_gives_58 : decode cX1_gives 58 = .ok (.iconst (-1), 1) := by decide +kernel
theorem dX1_gives_59 : decode cX1_gives 59 = .ok (.if_icmp .ne 7, 3) := by decide +kernel
theorem dX1_gives_62 : decode cX1_gives 62 = .ok (.iload_n 1, 1) := by decide +kernel
theorem dX1_gives_63 : decode cX1_gives 63 = .ok (.goto 15, 3) := by decide +kernel
theorem dX1_gives_66 : decode cX1_gives 66 = .ok (.iload 7, 2) := by decide +kernel
theorem dX1_gives_68 : decode cX1_gives 68 = .ok (.bipush (-2), 2) := by decide +kernel
theorem dX1_gives_70 : decode cX1_gives 70 = .ok (.if_icmp .ne 7, 3) := by decide +kernel
theorem dX1_gives_73 : decode cX1_gives 73 = .ok (.iload_n 2, 1) := by decide +kernel
theorem dX1_gives_74 : decode cX1_gives 74 = .ok (.goto 4, 3) := by decide +kernel
theorem dX1_gives_77 : decode cX1_gives 77 = .ok (.iload_n 3, 1) := by decide +kernel
theorem dX1_gives_78 : decode cX1_gives 78 = .ok (.iastore, 1) := by decide +kernel
theorem dX1_gives_79 : decode cX1_gives 79 = .ok (.iinc 5 1, 3) := by decide +kernel
theorem dX1_gives_82 : decode cX1_gives 82 = .ok (.goto 95, 3) := by decide +kernel
theorem dX1_gives_85 : decode cX1_gives 85 = .ok (.iload 7, 2) := by decide +kernel
theorem dX1_gives_87 : decode cX1_gives 87 = .ok (.bipush (-33), 2) := by decide +kernel
theorem dX1_gives_89 : decode cX1_gives 89 = .ok (.if_icmp .ne 44, 3) := by decide +kernel
theorem dX1_gives_92 : decode cX1_gives 92 = .ok (.iload 5, 2) := by decide +kernel
theorem dX1_gives_94 : decode cX1_gives 94 = .ok (.iconst 1, 1) := by decide +kernel
theorem dX1_gives_95 : decode cX1_gives 95 = .ok (.if_icmp .lt 11, 3) := by decide +kernel
theorem dX1_gives_98 : decode cX1_gives 98 = .ok (.iload 5, 2) := by decide +kernel
theorem dX1_gives_100 : decode cX1_gives 100 = .ok (.aload 4, 2) := by decide +kernel
theorem dX1_gives_102 : decode cX1_gives 102 = .ok (.arraylength, 1) := by decide +kernel
theorem dX1_gives_103 : decode cX1_gives 103 = .ok (.if_icmp .le 5, 3) := by decide +kernel
theorem dX1_gives_106 : decode cX1_gives 106 = .ok (.iconst 0, 1) := by decide +kernel
theorem dX1_gives_107 : decode cX1_gives 107 = .ok (.ireturn, 1) := by decide +kernel
theorem dX1_gives_108 : decode cX1_gives 108 = .ok (.aload 4, 2) := by decide +kernel
theorem dX1_gives_110 : decode cX1_gives 110 = .ok (.iload 5, 2) := by decide +kernel
theorem dX1_gives_112 : decode cX1_gives 112 = .ok (.iconst 1, 1) := by decide +kernel
theorem dX1_gives_113 : decode cX1_gives 113 = .ok (.isub, 1) := by decide +kernel
theorem dX1_gives_114 : decode cX1_gives 114 = .ok (.aload 4, 2) := by decide +kernel
theorem dX1_gives_116 : decode cX1_gives 116 = .ok (.iload 5, 2) := by decide +kernel
theorem dX1_gives_118 : decode cX1_gives 118 = .ok (.iconst 1, 1) := by decide +kernel
theorem dX1_gives_119 : decode cX1_gives 119 = .ok (.isub, 1) := by decide +kernel
theorem dX1_gives_120 : decode cX1_gives 120 = .ok (.iaload, 1) := by decide +kernel
theorem dX1_gives_121 : decode cX1_gives 121 = .ok (.ifCond .ne 7, 3) := by decide +kernel
theorem dX1_gives_124 : decode cX1_gives 124 = .ok (.iconst 1, 1) := by decide +kernel
theorem dX1_gives_125 : decode cX1_gives 125 = .ok (.goto 4, 3) := by decide +kernel
theorem dX1_gives_128 : decode cX1_gives 128 = .ok (.iconst 0, 1) := by decide +kernel
theorem dX1_gives_129 : decode cX1_gives 129 = .ok (.iastore, 1) := by decide +kernel
theorem dX1_gives_130 : decode cX1_gives 130 = .ok (.goto 47, 3) := by decide +kernel
theorem dX1_gives_133 : decode cX1_gives 133 = .ok (.iload 5, 2) := by decide +kernel
theorem dX1_gives_135 : decode cX1_gives 135 = .ok (.iconst 2, 1) := by decide +kernel
theorem dX1_gives_136 : decode cX1_gives 136 = .ok (.if_icmp .lt 11, 3) := by decide +kernel
theorem dX1_gives_139 : decode cX1_gives 139 = .ok (.iload 5, 2) := by decide +kernel
theorem dX1_gives_141 : decode cX1_gives 141 = .ok (.aload 4, 2) := by decide +kernel
theorem dX1_gives_143 : decode cX1_gives 143 = .ok (.arraylength, 1) := by decide +kernel
theorem dX1_gives_144 : decode cX1_gives 144 = .ok (.if_icmp .le 5, 3) := by decide +kernel
theorem dX1_gives_147 : decode cX1_gives 147 = .ok (.iconst 0, 1) := by decide +kernel
theorem dX1_gives_148 : decode cX1_gives 148 = .ok (.ireturn, 1) := by decide +kernel
theorem dX1_gives_149 : decode cX1_gives 149 = .ok (.iinc 5 (-1), 3) := by decide +kernel
theorem dX1_gives_152 : decode cX1_gives 152 = .ok (.aload 4, 2) := by decide +kernel
theorem dX1_gives_154 : decode cX1_gives 154 = .ok (.iload 5, 2) := by decide +kernel
theorem dX1_gives_156 : decode cX1_gives 156 = .ok (.iconst 1, 1) := by decide +kernel
theorem dX1_gives_157 : decode cX1_gives 157 = .ok (.isub, 1) := by decide +kernel
theorem dX1_gives_158 : decode cX1_gives 158 = .ok (.iload 7, 2) := by decide +kernel
theorem dX1_gives_160 : decode cX1_gives 160 = .ok (.ineg, 1) := by decide +kernel
theorem dX1_gives_161 : decode cX1_gives 161 = .ok (.aload 4, 2) := by decide +kernel
theorem dX1_gives_163 : decode cX1_gives 163 = .ok (.iload 5, 2) := by decide +kernel
theorem dX1_gives_165 : decode cX1_gives 165 = .ok (.iconst 1, 1) := by decide +kernel
theorem dX1_gives_166 : decode cX1_gives 166 = .ok (.isub, 1) := by decide +kernel
theorem dX1_gives_167 : decode cX1_gives 167 = .ok (.iaload, 1) := by decide +kernel
theorem dX1_gives_168 : decode cX1_gives 168 = .ok (.aload 4, 2) := by decide +kernel
theorem dX1_gives_170 : decode cX1_gives 170 = .ok (.iload 5, 2) := by decide +kernel
theorem dX1_gives_172 : decode cX1_gives 172 = .ok (.iaload, 1) := by decide +kernel
theorem dX1_gives_173 : decode cX1_gives 173 = .ok (.invokestatic 20, 3) := by decide +kernel
theorem dX1_gives_176 : decode cX1_gives 176 = .ok (.iastore, 1) := by decide +kernel
theorem dX1_gives_177 : decode cX1_gives 177 = .ok (.iinc 6 1, 3) := by decide +kernel
theorem dX1_gives_180 : decode cX1_gives 180 = .ok (.goto (-174), 3) := by decide +kernel
theorem dX1_gives_183 : decode cX1_gives 183 = .ok (.iload 5, 2) := by decide +kernel
theorem dX1_gives_185 : decode cX1_gives 185 = .ok (.iconst 1, 1) := by decide +kernel
theorem dX1_gives_186 : decode cX1_gives 186 = .ok (.if_icmp .ne 16, 3) := by decide +kernel
theorem dX1_gives_189 : decode cX1_gives 189 = .ok (.aload 4, 2) := by decide +kernel
theorem dX1_gives_191 : decode cX1_gives 191 = .ok (.arraylength, 1) := by decide +kernel
theorem dX1_gives_192 : decode cX1_gives 192 = .ok (.ifCond .le 10, 3) := by decide +kernel
theorem dX1_gives_195 : decode cX1_gives 195 = .ok (.aload 4, 2) := by decide +kernel
theorem dX1_gives_197 : decode cX1_gives 197 = .ok (.iconst 0, 1) := by decide +kernel
theorem dX1_gives_198 : decode cX1_gives 198 = .ok (.iaload, 1) := by decide +kernel
theorem dX1_gives_199 : decode cX1_gives 199 = .ok (.goto 4, 3) := by decide +kernel
theorem dX1_gives_202 : decode cX1_gives 202 = .ok (.iconst 0, 1) := by decide +kernel
theorem dX1_gives_203 : decode cX1_gives 203 = .ok (.ireturn, 1) := by decide +kernel
theorem dX1_joined_0 : decode cX1_joined 0 = .ok (.iload_n 0, 1) := by decide +kernel
theorem dX1_joined_1 : decode cX1_joined 1 = .ok (.lookupswitch 168 #[(38, 140), (42, 91), (43, 83), (45, 87), (47, 95), (60, 107), (61, 118), (62, 129), (124, 154)], 83) := by decide +kernel
theorem dX1_joined_84 : decode cX1_joined 84 = .ok (.iload_n 1, 1) := by decide +kernel
theorem dX1_joined_85 : decode cX1_joined 85 = .ok (.iload_n 2, 1) := by decide +kernel
theorem dX1_joined_86 : decode cX1_joined 86 = .ok (.iadd, 1) := by decide +kernel
theorem dX1_joined_87 : decode cX1_joined 87 = .ok (.ireturn, 1) := by decide +kernel
theorem dX1_joined_88 : decode cX1_joined 88 = .ok (.iload_n 1, 1) := by decide +kernel
theorem dX1_joined_89 : decode cX1_joined 89 = .ok (.iload_n 2, 1) := by decide +kernel
theorem dX1_joined_90 : decode cX1_joined 90 = .ok (.isub, 1) := by decide +kernel
theorem dX1_joined_91 : decode cX1_joined 91 = .ok (.ireturn, 1) := by decide +kernel
theorem dX1_joined_92 : decode cX1_joined 92 = .ok (.iload_n 1, 1) := by decide +kernel
theorem dX1_joined_93 : decode cX1_joined 93 = .ok (.iload_n 2, 1) := by decide +kernel
theorem dX1_joined_94 : decode cX1_joined 94 = .ok (.imul, 1) := by decide +kernel
theorem dX1_joined_95 : decode cX1_joined 95 = .ok (.ireturn, 1) := by decide +kernel
theorem dX1_joined_96 : decode cX1_joined 96 = .ok (.iload_n 2, 1) := by decide +kernel
theorem dX1_joined_97 : decode cX1_joined 97 = .ok (.ifCond .ne 7, 3) := by decide +kernel
theorem dX1_joined_100 : decode cX1_joined 100 = .ok (.iconst 0, 1) := by decide +kernel
theorem dX1_joined_101 : decode cX1_joined 101 = .ok (.goto 6, 3) := by decide +kernel
theorem dX1_joined_104 : decode cX1_joined 104 = .ok (.iload_n 1, 1) := by decide +kernel
theorem dX1_joined_105 : decode cX1_joined 105 = .ok (.iload_n 2, 1) := by decide +kernel
theorem dX1_joined_106 : decode cX1_joined 106 = .ok (.idiv, 1) := by decide +kernel
theorem dX1_joined_107 : decode cX1_joined 107 = .ok (.ireturn, 1) := by decide +kernel
theorem dX1_joined_108 : decode cX1_joined 108 = .ok (.iload_n 1, 1) := by decide +kernel
theorem dX1_joined_109 : decode cX1_joined 109 = .ok (.iload_n 2, 1) := by decide +kernel
theorem dX1_joined_110 : decode cX1_joined 110 = .ok (.if_icmp .ge 7, 3) := by decide +kernel
theorem dX1_joined_113 : decode cX1_joined 113 = .ok (.iconst 1, 1) := by decide +kernel
theorem dX1_joined_114 : decode cX1_joined 114 = .ok (.goto 4, 3) := by decide +kernel
theorem dX1_joined_117 : decode cX1_joined 117 = .ok (.iconst 0, 1) := by decide +kernel
theorem dX1_joined_118 : decode cX1_joined 118 = .ok (.ireturn, 1) := by decide +kernel
theorem dX1_joined_119 : decode cX1_joined 119 = .ok (.iload_n 1, 1) := by decide +kernel
theorem dX1_joined_120 : decode cX1_joined 120 = .ok (.iload_n 2, 1) := by decide +kernel
theorem dX1_joined_121 : decode cX1_joined 121 = .ok (.if_icmp .ne 7, 3) := by decide +kernel
theorem dX1_joined_124 : decode cX1_joined 124 = .ok (.iconst 1, 1) := by decide +kernel
theorem dX1_joined_125 : decode cX1_joined 125 = .ok (.goto 4, 3) := by decide +kernel
theorem dX1_joined_128 : decode cX1_joined 128 = .ok (.iconst 0, 1) := by decide +kernel
theorem dX1_joined_129 : decode cX1_joined 129 = .ok (.ireturn, 1) := by decide +kernel
theorem dX1_joined_130 : decode cX1_joined 130 = .ok (.iload_n 1, 1) := by decide +kernel
theorem dX1_joined_131 : decode cX1_joined 131 = .ok (.iload_n 2, 1) := by decide +kernel
theorem dX1_joined_132 : decode cX1_joined 132 = .ok (.if_icmp .le 7, 3) := by decide +kernel
theorem dX1_joined_135 : decode cX1_joined 135 = .ok (.iconst 1, 1) := by decide +kernel
theorem dX1_joined_136 : decode cX1_joined 136 = .ok (.goto 4, 3) := by decide +kernel
theorem dX1_joined_139 : decode cX1_joined 139 = .ok (.iconst 0, 1) := by decide +kernel
theorem dX1_joined_140 : decode cX1_joined 140 = .ok (.ireturn, 1) := by decide +kernel
theorem dX1_joined_141 : decode cX1_joined 141 = .ok (.iload_n 1, 1) := by decide +kernel
theorem dX1_joined_142 : decode cX1_joined 142 = .ok (.ifCond .eq 11, 3) := by decide +kernel
theorem dX1_joined_145 : decode cX1_joined 145 = .ok (.iload_n 2, 1) := by decide +kernel
theorem dX1_joined_146 : decode cX1_joined 146 = .ok (.ifCond .eq 7, 3) := by decide +kernel
theorem dX1_joined_149 : decode cX1_joined 149 = .ok (.iconst 1, 1) := by decide +kernel
theorem dX1_joined_150 : decode cX1_joined 150 = .ok (.goto 4, 3) := by decide +kernel
theorem dX1_joined_153 : decode cX1_joined 153 = .ok (.iconst 0, 1) := by decide +kernel
theorem dX1_joined_154 : decode cX1_joined 154 = .ok (.ireturn, 1) := by decide +kernel
theorem dX1_joined_155 : decode cX1_joined 155 = .ok (.iload_n 1, 1) := by decide +kernel
theorem dX1_joined_156 : decode cX1_joined 156 = .ok (.ifCond .ne 7, 3) := by decide +kernel
theorem dX1_joined_159 : decode cX1_joined 159 = .ok (.iload_n 2, 1) := by decide +kernel
theorem dX1_joined_160 : decode cX1_joined 160 = .ok (.ifCond .eq 7, 3) := by decide +kernel
theorem dX1_joined_163 : decode cX1_joined 163 = .ok (.iconst 1, 1) := by decide +kernel
theorem dX1_joined_164 : decode cX1_joined 164 = .ok (.goto 4, 3) := by decide +kernel
theorem dX1_joined_167 : decode cX1_joined 167 = .ok (.iconst 0, 1) := by decide +kernel
theorem dX1_joined_168 : decode cX1_joined 168 = .ok (.ireturn, 1) := by decide +kernel
theorem dX1_joined_169 : decode cX1_joined 169 = .ok (.iconst 0, 1) := by decide +kernel
theorem dX1_joined_170 : decode cX1_joined 170 = .ok (.ireturn, 1) := by decide +kernel
theorem dX2_init_0 : decode cX2_init 0 = .ok (.aload_n 0, 1) := by decide +kernel
theorem dX2_init_1 : decode cX2_init 1 = .ok (.invokespecial 3, 3) := by decide +kernel
theorem dX2_init_4 : decode cX2_init 4 = .ok (.aload_n 0, 1) := by decide +kernel
theorem dX2_init_5 : decode cX2_init 5 = .ok (.iconst (-1), 1) := by decide +kernel
theorem dX2_init_6 : decode cX2_init 6 = .ok (.putfield 9, 3) := by decide +kernel
theorem dX2_init_9 : decode cX2_init 9 = .ok (.aload_n 0, 1) := by decide +kernel
theorem dX2_init_10 : decode cX2_init 10 = .ok (.iconst 0, 1) := by decide +kernel
theorem dX2_init_11 : decode cX2_init 11 = .ok (.putfield 15, 3) := by decide +kernel
theorem dX2_init_14 : decode cX2_init 14 = .ok (.aload_n 0, 1) := by decide +kernel
theorem dX2_init_15 : decode cX2_init 15 = .ok (.bipush 24, 2) := by decide +kernel
theorem dX2_init_17 : decode cX2_init 17 = .ok (.newarray .int, 2) := by decide +kernel
theorem dX2_init_19 : decode cX2_init 19 = .ok (.putfield 18, 3) := by decide +kernel
theorem dX2_init_22 : decode cX2_init 22 = .ok (.return_, 1) := by decide +kernel
theorem dX2_becomesEmpty_0 : decode cX2_becomesEmpty 0 = .ok (.aload_n 0, 1) := by decide +kernel
theorem dX2_becomesEmpty_1 : decode cX2_becomesEmpty 1 = .ok (.iload_n 1, 1) := by decide +kernel
theorem dX2_becomesEmpty_2 : decode cX2_becomesEmpty 2 = .ok (.putfield 9, 3) := by decide +kernel
theorem dX2_becomesEmpty_5 : decode cX2_becomesEmpty 5 = .ok (.aload_n 0, 1) := by decide +kernel
theorem dX2_becomesEmpty_6 : decode cX2_becomesEmpty 6 = .ok (.iload_n 2, 1) := by decide +kernel
theorem dX2_becomesEmpty_7 : decode cX2_becomesEmpty 7 = .ok (.putfield 15, 3) := by decide +kernel
theorem dX2_becomesEmpty_10 : decode cX2_becomesEmpty 10 = .ok (.aload_n 0, 1) := by decide +kernel
theorem dX2_becomesEmpty_11 : decode cX2_becomesEmpty 11 = .ok (.getfield 18, 3) := by decide +kernel
theorem dX2_becomesEmpty_14 : decode cX2_becomesEmpty 14 = .ok (.iconst 0, 1) := by decide +kernel
theorem dX2_becomesEmpty_15 : decode cX2_becomesEmpty 15 = .ok (.invokestatic 22, 3) := by decide +kernel
theorem dX2_becomesEmpty_18 : decode cX2_becomesEmpty 18 = .ok (.return_, 1) := by decide +kernel
theorem dX2_becomes_0 : decode cX2_becomes 0 = .ok (.aload_n 0, 1) := by decide +kernel
theorem dX2_becomes_1 : decode cX2_becomes 1 = .ok (.aload_n 1, 1) := by decide +kernel
theorem dX2_becomes_2 : decode cX2_becomes 2 = .ok (.getfield 9, 3) := by decide +kernel
theorem dX2_becomes_5 : decode cX2_becomes 5 = .ok (.putfield 9, 3) := by decide +kernel
theorem dX2_becomes_8 : decode cX2_becomes 8 = .ok (.aload_n 0, 1) := by decide +kernel
theorem dX2_becomes_9 : decode cX2_becomes 9 = .ok (.aload_n 1, 1) := by decide +kernel
theorem dX2_becomes_10 : decode cX2_becomes 10 = .ok (.getfield 15, 3) := by decide +kernel
theorem dX2_becomes_13 : decode cX2_becomes 13 = .ok (.putfield 15, 3) := by decide +kernel
theorem dX2_becomes_16 : decode cX2_becomes 16 = .ok (.aload_n 1, 1) := by decide +kernel
theorem dX2_becomes_17 : decode cX2_becomes 17 = .ok (.getfield 18, 3) := by decide +kernel
theorem dX2_becomes_20 : decode cX2_becomes 20 = .ok (.iconst 0, 1) := by decide +kernel
theorem dX2_becomes_21 : decode cX2_becomes 21 = .ok (.aload_n 0, 1) := by decide +kernel
theorem dX2_becomes_22 : decode cX2_becomes 22 = .ok (.getfield 18, 3) := by decide +kernel
theorem dX2_becomes_25 : decode cX2_becomes 25 = .ok (.iconst 0, 1) := by decide +kernel
theorem dX2_becomes_26 : decode cX2_becomes 26 = .ok (.bipush 24, 2) := by decide +kernel
theorem dX2_becomes_28 : decode cX2_becomes 28 = .ok (.invokestatic 28, 3) := by decide +kernel
theorem dX2_becomes_31 : decode cX2_becomes 31 = .ok (.return_, 1) := by decide +kernel
theorem dX2_hasPlace_0 : decode cX2_hasPlace 0 = .ok (.iload_n 1, 1) := by decide +kernel
theorem dX2_hasPlace_1 : decode cX2_hasPlace 1 = .ok (.ifCond .lt 24, 3) := by decide +kernel
theorem dX2_hasPlace_4 : decode cX2_hasPlace 4 = .ok (.iload_n 1, 1) := by decide +kernel
theorem dX2_hasPlace_5 : decode cX2_hasPlace 5 = .ok (.aload_n 0, 1) := by decide +kernel
theorem dX2_hasPlace_6 : decode cX2_hasPlace 6 = .ok (.getfield 15, 3) := by decide +kernel
theorem dX2_hasPlace_9 : decode cX2_hasPlace 9 = .ok (.if_icmp .ge 16, 3) := by decide +kernel
theorem dX2_hasPlace_12 : decode cX2_hasPlace 12 = .ok (.iload_n 1, 1) := by decide +kernel
theorem dX2_hasPlace_13 : decode cX2_hasPlace 13 = .ok (.aload_n 0, 1) := by decide +kernel
theorem dX2_hasPlace_14 : decode cX2_hasPlace 14 = .ok (.getfield 18, 3) := by decide +kernel
theorem dX2_hasPlace_17 : decode cX2_hasPlace 17 = .ok (.arraylength, 1) := by decide +kernel
theorem dX2_hasPlace_18 : decode cX2_hasPlace 18 = .ok (.if_icmp .ge 7, 3) := by decide +kernel
theorem dX2_hasPlace_21 : decode cX2_hasPlace 21 = .ok (.iconst 1, 1) := by decide +kernel
theorem dX2_hasPlace_22 : decode cX2_hasPlace 22 = .ok (.goto 4, 3) := by decide +kernel
theorem dX2_hasPlace_25 : decode cX2_hasPlace 25 = .ok (.iconst 0, 1) := by decide +kernel
theorem dX2_hasPlace_26 : decode cX2_hasPlace 26 = .ok (.ireturn, 1) := by decide +kernel
theorem dX2_hasRun_0 : decode cX2_hasRun 0 = .ok (.iload_n 2, 1) := by decide +kernel
theorem dX2_hasRun_1 : decode cX2_hasRun 1 = .ok (.ifCond .lt 29, 3) := by decide +kernel
theorem dX2_hasRun_4 : decode cX2_hasRun 4 = .ok (.iload_n 2, 1) := by decide +kernel
theorem dX2_hasRun_5 : decode cX2_hasRun 5 = .ok (.aload_n 0, 1) := by decide +kernel
theorem dX2_hasRun_6 : decode cX2_hasRun 6 = .ok (.getfield 15, 3) := by decide +kernel
theorem dX2_hasRun_9 : decode cX2_hasRun 9 = .ok (.if_icmp .gt 21, 3) := by decide +kernel
theorem dX2_hasRun_12 : decode cX2_hasRun 12 = .ok (.iload_n 1, 1) := by decide +kernel
theorem dX2_hasRun_13 : decode cX2_hasRun 13 = .ok (.ifCond .lt 17, 3) := by decide +kernel
theorem dX2_hasRun_16 : decode cX2_hasRun 16 = .ok (.iload_n 1, 1) := by decide +kernel
theorem dX2_hasRun_17 : decode cX2_hasRun 17 = .ok (.aload_n 0, 1) := by decide +kernel
theorem dX2_hasRun_18 : decode cX2_hasRun 18 = .ok (.getfield 15, 3) := by decide +kernel
theorem dX2_hasRun_21 : decode cX2_hasRun 21 = .ok (.iload_n 2, 1) := by decide +kernel
theorem dX2_hasRun_22 : decode cX2_hasRun 22 = .ok (.isub, 1) := by decide +kernel
theorem dX2_hasRun_23 : decode cX2_hasRun 23 = .ok (.if_icmp .gt 7, 3) := by decide +kernel
theorem dX2_hasRun_26 : decode cX2_hasRun 26 = .ok (.iconst 1, 1) := by decide +kernel
theorem dX2_hasRun_27 : decode cX2_hasRun 27 = .ok (.goto 4, 3) := by decide +kernel
theorem dX2_hasRun_30 : decode cX2_hasRun 30 = .ok (.iconst 0, 1) := by decide +kernel
theorem dX2_hasRun_31 : decode cX2_hasRun 31 = .ok (.ireturn, 1) := by decide +kernel
theorem dX2_placeAt_0 : decode cX2_placeAt 0 = .ok (.aload_n 0, 1) := by decide +kernel
theorem dX2_placeAt_1 : decode cX2_placeAt 1 = .ok (.iload_n 1, 1) := by decide +kernel
theorem dX2_placeAt_2 : decode cX2_placeAt 2 = .ok (.invokevirtual 34, 3) := by decide +kernel
theorem dX2_placeAt_5 : decode cX2_placeAt 5 = .ok (.ifCond .eq 12, 3) := by decide +kernel
theorem dX2_placeAt_8 : decode cX2_placeAt 8 = .ok (.aload_n 0, 1) := by decide +kernel
theorem dX2_placeAt_9 : decode cX2_placeAt 9 = .ok (.getfield 18, 3) := by decide +kernel
theorem dX2_placeAt_12 : decode cX2_placeAt 12 = .ok (.iload_n 1, 1) := by decide +kernel
theorem dX2_placeAt_13 : decode cX2_placeAt 13 = .ok (.iaload, 1) := by decide +kernel
theorem dX2_placeAt_14 : decode cX2_placeAt 14 = .ok (.goto 4, 3) := by decide +kernel
theorem dX2_placeAt_17 : decode cX2_placeAt 17 = .ok (.iconst 0, 1) := by decide +kernel
theorem dX2_placeAt_18 : decode cX2_placeAt 18 = .ok (.ireturn, 1) := by decide +kernel
theorem dX2_setPlace_0 : decode cX2_setPlace 0 = .ok (.aload_n 0, 1) := by decide +kernel
theorem dX2_setPlace_1 : decode cX2_setPlace 1 = .ok (.iload_n 1, 1) := by decide +kernel
theorem dX2_setPlace_2 : decode cX2_setPlace 2 = .ok (.invokevirtual 34, 3) := by decide +kernel
theorem dX2_setPlace_5 : decode cX2_setPlace 5 = .ok (.ifCond .eq 10, 3) := by decide +kernel
theorem dX2_setPlace_8 : decode cX2_setPlace 8 = .ok (.aload_n 0, 1) := by decide +kernel
theorem dX2_setPlace_9 : decode cX2_setPlace 9 = .ok (.getfield 18, 3) := by decide +kernel
theorem dX2_setPlace_12 : decode cX2_setPlace 12 = .ok (.iload_n 1, 1) := by decide +kernel
theorem dX2_setPlace_13 : decode cX2_setPlace 13 = .ok (.iload_n 2, 1) := by decide +kernel
theorem dX2_setPlace_14 : decode cX2_setPlace 14 = .ok (.iastore, 1) := by decide +kernel
theorem dX2_setPlace_15 : decode cX2_setPlace 15 = .ok (.return_, 1) := by decide +kernel
theorem dX3_init_0 : decode cX3_init 0 = .ok (.aload_n 0, 1) := by decide +kernel
theorem dX3_init_1 : decode cX3_init 1 = .ok (.invokespecial 3, 3) := by decide +kernel
theorem dX3_init_4 : decode cX3_init 4 = .ok (.aload_n 0, 1) := by decide +kernel
theorem dX3_init_5 : decode cX3_init 5 = .ok (.bipush 85, 2) := by decide +kernel
theorem dX3_init_7 : decode cX3_init 7 = .ok (.newarray .long, 2) := by decide +kernel
theorem dX3_init_9 : decode cX3_init 9 = .ok (.putfield 11, 3) := by decide +kernel
theorem dX3_init_12 : decode cX3_init 12 = .ok (.return_, 1) := by decide +kernel
theorem dX3_has_0 : decode cX3_has 0 = .ok (.iload_n 0, 1) := by decide +kernel
theorem dX3_has_1 : decode cX3_has 1 = .ok (.ifCond .lt 22, 3) := by decide +kernel
theorem dX3_has_4 : decode cX3_has 4 = .ok (.iload_n 0, 1) := by decide +kernel
theorem dX3_has_5 : decode cX3_has 5 = .ok (.bipush 16, 2) := by decide +kernel
theorem dX3_has_7 : decode cX3_has 7 = .ok (.if_icmp .gt 16, 3) := by decide +kernel
theorem dX3_has_10 : decode cX3_has 10 = .ok (.iload_n 1, 1) := by decide +kernel
theorem dX3_has_11 : decode cX3_has 11 = .ok (.ifCond .lt 12, 3) := by decide +kernel
theorem dX3_has_14 : decode cX3_has 14 = .ok (.iload_n 1, 1) := by decide +kernel
theorem dX3_has_15 : decode cX3_has 15 = .ok (.iconst 4, 1) := by decide +kernel
theorem dX3_has_16 : decode cX3_has 16 = .ok (.if_icmp .gt 7, 3) := by decide +kernel
theorem dX3_has_19 : decode cX3_has 19 = .ok (.iconst 1, 1) := by decide +kernel
theorem dX3_has_20 : decode cX3_has 20 = .ok (.goto 4, 3) := by decide +kernel
theorem dX3_has_23 : decode cX3_has 23 = .ok (.iconst 0, 1) := by decide +kernel
theorem dX3_has_24 : decode cX3_has 24 = .ok (.ireturn, 1) := by decide +kernel
theorem dX3_branches_0 : decode cX3_branches 0 = .ok (.iload_n 0, 1) := by decide +kernel
theorem dX3_branches_1 : decode cX3_branches 1 = .ok (.iconst 1, 1) := by decide +kernel
theorem dX3_branches_2 : decode cX3_branches 2 = .ok (.if_icmp .lt 13, 3) := by decide +kernel
theorem dX3_branches_5 : decode cX3_branches 5 = .ok (.iload_n 0, 1) := by decide +kernel
theorem dX3_branches_6 : decode cX3_branches 6 = .ok (.bipush 16, 2) := by decide +kernel
theorem dX3_branches_8 : decode cX3_branches 8 = .ok (.if_icmp .gt 7, 3) := by decide +kernel
theorem dX3_branches_11 : decode cX3_branches 11 = .ok (.iconst 1, 1) := by decide +kernel
theorem dX3_branches_12 : decode cX3_branches 12 = .ok (.goto 4, 3) := by decide +kernel
theorem dX3_branches_15 : decode cX3_branches 15 = .ok (.iconst 0, 1) := by decide +kernel
theorem dX3_branches_16 : decode cX3_branches 16 = .ok (.ireturn, 1) := by decide +kernel
theorem dX3_number_0 : decode cX3_number 0 = .ok (.iload_n 2, 1) := by decide +kernel
theorem dX3_number_1 : decode cX3_number 1 = .ok (.ifCond .lt 8, 3) := by decide +kernel
theorem dX3_number_4 : decode cX3_number 4 = .ok (.iload_n 2, 1) := by decide +kernel
theorem dX3_number_5 : decode cX3_number 5 = .ok (.iconst 4, 1) := by decide +kernel
theorem dX3_number_6 : decode cX3_number 6 = .ok (.if_icmp .le 7, 3) := by decide +kernel
theorem dX3_number_9 : decode cX3_number 9 = .ok (.iconst (-1), 1) := by decide +kernel
theorem dX3_number_10 : decode cX3_number 10 = .ok (.goto 8, 3) := by decide +kernel
theorem dX3_number_13 : decode cX3_number 13 = .ok (.iload_n 1, 1) := by decide +kernel
theorem dX3_number_14 : decode cX3_number 14 = .ok (.iconst 5, 1) := by decide +kernel
theorem dX3_number_15 : decode cX3_number 15 = .ok (.imul, 1) := by decide +kernel
theorem dX3_number_16 : decode cX3_number 16 = .ok (.iload_n 2, 1) := by decide +kernel
theorem dX3_number_17 : decode cX3_number 17 = .ok (.iadd, 1) := by decide +kernel
theorem dX3_number_18 : decode cX3_number 18 = .ok (.istore_n 3, 1) := by decide +kernel
theorem dX3_number_19 : decode cX3_number 19 = .ok (.iload_n 3, 1) := by decide +kernel
theorem dX3_number_20 : decode cX3_number 20 = .ok (.ifCond .lt 12, 3) := by decide +kernel
theorem dX3_number_23 : decode cX3_number 23 = .ok (.iload_n 3, 1) := by decide +kernel
theorem dX3_number_24 : decode cX3_number 24 = .ok (.aload_n 0, 1) := by decide +kernel
theorem dX3_number_25 : decode cX3_number 25 = .ok (.getfield 11, 3) := by decide +kernel
theorem dX3_number_28 : decode cX3_number 28 = .ok (.arraylength, 1) := by decide +kernel
theorem dX3_number_29 : decode cX3_number 29 = .ok (.if_icmp .lt 7, 3) := by decide +kernel
theorem dX3_number_32 : decode cX3_number 32 = .ok (.lconst 0, 1) := by decide +kernel
theorem dX3_number_33 : decode cX3_number 33 = .ok (.goto 9, 3) := by decide +kernel
theorem dX3_number_36 : decode cX3_number 36 = .ok (.aload_n 0, 1) := by decide +kernel
theorem dX3_number_37 : decode cX3_number 37 = .ok (.getfield 11, 3) := by decide +kernel
theorem dX3_number_40 : decode cX3_number 40 = .ok (.iload_n 3, 1) := by decide +kernel
theorem dX3_number_41 : decode cX3_number 41 = .ok (.laload, 1) := by decide +kernel
theorem dX3_number_42 : decode cX3_number 42 = .ok (.lreturn, 1) := by decide +kernel
theorem dX3_add_0 : decode cX3_add 0 = .ok (.iload_n 2, 1) := by decide +kernel
theorem dX3_add_1 : decode cX3_add 1 = .ok (.ifCond .lt 8, 3) := by decide +kernel
theorem dX3_add_4 : decode cX3_add 4 = .ok (.iload_n 2, 1) := by decide +kernel
theorem dX3_add_5 : decode cX3_add 5 = .ok (.iconst 4, 1) := by decide +kernel
theorem dX3_add_6 : decode cX3_add 6 = .ok (.if_icmp .le 7, 3) := by decide +kernel
theorem dX3_add_9 : decode cX3_add 9 = .ok (.iconst (-1), 1) := by decide +kernel
theorem dX3_add_10 : decode cX3_add 10 = .ok (.goto 8, 3) := by decide +kernel
theorem dX3_add_13 : decode cX3_add 13 = .ok (.iload_n 1, 1) := by decide +kernel
theorem dX3_add_14 : decode cX3_add 14 = .ok (.iconst 5, 1) := by decide +kernel
theorem dX3_add_15 : decode cX3_add 15 = .ok (.imul, 1) := by decide +kernel
theorem dX3_add_16 : decode cX3_add 16 = .ok (.iload_n 2, 1) := by decide +kernel
theorem dX3_add_17 : decode cX3_add 17 = .ok (.iadd, 1) := by decide +kernel
theorem dX3_add_18 : decode cX3_add 18 = .ok (.istore 5, 2) := by decide +kernel
theorem dX3_add_20 : decode cX3_add 20 = .ok (.iload 5, 2) := by decide +kernel
theorem dX3_add_22 : decode cX3_add 22 = .ok (.ifCond .lt 24, 3) := by decide +kernel
theorem dX3_add_25 : decode cX3_add 25 = .ok (.iload 5, 2) := by decide +kernel
theorem dX3_add_27 : decode cX3_add 27 = .ok (.aload_n 0, 1) := by decide +kernel
theorem dX3_add_28 : decode cX3_add 28 = .ok (.getfield 11, 3) := by decide +kernel
theorem dX3_add_31 : decode cX3_add 31 = .ok (.arraylength, 1) := by decide +kernel
theorem dX3_add_32 : decode cX3_add 32 = .ok (.if_icmp .ge 14, 3) := by decide +kernel
theorem dX3_add_35 : decode cX3_add 35 = .ok (.aload_n 0, 1) := by decide +kernel
theorem dX3_add_36 : decode cX3_add 36 = .ok (.getfield 11, 3) := by decide +kernel
theorem dX3_add_39 : decode cX3_add 39 = .ok (.iload 5, 2) := by decide +kernel
theorem dX3_add_41 : decode cX3_add 41 = .ok (.dup2, 1) := by decide +kernel
theorem dX3_add_42 : decode cX3_add 42 = .ok (.laload, 1) := by decide +kernel
theorem dX3_add_43 : decode cX3_add 43 = .ok (.lload_n 3, 1) := by decide +kernel
theorem dX3_add_44 : decode cX3_add 44 = .ok (.ladd, 1) := by decide +kernel
theorem dX3_add_45 : decode cX3_add 45 = .ok (.lastore, 1) := by decide +kernel
theorem dX3_add_46 : decode cX3_add 46 = .ok (.return_, 1) := by decide +kernel
theorem dX3_clear_0 : decode cX3_clear 0 = .ok (.aload_n 0, 1) := by decide +kernel
theorem dX3_clear_1 : decode cX3_clear 1 = .ok (.getfield 11, 3) := by decide +kernel
theorem dX3_clear_4 : decode cX3_clear 4 = .ok (.lconst 0, 1) := by decide +kernel
theorem dX3_clear_5 : decode cX3_clear 5 = .ok (.invokestatic 15, 3) := by decide +kernel
theorem dX3_clear_8 : decode cX3_clear 8 = .ok (.return_, 1) := by decide +kernel
theorem dX3_moveX_0 : decode cX3_moveX 0 = .ok (.iconst 0, 1) := by decide +kernel
theorem dX3_moveX_1 : decode cX3_moveX 1 = .ok (.istore_n 2, 1) := by decide +kernel
theorem dX3_moveX_2 : decode cX3_moveX 2 = .ok (.iload_n 2, 1) := by decide +kernel
theorem dX3_moveX_3 : decode cX3_moveX 3 = .ok (.iconst 4, 1) := by decide +kernel
theorem dX3_moveX_4 : decode cX3_moveX 4 = .ok (.if_icmp .ge 58, 3) := by decide +kernel
theorem dX3_moveX_7 : decode cX3_moveX 7 = .ok (.iconst 3, 1) := by decide +kernel
theorem dX3_moveX_8 : decode cX3_moveX 8 = .ok (.istore_n 3, 1) := by decide +kernel
theorem dX3_moveX_9 : decode cX3_moveX 9 = .ok (.iload_n 3, 1) := by decide +kernel
theorem dX3_moveX_10 : decode cX3_moveX 10 = .ok (.iload_n 2, 1) := by decide +kernel
theorem dX3_moveX_11 : decode cX3_moveX 11 = .ok (.if_icmp .lt 45, 3) := by decide +kernel
theorem dX3_moveX_14 : decode cX3_moveX 14 = .ok (.iconst 0, 1) := by decide +kernel
theorem dX3_moveX_15 : decode cX3_moveX 15 = .ok (.istore 4, 2) := by decide +kernel
theorem dX3_moveX_17 : decode cX3_moveX 17 = .ok (.iload 4, 2) := by decide +kernel
theorem dX3_moveX_19 : decode cX3_moveX 19 = .ok (.iconst 4, 1) := by decide +kernel
theorem dX3_moveX_20 : decode cX3_moveX 20 = .ok (.iload_n 3, 1) := by decide +kernel
theorem dX3_moveX_21 : decode cX3_moveX 21 = .ok (.isub, 1) := by decide +kernel
theorem dX3_moveX_22 : decode cX3_moveX 22 = .ok (.if_icmp .ge 28, 3) := by decide +kernel
theorem dX3_moveX_25 : decode cX3_moveX 25 = .ok (.aload_n 0, 1) := by decide +kernel
theorem dX3_moveX_26 : decode cX3_moveX 26 = .ok (.iload_n 3, 1) := by decide +kernel
theorem dX3_moveX_27 : decode cX3_moveX 27 = .ok (.iload 4, 2) := by decide +kernel
theorem dX3_moveX_29 : decode cX3_moveX 29 = .ok (.iload_n 1, 1) := by decide +kernel
theorem dX3_moveX_30 : decode cX3_moveX 30 = .ok (.i2l, 1) := by decide +kernel
theorem dX3_moveX_31 : decode cX3_moveX 31 = .ok (.aload_n 0, 1) := by decide +kernel
theorem dX3_moveX_32 : decode cX3_moveX 32 = .ok (.iload_n 3, 1) := by decide +kernel
theorem dX3_moveX_33 : decode cX3_moveX 33 = .ok (.iconst 1, 1) := by decide +kernel
theorem dX3_moveX_34 : decode cX3_moveX 34 = .ok (.iadd, 1) := by decide +kernel
theorem dX3_moveX_35 : decode cX3_moveX 35 = .ok (.iload 4, 2) := by decide +kernel
theorem dX3_moveX_37 : decode cX3_moveX 37 = .ok (.invokevirtual 21, 3) := by decide +kernel
theorem dX3_moveX_40 : decode cX3_moveX 40 = .ok (.lmul, 1) := by decide +kernel
theorem dX3_moveX_41 : decode cX3_moveX 41 = .ok (.invokevirtual 25, 3) := by decide +kernel
theorem dX3_moveX_44 : decode cX3_moveX 44 = .ok (.iinc 4 1, 3) := by decide +kernel
theorem dX3_moveX_47 : decode cX3_moveX 47 = .ok (.goto (-30), 3) := by decide +kernel
theorem dX3_moveX_50 : decode cX3_moveX 50 = .ok (.iinc 3 (-1), 3) := by decide +kernel
theorem dX3_moveX_53 : decode cX3_moveX 53 = .ok (.goto (-44), 3) := by decide +kernel
theorem dX3_moveX_56 : decode cX3_moveX 56 = .ok (.iinc 2 1, 3) := by decide +kernel
theorem dX3_moveX_59 : decode cX3_moveX 59 = .ok (.goto (-57), 3) := by decide +kernel
theorem dX3_moveX_62 : decode cX3_moveX 62 = .ok (.return_, 1) := by decide +kernel
theorem dX3_moveY_0 : decode cX3_moveY 0 = .ok (.iconst 0, 1) := by decide +kernel
theorem dX3_moveY_1 : decode cX3_moveY 1 = .ok (.istore_n 3, 1) := by decide +kernel
theorem dX3_moveY_2 : decode cX3_moveY 2 = .ok (.iload_n 3, 1) := by decide +kernel
theorem dX3_moveY_3 : decode cX3_moveY 3 = .ok (.iconst 4, 1) := by decide +kernel
theorem dX3_moveY_4 : decode cX3_moveY 4 = .ok (.if_icmp .ge 60, 3) := by decide +kernel
theorem dX3_moveY_7 : decode cX3_moveY 7 = .ok (.iconst 3, 1) := by decide +kernel
theorem dX3_moveY_8 : decode cX3_moveY 8 = .ok (.istore 4, 2) := by decide +kernel
theorem dX3_moveY_10 : decode cX3_moveY 10 = .ok (.iload 4, 2) := by decide +kernel
theorem dX3_moveY_12 : decode cX3_moveY 12 = .ok (.iload_n 3, 1) := by decide +kernel
theorem dX3_moveY_13 : decode cX3_moveY 13 = .ok (.if_icmp .lt 45, 3) := by decide +kernel
theorem dX3_moveY_16 : decode cX3_moveY 16 = .ok (.iconst 0, 1) := by decide +kernel
theorem dX3_moveY_17 : decode cX3_moveY 17 = .ok (.istore 5, 2) := by decide +kernel
theorem dX3_moveY_19 : decode cX3_moveY 19 = .ok (.iload 5, 2) := by decide +kernel
theorem dX3_moveY_21 : decode cX3_moveY 21 = .ok (.iload_n 2, 1) := by decide +kernel
theorem dX3_moveY_22 : decode cX3_moveY 22 = .ok (.if_icmp .gt 30, 3) := by decide +kernel
theorem dX3_moveY_25 : decode cX3_moveY 25 = .ok (.aload_n 0, 1) := by decide +kernel
theorem dX3_moveY_26 : decode cX3_moveY 26 = .ok (.iload 5, 2) := by decide +kernel
theorem dX3_moveY_28 : decode cX3_moveY 28 = .ok (.iload 4, 2) := by decide +kernel
theorem dX3_moveY_30 : decode cX3_moveY 30 = .ok (.iload_n 1, 1) := by decide +kernel
theorem dX3_moveY_31 : decode cX3_moveY 31 = .ok (.i2l, 1) := by decide +kernel
theorem dX3_moveY_32 : decode cX3_moveY 32 = .ok (.aload_n 0, 1) := by decide +kernel
theorem dX3_moveY_33 : decode cX3_moveY 33 = .ok (.iload 5, 2) := by decide +kernel
theorem dX3_moveY_35 : decode cX3_moveY 35 = .ok (.iload 4, 2) := by decide +kernel
theorem dX3_moveY_37 : decode cX3_moveY 37 = .ok (.iconst 1, 1) := by decide +kernel
theorem dX3_moveY_38 : decode cX3_moveY 38 = .ok (.iadd, 1) := by decide +kernel
theorem dX3_moveY_39 : decode cX3_moveY 39 = .ok (.invokevirtual 21, 3) := by decide +kernel
theorem dX3_moveY_42 : decode cX3_moveY 42 = .ok (.lmul, 1) := by decide +kernel
theorem dX3_moveY_43 : decode cX3_moveY 43 = .ok (.invokevirtual 25, 3) := by decide +kernel
theorem dX3_moveY_46 : decode cX3_moveY 46 = .ok (.iinc 5 1, 3) := by decide +kernel
theorem dX3_moveY_49 : decode cX3_moveY 49 = .ok (.goto (-30), 3) := by decide +kernel
theorem dX3_moveY_52 : decode cX3_moveY 52 = .ok (.iinc 4 (-1), 3) := by decide +kernel
theorem dX3_moveY_55 : decode cX3_moveY 55 = .ok (.goto (-45), 3) := by decide +kernel
theorem dX3_moveY_58 : decode cX3_moveY 58 = .ok (.iinc 3 1, 3) := by decide +kernel
theorem dX3_moveY_61 : decode cX3_moveY 61 = .ok (.goto (-59), 3) := by decide +kernel
theorem dX3_moveY_64 : decode cX3_moveY 64 = .ok (.return_, 1) := by decide +kernel
theorem dX3_least_0 : decode cX3_least 0 = .ok (.iconst 0, 1) := by decide +kernel
theorem dX3_least_1 : decode cX3_least 1 = .ok (.istore_n 1, 1) := by decide +kernel
theorem dX3_least_2 : decode cX3_least 2 = .ok (.iload_n 1, 1) := by decide +kernel
theorem dX3_least_3 : decode cX3_least 3 = .ok (.bipush 16, 2) := by decide +kernel
theorem dX3_least_5 : decode cX3_least 5 = .ok (.if_icmp .gt 37, 3) := by decide +kernel
theorem dX3_least_8 : decode cX3_least 8 = .ok (.iconst 0, 1) := by decide +kernel
theorem dX3_least_9 : decode cX3_least 9 = .ok (.istore_n 2, 1) := by decide +kernel
theorem dX3_least_10 : decode cX3_least 10 = .ok (.iload_n 2, 1) := by decide +kernel
theorem dX3_least_11 : decode cX3_least 11 = .ok (.iconst 4, 1) := by decide +kernel
theorem dX3_least_12 : decode cX3_least 12 = .ok (.if_icmp .gt 24, 3) := by decide +kernel
theorem dX3_least_15 : decode cX3_least 15 = .ok (.aload_n 0, 1) := by decide +kernel
theorem dX3_least_16 : decode cX3_least 16 = .ok (.iload_n 1, 1) := by decide +kernel
theorem dX3_least_17 : decode cX3_least 17 = .ok (.iload_n 2, 1) := by decide +kernel
theorem dX3_least_18 : decode cX3_least 18 = .ok (.isub, 1) := by decide +kernel
theorem dX3_least_19 : decode cX3_least 19 = .ok (.iload_n 2, 1) := by decide +kernel
theorem dX3_least_20 : decode cX3_least 20 = .ok (.invokevirtual 21, 3) := by decide +kernel
theorem dX3_least_23 : decode cX3_least 23 = .ok (.lconst 0, 1) := by decide +kernel
theorem dX3_least_24 : decode cX3_least 24 = .ok (.lcmp, 1) := by decide +kernel
theorem dX3_least_25 : decode cX3_least 25 = .ok (.ifCond .eq 5, 3) := by decide +kernel
theorem dX3_least_28 : decode cX3_least 28 = .ok (.iload_n 1, 1) := by decide +kernel
theorem dX3_least_29 : decode cX3_least 29 = .ok (.ireturn, 1) := by decide +kernel
theorem dX3_least_30 : decode cX3_least 30 = .ok (.iinc 2 1, 3) := by decide +kernel
theorem dX3_least_33 : decode cX3_least 33 = .ok (.goto (-23), 3) := by decide +kernel
theorem dX3_least_36 : decode cX3_least 36 = .ok (.iinc 1 1, 3) := by decide +kernel
theorem dX3_least_39 : decode cX3_least 39 = .ok (.goto (-37), 3) := by decide +kernel
theorem dX3_least_42 : decode cX3_least 42 = .ok (.bipush 17, 2) := by decide +kernel
theorem dX3_least_44 : decode cX3_least 44 = .ok (.ireturn, 1) := by decide +kernel
theorem dX3_lowestOf_0 : decode cX3_lowestOf 0 = .ok (.aload_n 0, 1) := by decide +kernel
theorem dX3_lowestOf_1 : decode cX3_lowestOf 1 = .ok (.iload_n 1, 1) := by decide +kernel
theorem dX3_lowestOf_2 : decode cX3_lowestOf 2 = .ok (.iload_n 2, 1) := by decide +kernel
theorem dX3_lowestOf_3 : decode cX3_lowestOf 3 = .ok (.isub, 1) := by decide +kernel
theorem dX3_lowestOf_4 : decode cX3_lowestOf 4 = .ok (.iload_n 2, 1) := by decide +kernel
theorem dX3_lowestOf_5 : decode cX3_lowestOf 5 = .ok (.invokevirtual 21, 3) := by decide +kernel
theorem dX3_lowestOf_8 : decode cX3_lowestOf 8 = .ok (.lreturn, 1) := by decide +kernel
theorem dX3_sumOnLine_0 : decode cX3_sumOnLine 0 = .ok (.lconst 0, 1) := by decide +kernel
theorem dX3_sumOnLine_1 : decode cX3_sumOnLine 1 = .ok (.lstore_n 3, 1) := by decide +kernel
theorem dX3_sumOnLine_2 : decode cX3_sumOnLine 2 = .ok (.iconst 4, 1) := by decide +kernel
theorem dX3_sumOnLine_3 : decode cX3_sumOnLine 3 = .ok (.istore 5, 2) := by decide +kernel
theorem dX3_sumOnLine_5 : decode cX3_sumOnLine 5 = .ok (.iload 5, 2) := by decide +kernel
theorem dX3_sumOnLine_7 : decode cX3_sumOnLine 7 = .ok (.ifCond .lt 25, 3) := by decide +kernel
theorem dX3_sumOnLine_10 : decode cX3_sumOnLine 10 = .ok (.lload_n 3, 1) := by decide +kernel
theorem dX3_sumOnLine_11 : decode cX3_sumOnLine 11 = .ok (.iload_n 2, 1) := by decide +kernel
theorem dX3_sumOnLine_12 : decode cX3_sumOnLine 12 = .ok (.i2l, 1) := by decide +kernel
theorem dX3_sumOnLine_13 : decode cX3_sumOnLine 13 = .ok (.lmul, 1) := by decide +kernel
theorem dX3_sumOnLine_14 : decode cX3_sumOnLine 14 = .ok (.aload_n 0, 1) := by decide +kernel
theorem dX3_sumOnLine_15 : decode cX3_sumOnLine 15 = .ok (.iload_n 1, 1) := by decide +kernel
theorem dX3_sumOnLine_16 : decode cX3_sumOnLine 16 = .ok (.iload 5, 2) := by decide +kernel
theorem dX3_sumOnLine_18 : decode cX3_sumOnLine 18 = .ok (.isub, 1) := by decide +kernel
theorem dX3_sumOnLine_19 : decode cX3_sumOnLine 19 = .ok (.iload 5, 2) := by decide +kernel
theorem dX3_sumOnLine_21 : decode cX3_sumOnLine 21 = .ok (.invokevirtual 21, 3) := by decide +kernel
theorem dX3_sumOnLine_24 : decode cX3_sumOnLine 24 = .ok (.ladd, 1) := by decide +kernel
theorem dX3_sumOnLine_25 : decode cX3_sumOnLine 25 = .ok (.lstore_n 3, 1) := by decide +kernel
theorem dX3_sumOnLine_26 : decode cX3_sumOnLine 26 = .ok (.iinc 5 (-1), 3) := by decide +kernel
theorem dX3_sumOnLine_29 : decode cX3_sumOnLine 29 = .ok (.goto (-24), 3) := by decide +kernel
theorem dX3_sumOnLine_32 : decode cX3_sumOnLine 32 = .ok (.lload_n 3, 1) := by decide +kernel
theorem dX3_sumOnLine_33 : decode cX3_sumOnLine 33 = .ok (.lreturn, 1) := by decide +kernel
theorem dX3_blowInto_0 : decode cX3_blowInto 0 = .ok (.aload_n 1, 1) := by decide +kernel
theorem dX3_blowInto_1 : decode cX3_blowInto 1 = .ok (.invokevirtual 29, 3) := by decide +kernel
theorem dX3_blowInto_4 : decode cX3_blowInto 4 = .ok (.iconst 0, 1) := by decide +kernel
theorem dX3_blowInto_5 : decode cX3_blowInto 5 = .ok (.istore 4, 2) := by decide +kernel
theorem dX3_blowInto_7 : decode cX3_blowInto 7 = .ok (.iload 4, 2) := by decide +kernel
theorem dX3_blowInto_9 : decode cX3_blowInto 9 = .ok (.bipush 16, 2) := by decide +kernel
theorem dX3_blowInto_11 : decode cX3_blowInto 11 = .ok (.if_icmp .gt 45, 3) := by decide +kernel
theorem dX3_blowInto_14 : decode cX3_blowInto 14 = .ok (.iconst 0, 1) := by decide +kernel
theorem dX3_blowInto_15 : decode cX3_blowInto 15 = .ok (.istore 5, 2) := by decide +kernel
theorem dX3_blowInto_17 : decode cX3_blowInto 17 = .ok (.iload 5, 2) := by decide +kernel
theorem dX3_blowInto_19 : decode cX3_blowInto 19 = .ok (.iconst 4, 1) := by decide +kernel
theorem dX3_blowInto_20 : decode cX3_blowInto 20 = .ok (.if_icmp .gt 30, 3) := by decide +kernel
theorem dX3_blowInto_23 : decode cX3_blowInto 23 = .ok (.aload_n 1, 1) := by decide +kernel
theorem dX3_blowInto_24 : decode cX3_blowInto 24 = .ok (.iload 4, 2) := by decide +kernel
theorem dX3_blowInto_26 : decode cX3_blowInto 26 = .ok (.iload 5, 2) := by decide +kernel
theorem dX3_blowInto_28 : decode cX3_blowInto 28 = .ok (.iadd, 1) := by decide +kernel
theorem dX3_blowInto_29 : decode cX3_blowInto 29 = .ok (.iload_n 3, 1) := by decide +kernel
theorem dX3_blowInto_30 : decode cX3_blowInto 30 = .ok (.isub, 1) := by decide +kernel
theorem dX3_blowInto_31 : decode cX3_blowInto 31 = .ok (.iload 5, 2) := by decide +kernel
theorem dX3_blowInto_33 : decode cX3_blowInto 33 = .ok (.aload_n 0, 1) := by decide +kernel
theorem dX3_blowInto_34 : decode cX3_blowInto 34 = .ok (.iload 4, 2) := by decide +kernel
theorem dX3_blowInto_36 : decode cX3_blowInto 36 = .ok (.iload 5, 2) := by decide +kernel
theorem dX3_blowInto_38 : decode cX3_blowInto 38 = .ok (.invokevirtual 21, 3) := by decide +kernel
theorem dX3_blowInto_41 : decode cX3_blowInto 41 = .ok (.invokevirtual 25, 3) := by decide +kernel
theorem dX3_blowInto_44 : decode cX3_blowInto 44 = .ok (.iinc 5 1, 3) := by decide +kernel
theorem dX3_blowInto_47 : decode cX3_blowInto 47 = .ok (.goto (-30), 3) := by decide +kernel
theorem dX3_blowInto_50 : decode cX3_blowInto 50 = .ok (.iinc 4 1, 3) := by decide +kernel
theorem dX3_blowInto_53 : decode cX3_blowInto 53 = .ok (.goto (-46), 3) := by decide +kernel
theorem dX3_blowInto_56 : decode cX3_blowInto 56 = .ok (.aload_n 1, 1) := by decide +kernel
theorem dX3_blowInto_57 : decode cX3_blowInto 57 = .ok (.iload_n 2, 1) := by decide +kernel
theorem dX3_blowInto_58 : decode cX3_blowInto 58 = .ok (.bipush 16, 2) := by decide +kernel
theorem dX3_blowInto_60 : decode cX3_blowInto 60 = .ok (.invokevirtual 32, 3) := by decide +kernel
theorem dX3_blowInto_63 : decode cX3_blowInto 63 = .ok (.return_, 1) := by decide +kernel
theorem dX3_leastX_0 : decode cX3_leastX 0 = .ok (.iconst 0, 1) := by decide +kernel
theorem dX3_leastX_1 : decode cX3_leastX 1 = .ok (.istore_n 2, 1) := by decide +kernel
theorem dX3_leastX_2 : decode cX3_leastX 2 = .ok (.iload_n 2, 1) := by decide +kernel
theorem dX3_leastX_3 : decode cX3_leastX 3 = .ok (.bipush 16, 2) := by decide +kernel
theorem dX3_leastX_5 : decode cX3_leastX 5 = .ok (.if_icmp .gt 22, 3) := by decide +kernel
theorem dX3_leastX_8 : decode cX3_leastX 8 = .ok (.aload_n 0, 1) := by decide +kernel
theorem dX3_leastX_9 : decode cX3_leastX 9 = .ok (.iload_n 2, 1) := by decide +kernel
theorem dX3_leastX_10 : decode cX3_leastX 10 = .ok (.iload_n 1, 1) := by decide +kernel
theorem dX3_leastX_11 : decode cX3_leastX 11 = .ok (.invokevirtual 21, 3) := by decide +kernel
theorem dX3_leastX_14 : decode cX3_leastX 14 = .ok (.lconst 0, 1) := by decide +kernel
theorem dX3_leastX_15 : decode cX3_leastX 15 = .ok (.lcmp, 1) := by decide +kernel
theorem dX3_leastX_16 : decode cX3_leastX 16 = .ok (.ifCond .eq 5, 3) := by decide +kernel
theorem dX3_leastX_19 : decode cX3_leastX 19 = .ok (.iload_n 2, 1) := by decide +kernel
theorem dX3_leastX_20 : decode cX3_leastX 20 = .ok (.ireturn, 1) := by decide +kernel
theorem dX3_leastX_21 : decode cX3_leastX 21 = .ok (.iinc 2 1, 3) := by decide +kernel
theorem dX3_leastX_24 : decode cX3_leastX 24 = .ok (.goto (-22), 3) := by decide +kernel
theorem dX3_leastX_27 : decode cX3_leastX 27 = .ok (.bipush 17, 2) := by decide +kernel
theorem dX3_leastX_29 : decode cX3_leastX 29 = .ok (.ireturn, 1) := by decide +kernel
theorem dX3_firstCorner_0 : decode cX3_firstCorner 0 = .ok (.iconst 0, 1) := by decide +kernel
theorem dX3_firstCorner_1 : decode cX3_firstCorner 1 = .ok (.istore_n 1, 1) := by decide +kernel
theorem dX3_firstCorner_2 : decode cX3_firstCorner 2 = .ok (.iload_n 1, 1) := by decide +kernel
theorem dX3_firstCorner_3 : decode cX3_firstCorner 3 = .ok (.iconst 4, 1) := by decide +kernel
theorem dX3_firstCorner_4 : decode cX3_firstCorner 4 = .ok (.if_icmp .gt 21, 3) := by decide +kernel
theorem dX3_firstCorner_7 : decode cX3_firstCorner 7 = .ok (.aload_n 0, 1) := by decide +kernel
theorem dX3_firstCorner_8 : decode cX3_firstCorner 8 = .ok (.iload_n 1, 1) := by decide +kernel
theorem dX3_firstCorner_9 : decode cX3_firstCorner 9 = .ok (.invokevirtual 36, 3) := by decide +kernel
theorem dX3_firstCorner_12 : decode cX3_firstCorner 12 = .ok (.bipush 17, 2) := by decide +kernel
theorem dX3_firstCorner_14 : decode cX3_firstCorner 14 = .ok (.if_icmp .eq 5, 3) := by decide +kernel
theorem dX3_firstCorner_17 : decode cX3_firstCorner 17 = .ok (.iload_n 1, 1) := by decide +kernel
theorem dX3_firstCorner_18 : decode cX3_firstCorner 18 = .ok (.ireturn, 1) := by decide +kernel
theorem dX3_firstCorner_19 : decode cX3_firstCorner 19 = .ok (.iinc 1 1, 3) := by decide +kernel
theorem dX3_firstCorner_22 : decode cX3_firstCorner 22 = .ok (.goto (-20), 3) := by decide +kernel
theorem dX3_firstCorner_25 : decode cX3_firstCorner 25 = .ok (.iconst (-1), 1) := by decide +kernel
theorem dX3_firstCorner_26 : decode cX3_firstCorner 26 = .ok (.ireturn, 1) := by decide +kernel
theorem dX3_steepestFrom_0 : decode cX3_steepestFrom 0 = .ok (.iconst (-1), 1) := by decide +kernel
theorem dX3_steepestFrom_1 : decode cX3_steepestFrom 1 = .ok (.istore_n 2, 1) := by decide +kernel
theorem dX3_steepestFrom_2 : decode cX3_steepestFrom 2 = .ok (.iconst 0, 1) := by decide +kernel
theorem dX3_steepestFrom_3 : decode cX3_steepestFrom 3 = .ok (.istore_n 3, 1) := by decide +kernel
theorem dX3_steepestFrom_4 : decode cX3_steepestFrom 4 = .ok (.iload_n 1, 1) := by decide +kernel
theorem dX3_steepestFrom_5 : decode cX3_steepestFrom 5 = .ok (.iconst 1, 1) := by decide +kernel
theorem dX3_steepestFrom_6 : decode cX3_steepestFrom 6 = .ok (.iadd, 1) := by decide +kernel
theorem dX3_steepestFrom_7 : decode cX3_steepestFrom 7 = .ok (.istore 4, 2) := by decide +kernel
theorem dX3_steepestFrom_9 : decode cX3_steepestFrom 9 = .ok (.iload_n 1, 1) := by decide +kernel
theorem dX3_steepestFrom_10 : decode cX3_steepestFrom 10 = .ok (.ifCond .lt 77, 3) := by decide +kernel
theorem dX3_steepestFrom_13 : decode cX3_steepestFrom 13 = .ok (.iload 4, 2) := by decide +kernel
theorem dX3_steepestFrom_15 : decode cX3_steepestFrom 15 = .ok (.iconst 4, 1) := by decide +kernel
theorem dX3_steepestFrom_16 : decode cX3_steepestFrom 16 = .ok (.if_icmp .gt 71, 3) := by decide +kernel
theorem dX3_steepestFrom_19 : decode cX3_steepestFrom 19 = .ok (.aload_n 0, 1) := by decide +kernel
theorem dX3_steepestFrom_20 : decode cX3_steepestFrom 20 = .ok (.iload_n 1, 1) := by decide +kernel
theorem dX3_steepestFrom_21 : decode cX3_steepestFrom 21 = .ok (.invokevirtual 36, 3) := by decide +kernel
theorem dX3_steepestFrom_24 : decode cX3_steepestFrom 24 = .ok (.aload_n 0, 1) := by decide +kernel
theorem dX3_steepestFrom_25 : decode cX3_steepestFrom 25 = .ok (.iload 4, 2) := by decide +kernel
theorem dX3_steepestFrom_27 : decode cX3_steepestFrom 27 = .ok (.invokevirtual 36, 3) := by decide +kernel
theorem dX3_steepestFrom_30 : decode cX3_steepestFrom 30 = .ok (.isub, 1) := by decide +kernel
theorem dX3_steepestFrom_31 : decode cX3_steepestFrom 31 = .ok (.istore 5, 2) := by decide +kernel
theorem dX3_steepestFrom_33 : decode cX3_steepestFrom 33 = .ok (.aload_n 0, 1) := by decide +kernel
theorem dX3_steepestFrom_34 : decode cX3_steepestFrom 34 = .ok (.iload 4, 2) := by decide +kernel
theorem dX3_steepestFrom_36 : decode cX3_steepestFrom 36 = .ok (.invokevirtual 36, 3) := by decide +kernel
theorem dX3_steepestFrom_39 : decode cX3_steepestFrom 39 = .ok (.bipush 17, 2) := by decide +kernel
theorem dX3_steepestFrom_41 : decode cX3_steepestFrom 41 = .ok (.if_icmp .eq 7, 3) := by decide +kernel
theorem dX3_steepestFrom_44 : decode cX3_steepestFrom 44 = .ok (.iconst 1, 1) := by decide +kernel
theorem dX3_steepestFrom_45 : decode cX3_steepestFrom 45 = .ok (.goto 4, 3) := by decide +kernel
theorem dX3_steepestFrom_48 : decode cX3_steepestFrom 48 = .ok (.iconst 0, 1) := by decide +kernel
theorem dX3_steepestFrom_49 : decode cX3_steepestFrom 49 = .ok (.istore 6, 2) := by decide +kernel
theorem dX3_steepestFrom_51 : decode cX3_steepestFrom 51 = .ok (.iload 6, 2) := by decide +kernel
theorem dX3_steepestFrom_53 : decode cX3_steepestFrom 53 = .ok (.ifCond .eq 28, 3) := by decide +kernel
theorem dX3_steepestFrom_56 : decode cX3_steepestFrom 56 = .ok (.iload_n 2, 1) := by decide +kernel
theorem dX3_steepestFrom_57 : decode cX3_steepestFrom 57 = .ok (.ifCond .lt 18, 3) := by decide +kernel
theorem dX3_steepestFrom_60 : decode cX3_steepestFrom 60 = .ok (.iload 5, 2) := by decide +kernel
theorem dX3_steepestFrom_62 : decode cX3_steepestFrom 62 = .ok (.iload_n 2, 1) := by decide +kernel
theorem dX3_steepestFrom_63 : decode cX3_steepestFrom 63 = .ok (.iload_n 1, 1) := by decide +kernel
theorem dX3_steepestFrom_64 : decode cX3_steepestFrom 64 = .ok (.isub, 1) := by decide +kernel
theorem dX3_steepestFrom_65 : decode cX3_steepestFrom 65 = .ok (.imul, 1) := by decide +kernel
theorem dX3_steepestFrom_66 : decode cX3_steepestFrom 66 = .ok (.iload_n 3, 1) := by decide +kernel
theorem dX3_steepestFrom_67 : decode cX3_steepestFrom 67 = .ok (.iload 4, 2) := by decide +kernel
theorem dX3_steepestFrom_69 : decode cX3_steepestFrom 69 = .ok (.iload_n 1, 1) := by decide +kernel
theorem dX3_steepestFrom_70 : decode cX3_steepestFrom 70 = .ok (.isub, 1) := by decide +kernel
theorem dX3_steepestFrom_71 : decode cX3_steepestFrom 71 = .ok (.imul, 1) := by decide +kernel
theorem dX3_steepestFrom_72 : decode cX3_steepestFrom 72 = .ok (.if_icmp .lt 9, 3) := by decide +kernel
theorem dX3_steepestFrom_75 : decode cX3_steepestFrom 75 = .ok (.iload 4, 2) := by decide +kernel
theorem dX3_steepestFrom_77 : decode cX3_steepestFrom 77 = .ok (.istore_n 2, 1) := by decide +kernel
theorem dX3_steepestFrom_78 : decode cX3_steepestFrom 78 = .ok (.iload 5, 2) := by decide +kernel
theorem dX3_steepestFrom_80 : decode cX3_steepestFrom 80 = .ok (.istore_n 3, 1) := by decide +kernel
theorem dX3_steepestFrom_81 : decode cX3_steepestFrom 81 = .ok (.iinc 4 1, 3) := by decide +kernel
theorem dX3_steepestFrom_84 : decode cX3_steepestFrom 84 = .ok (.goto (-75), 3) := by decide +kernel
theorem dX3_steepestFrom_87 : decode cX3_steepestFrom 87 = .ok (.iload_n 2, 1) := by decide +kernel
theorem dX3_steepestFrom_88 : decode cX3_steepestFrom 88 = .ok (.ireturn, 1) := by decide +kernel
theorem dX3_holdsTo_0 : decode cX3_holdsTo 0 = .ok (.iconst 0, 1) := by decide +kernel
theorem dX3_holdsTo_1 : decode cX3_holdsTo 1 = .ok (.istore_n 2, 1) := by decide +kernel
theorem dX3_holdsTo_2 : decode cX3_holdsTo 2 = .ok (.iload_n 2, 1) := by decide +kernel
theorem dX3_holdsTo_3 : decode cX3_holdsTo 3 = .ok (.bipush 20, 2) := by decide +kernel
theorem dX3_holdsTo_5 : decode cX3_holdsTo 5 = .ok (.if_icmp .gt 22, 3) := by decide +kernel
theorem dX3_holdsTo_8 : decode cX3_holdsTo 8 = .ok (.aload_n 0, 1) := by decide +kernel
theorem dX3_holdsTo_9 : decode cX3_holdsTo 9 = .ok (.iload_n 2, 1) := by decide +kernel
theorem dX3_holdsTo_10 : decode cX3_holdsTo 10 = .ok (.iload_n 1, 1) := by decide +kernel
theorem dX3_holdsTo_11 : decode cX3_holdsTo 11 = .ok (.invokevirtual 40, 3) := by decide +kernel
theorem dX3_holdsTo_14 : decode cX3_holdsTo 14 = .ok (.lconst 0, 1) := by decide +kernel
theorem dX3_holdsTo_15 : decode cX3_holdsTo 15 = .ok (.lcmp, 1) := by decide +kernel
theorem dX3_holdsTo_16 : decode cX3_holdsTo 16 = .ok (.ifCond .eq 5, 3) := by decide +kernel
theorem dX3_holdsTo_19 : decode cX3_holdsTo 19 = .ok (.iload_n 2, 1) := by decide +kernel
theorem dX3_holdsTo_20 : decode cX3_holdsTo 20 = .ok (.ireturn, 1) := by decide +kernel
theorem dX3_holdsTo_21 : decode cX3_holdsTo 21 = .ok (.iinc 2 1, 3) := by decide +kernel
theorem dX3_holdsTo_24 : decode cX3_holdsTo 24 = .ok (.goto (-22), 3) := by decide +kernel
theorem dX3_holdsTo_27 : decode cX3_holdsTo 27 = .ok (.iconst (-1), 1) := by decide +kernel
theorem dX3_holdsTo_28 : decode cX3_holdsTo 28 = .ok (.ireturn, 1) := by decide +kernel
theorem dX3_holdsToUpright_0 : decode cX3_holdsToUpright 0 = .ok (.iconst 0, 1) := by decide +kernel
theorem dX3_holdsToUpright_1 : decode cX3_holdsToUpright 1 = .ok (.istore_n 1, 1) := by decide +kernel
theorem dX3_holdsToUpright_2 : decode cX3_holdsToUpright 2 = .ok (.iload_n 1, 1) := by decide +kernel
theorem dX3_holdsToUpright_3 : decode cX3_holdsToUpright 3 = .ok (.iconst 4, 1) := by decide +kernel
theorem dX3_holdsToUpright_4 : decode cX3_holdsToUpright 4 = .ok (.if_icmp .gt 22, 3) := by decide +kernel
theorem dX3_holdsToUpright_7 : decode cX3_holdsToUpright 7 = .ok (.aload_n 0, 1) := by decide +kernel
theorem dX3_holdsToUpright_8 : decode cX3_holdsToUpright 8 = .ok (.iconst 0, 1) := by decide +kernel
theorem dX3_holdsToUpright_9 : decode cX3_holdsToUpright 9 = .ok (.iload_n 1, 1) := by decide +kernel
theorem dX3_holdsToUpright_10 : decode cX3_holdsToUpright 10 = .ok (.invokevirtual 21, 3) := by decide +kernel
theorem dX3_holdsToUpright_13 : decode cX3_holdsToUpright 13 = .ok (.lconst 0, 1) := by decide +kernel
theorem dX3_holdsToUpright_14 : decode cX3_holdsToUpright 14 = .ok (.lcmp, 1) := by decide +kernel
theorem dX3_holdsToUpright_15 : decode cX3_holdsToUpright 15 = .ok (.ifCond .eq 5, 3) := by decide +kernel
theorem dX3_holdsToUpright_18 : decode cX3_holdsToUpright 18 = .ok (.iload_n 1, 1) := by decide +kernel
theorem dX3_holdsToUpright_19 : decode cX3_holdsToUpright 19 = .ok (.ireturn, 1) := by decide +kernel
theorem dX3_holdsToUpright_20 : decode cX3_holdsToUpright 20 = .ok (.iinc 1 1, 3) := by decide +kernel
theorem dX3_holdsToUpright_23 : decode cX3_holdsToUpright 23 = .ok (.goto (-21), 3) := by decide +kernel
theorem dX3_holdsToUpright_26 : decode cX3_holdsToUpright 26 = .ok (.iconst (-1), 1) := by decide +kernel
theorem dX3_holdsToUpright_27 : decode cX3_holdsToUpright 27 = .ok (.ireturn, 1) := by decide +kernel
theorem dX4_init_0 : decode cX4_init 0 = .ok (.aload_n 0, 1) := by decide +kernel
theorem dX4_init_1 : decode cX4_init 1 = .ok (.invokespecial 3, 3) := by decide +kernel
theorem dX4_init_4 : decode cX4_init 4 = .ok (.aload_n 0, 1) := by decide +kernel
theorem dX4_init_5 : decode cX4_init 5 = .ok (.iconst 0, 1) := by decide +kernel
theorem dX4_init_6 : decode cX4_init 6 = .ok (.putfield 9, 3) := by decide +kernel
theorem dX4_init_9 : decode cX4_init 9 = .ok (.aload_n 0, 1) := by decide +kernel
theorem dX4_init_10 : decode cX4_init 10 = .ok (.iconst 0, 1) := by decide +kernel
theorem dX4_init_11 : decode cX4_init 11 = .ok (.putfield 15, 3) := by decide +kernel
theorem dX4_init_14 : decode cX4_init 14 = .ok (.aload_n 0, 1) := by decide +kernel
theorem dX4_init_15 : decode cX4_init 15 = .ok (.new 18, 3) := by decide +kernel
theorem dX4_init_18 : decode cX4_init 18 = .ok (.dup, 1) := by decide +kernel
theorem dX4_init_19 : decode cX4_init 19 = .ok (.invokespecial 20, 3) := by decide +kernel
theorem dX4_init_22 : decode cX4_init 22 = .ok (.putfield 21, 3) := by decide +kernel
theorem dX4_init_25 : decode cX4_init 25 = .ok (.aload_n 0, 1) := by decide +kernel
theorem dX4_init_26 : decode cX4_init 26 = .ok (.new 25, 3) := by decide +kernel
theorem dX4_init_29 : decode cX4_init 29 = .ok (.dup, 1) := by decide +kernel
theorem dX4_init_30 : decode cX4_init 30 = .ok (.invokespecial 27, 3) := by decide +kernel
theorem dX4_init_33 : decode cX4_init 33 = .ok (.putfield 28, 3) := by decide +kernel
theorem dX4_init_36 : decode cX4_init 36 = .ok (.return_, 1) := by decide +kernel
theorem dX5_init_0 : decode cX5_init 0 = .ok (.aload_n 0, 1) := by decide +kernel
theorem dX5_init_1 : decode cX5_init 1 = .ok (.invokespecial 3, 3) := by decide +kernel
theorem dX5_init_4 : decode cX5_init 4 = .ok (.aload_n 0, 1) := by decide +kernel
theorem dX5_init_5 : decode cX5_init 5 = .ok (.iconst 0, 1) := by decide +kernel
theorem dX5_init_6 : decode cX5_init 6 = .ok (.putfield 9, 3) := by decide +kernel
theorem dX5_init_9 : decode cX5_init 9 = .ok (.aload_n 0, 1) := by decide +kernel
theorem dX5_init_10 : decode cX5_init 10 = .ok (.bipush 96, 2) := by decide +kernel
theorem dX5_init_12 : decode cX5_init 12 = .ok (.newarray .int, 2) := by decide +kernel
theorem dX5_init_14 : decode cX5_init 14 = .ok (.putfield 15, 3) := by decide +kernel
theorem dX5_init_17 : decode cX5_init 17 = .ok (.aload_n 0, 1) := by decide +kernel
theorem dX5_init_18 : decode cX5_init 18 = .ok (.bipush 96, 2) := by decide +kernel
theorem dX5_init_20 : decode cX5_init 20 = .ok (.newarray .int, 2) := by decide +kernel
theorem dX5_init_22 : decode cX5_init 22 = .ok (.putfield 19, 3) := by decide +kernel
theorem dX5_init_25 : decode cX5_init 25 = .ok (.aload_n 0, 1) := by decide +kernel
theorem dX5_init_26 : decode cX5_init 26 = .ok (.iconst 0, 1) := by decide +kernel
theorem dX5_init_27 : decode cX5_init 27 = .ok (.putfield 22, 3) := by decide +kernel
theorem dX5_init_30 : decode cX5_init 30 = .ok (.aload_n 0, 1) := by decide +kernel
theorem dX5_init_31 : decode cX5_init 31 = .ok (.iconst 0, 1) := by decide +kernel
theorem dX5_init_32 : decode cX5_init 32 = .ok (.putfield 25, 3) := by decide +kernel
theorem dX5_init_35 : decode cX5_init 35 = .ok (.aload_n 0, 1) := by decide +kernel
theorem dX5_init_36 : decode cX5_init 36 = .ok (.iconst (-1), 1) := by decide +kernel
theorem dX5_init_37 : decode cX5_init 37 = .ok (.putfield 28, 3) := by decide +kernel
theorem dX5_init_40 : decode cX5_init 40 = .ok (.aload_n 0, 1) := by decide +kernel
theorem dX5_init_41 : decode cX5_init 41 = .ok (.iconst 0, 1) := by decide +kernel
theorem dX5_init_42 : decode cX5_init 42 = .ok (.putfield 31, 3) := by decide +kernel
theorem dX5_init_45 : decode cX5_init 45 = .ok (.return_, 1) := by decide +kernel
theorem dX5_addNumber_0 : decode cX5_addNumber 0 = .ok (.bipush 24, 2) := by decide +kernel
theorem dX5_addNumber_2 : decode cX5_addNumber 2 = .ok (.istore_n 2, 1) := by decide +kernel
theorem dX5_addNumber_3 : decode cX5_addNumber 3 = .ok (.iload_n 2, 1) := by decide +kernel
theorem dX5_addNumber_4 : decode cX5_addNumber 4 = .ok (.ifCond .lt 54, 3) := by decide +kernel
theorem dX5_addNumber_7 : decode cX5_addNumber 7 = .ok (.aload_n 0, 1) := by decide +kernel
theorem dX5_addNumber_8 : decode cX5_addNumber 8 = .ok (.getfield 9, 3) := by decide +kernel
theorem dX5_addNumber_11 : decode cX5_addNumber 11 = .ok (.ifCond .lt 41, 3) := by decide +kernel
theorem dX5_addNumber_14 : decode cX5_addNumber 14 = .ok (.aload_n 0, 1) := by decide +kernel
theorem dX5_addNumber_15 : decode cX5_addNumber 15 = .ok (.getfield 9, 3) := by decide +kernel
theorem dX5_addNumber_18 : decode cX5_addNumber 18 = .ok (.aload_n 0, 1) := by decide +kernel
theorem dX5_addNumber_19 : decode cX5_addNumber 19 = .ok (.getfield 15, 3) := by decide +kernel
theorem dX5_addNumber_22 : decode cX5_addNumber 22 = .ok (.arraylength, 1) := by decide +kernel
theorem dX5_addNumber_23 : decode cX5_addNumber 23 = .ok (.if_icmp .ge 29, 3) := by decide +kernel
theorem dX5_addNumber_26 : decode cX5_addNumber 26 = .ok (.aload_n 0, 1) := by decide +kernel
theorem dX5_addNumber_27 : decode cX5_addNumber 27 = .ok (.getfield 15, 3) := by decide +kernel
theorem dX5_addNumber_30 : decode cX5_addNumber 30 = .ok (.aload_n 0, 1) := by decide +kernel
theorem dX5_addNumber_31 : decode cX5_addNumber 31 = .ok (.getfield 9, 3) := by decide +kernel
theorem dX5_addNumber_34 : decode cX5_addNumber 34 = .ok (.iload_n 1, 1) := by decide +kernel
theorem dX5_addNumber_35 : decode cX5_addNumber 35 = .ok (.iload_n 2, 1) := by decide +kernel
theorem dX5_addNumber_36 : decode cX5_addNumber 36 = .ok (.iushr, 1) := by decide +kernel
theorem dX5_addNumber_37 : decode cX5_addNumber 37 = .ok (.sipush 255, 3) := by decide +kernel
theorem dX5_addNumber_40 : decode cX5_addNumber 40 = .ok (.iand, 1) := by decide +kernel
theorem dX5_addNumber_41 : decode cX5_addNumber 41 = .ok (.iastore, 1) := by decide +kernel
theorem dX5_addNumber_42 : decode cX5_addNumber 42 = .ok (.aload_n 0, 1) := by decide +kernel
theorem dX5_addNumber_43 : decode cX5_addNumber 43 = .ok (.dup, 1) := by decide +kernel
theorem dX5_addNumber_44 : decode cX5_addNumber 44 = .ok (.getfield 9, 3) := by decide +kernel
theorem dX5_addNumber_47 : decode cX5_addNumber 47 = .ok (.iconst 1, 1) := by decide +kernel
theorem dX5_addNumber_48 : decode cX5_addNumber 48 = .ok (.iadd, 1) := by decide +kernel
theorem dX5_addNumber_49 : decode cX5_addNumber 49 = .ok (.putfield 9, 3) := by decide +kernel
theorem dX5_addNumber_52 : decode cX5_addNumber 52 = .ok (.iinc 2 (-8), 3) := by decide +kernel
theorem dX5_addNumber_55 : decode cX5_addNumber 55 = .ok (.goto (-52), 3) := by decide +kernel
theorem dX5_addNumber_58 : decode cX5_addNumber 58 = .ok (.return_, 1) := by decide +kernel
theorem dX5_read_0 : decode cX5_read 0 = .ok (.aload_n 0, 1) := by decide +kernel
theorem dX5_read_1 : decode cX5_read 1 = .ok (.iconst 0, 1) := by decide +kernel
theorem dX5_read_2 : decode cX5_read 2 = .ok (.putfield 25, 3) := by decide +kernel
theorem dX5_read_5 : decode cX5_read 5 = .ok (.aload_n 0, 1) := by decide +kernel
theorem dX5_read_6 : decode cX5_read 6 = .ok (.iconst 0, 1) := by decide +kernel
theorem dX5_read_7 : decode cX5_read 7 = .ok (.putfield 22, 3) := by decide +kernel
theorem dX5_read_10 : decode cX5_read 10 = .ok (.aload_n 0, 1) := by decide +kernel
theorem dX5_read_11 : decode cX5_read 11 = .ok (.iconst 0, 1) := by decide +kernel
theorem dX5_read_12 : decode cX5_read 12 = .ok (.putfield 31, 3) := by decide +kernel
theorem dX5_read_15 : decode cX5_read 15 = .ok (.aload_n 0, 1) := by decide +kernel
theorem dX5_read_16 : decode cX5_read 16 = .ok (.aload_n 0, 1) := by decide +kernel
theorem dX5_read_17 : decode cX5_read 17 = .ok (.invokevirtual 34, 3) := by decide +kernel
theorem dX5_read_20 : decode cX5_read 20 = .ok (.putfield 28, 3) := by decide +kernel
theorem dX5_read_23 : decode cX5_read 23 = .ok (.aload_n 0, 1) := by decide +kernel
theorem dX5_read_24 : decode cX5_read 24 = .ok (.getfield 28, 3) := by decide +kernel
theorem dX5_read_27 : decode cX5_read 27 = .ok (.ifCond .lt 27, 3) := by decide +kernel
theorem dX5_read_30 : decode cX5_read 30 = .ok (.aload_n 0, 1) := by decide +kernel
theorem dX5_read_31 : decode cX5_read 31 = .ok (.aload_n 0, 1) := by decide +kernel
theorem dX5_read_32 : decode cX5_read 32 = .ok (.getfield 25, 3) := by decide +kernel
theorem dX5_read_35 : decode cX5_read 35 = .ok (.invokevirtual 38, 3) := by decide +kernel
theorem dX5_read_38 : decode cX5_read 38 = .ok (.invokestatic 42, 3) := by decide +kernel
theorem dX5_read_41 : decode cX5_read 41 = .ok (.ifCond .ne 13, 3) := by decide +kernel
theorem dX5_read_44 : decode cX5_read 44 = .ok (.aload_n 0, 1) := by decide +kernel
theorem dX5_read_45 : decode cX5_read 45 = .ok (.iconst 0, 1) := by decide +kernel
theorem dX5_read_46 : decode cX5_read 46 = .ok (.iconst 0, 1) := by decide +kernel
theorem dX5_read_47 : decode cX5_read 47 = .ok (.iconst 0, 1) := by decide +kernel
theorem dX5_read_48 : decode cX5_read 48 = .ok (.invokestatic 46, 3) := by decide +kernel
theorem dX5_read_51 : decode cX5_read 51 = .ok (.ifCond .ne 8, 3) := by decide +kernel
theorem dX5_read_54 : decode cX5_read 54 = .ok (.aload_n 0, 1) := by decide +kernel
theorem dX5_read_55 : decode cX5_read 55 = .ok (.getfield 25, 3) := by decide +kernel
theorem dX5_read_58 : decode cX5_read 58 = .ok (.ireturn, 1) := by decide +kernel
theorem dX5_read_59 : decode cX5_read 59 = .ok (.aload_n 0, 1) := by decide +kernel
theorem dX5_read_60 : decode cX5_read 60 = .ok (.invokevirtual 50, 3) := by decide +kernel
theorem dX5_read_63 : decode cX5_read 63 = .ok (.aload_n 0, 1) := by decide +kernel
theorem dX5_read_64 : decode cX5_read 64 = .ok (.getfield 25, 3) := by decide +kernel
theorem dX5_read_67 : decode cX5_read 67 = .ok (.aload_n 0, 1) := by decide +kernel
theorem dX5_read_68 : decode cX5_read 68 = .ok (.getfield 9, 3) := by decide +kernel
theorem dX5_read_71 : decode cX5_read 71 = .ok (.if_icmp .ge 10, 3) := by decide +kernel
theorem dX5_read_74 : decode cX5_read 74 = .ok (.aload_n 0, 1) := by decide +kernel
theorem dX5_read_75 : decode cX5_read 75 = .ok (.getfield 25, 3) := by decide +kernel
theorem dX5_read_78 : decode cX5_read 78 = .ok (.goto 4, 3) := by decide +kernel
theorem dX5_read_81 : decode cX5_read 81 = .ok (.iconst (-1), 1) := by decide +kernel
theorem dX5_read_82 : decode cX5_read 82 = .ok (.ireturn, 1) := by decide +kernel
theorem dX5_law_0 : decode cX5_law 0 = .ok (.new 53, 3) := by decide +kernel
theorem dX5_law_3 : decode cX5_law 3 = .ok (.dup, 1) := by decide +kernel
theorem dX5_law_4 : decode cX5_law 4 = .ok (.aload_n 0, 1) := by decide +kernel
theorem dX5_law_5 : decode cX5_law 5 = .ok (.getfield 28, 3) := by decide +kernel
theorem dX5_law_8 : decode cX5_law 8 = .ok (.aload_n 0, 1) := by decide +kernel
theorem dX5_law_9 : decode cX5_law 9 = .ok (.getfield 31, 3) := by decide +kernel
theorem dX5_law_12 : decode cX5_law 12 = .ok (.aload_n 0, 1) := by decide +kernel
theorem dX5_law_13 : decode cX5_law 13 = .ok (.getfield 19, 3) := by decide +kernel
theorem dX5_law_16 : decode cX5_law 16 = .ok (.iconst 0, 1) := by decide +kernel
theorem dX5_law_17 : decode cX5_law 17 = .ok (.aload_n 0, 1) := by decide +kernel
theorem dX5_law_18 : decode cX5_law 18 = .ok (.getfield 22, 3) := by decide +kernel
theorem dX5_law_21 : decode cX5_law 21 = .ok (.invokestatic 55, 3) := by decide +kernel
theorem dX5_law_24 : decode cX5_law 24 = .ok (.invokestatic 61, 3) := by decide +kernel
theorem dX5_law_27 : decode cX5_law 27 = .ok (.invokespecial 67, 3) := by decide +kernel
theorem dX5_law_30 : decode cX5_law 30 = .ok (.areturn, 1) := by decide +kernel
theorem dX5_byteAt_0 : decode cX5_byteAt 0 = .ok (.iload_n 1, 1) := by decide +kernel
theorem dX5_byteAt_1 : decode cX5_byteAt 1 = .ok (.ifCond .lt 20, 3) := by decide +kernel
theorem dX5_byteAt_4 : decode cX5_byteAt 4 = .ok (.iload_n 1, 1) := by decide +kernel
theorem dX5_byteAt_5 : decode cX5_byteAt 5 = .ok (.aload_n 0, 1) := by decide +kernel
theorem dX5_byteAt_6 : decode cX5_byteAt 6 = .ok (.getfield 9, 3) := by decide +kernel
theorem dX5_byteAt_9 : decode cX5_byteAt 9 = .ok (.if_icmp .ge 12, 3) := by decide +kernel
theorem dX5_byteAt_12 : decode cX5_byteAt 12 = .ok (.iload_n 1, 1) := by decide +kernel
theorem dX5_byteAt_13 : decode cX5_byteAt 13 = .ok (.aload_n 0, 1) := by decide +kernel
theorem dX5_byteAt_14 : decode cX5_byteAt 14 = .ok (.getfield 15, 3) := by decide +kernel
theorem dX5_byteAt_17 : decode cX5_byteAt 17 = .ok (.arraylength, 1) := by decide +kernel
theorem dX5_byteAt_18 : decode cX5_byteAt 18 = .ok (.if_icmp .lt 7, 3) := by decide +kernel
theorem dX5_byteAt_21 : decode cX5_byteAt 21 = .ok (.iconst (-1), 1) := by decide +kernel
theorem dX5_byteAt_22 : decode cX5_byteAt 22 = .ok (.goto 9, 3) := by decide +kernel
theorem dX5_byteAt_25 : decode cX5_byteAt 25 = .ok (.aload_n 0, 1) := by decide +kernel
theorem dX5_byteAt_26 : decode cX5_byteAt 26 = .ok (.getfield 15, 3) := by decide +kernel
theorem dX5_byteAt_29 : decode cX5_byteAt 29 = .ok (.iload_n 1, 1) := by decide +kernel
theorem dX5_byteAt_30 : decode cX5_byteAt 30 = .ok (.iaload, 1) := by decide +kernel
theorem dX5_byteAt_31 : decode cX5_byteAt 31 = .ok (.ireturn, 1) := by decide +kernel
theorem dX5_isDigit_0 : decode cX5_isDigit 0 = .ok (.iload_n 0, 1) := by decide +kernel
theorem dX5_isDigit_1 : decode cX5_isDigit 1 = .ok (.bipush 48, 2) := by decide +kernel
theorem dX5_isDigit_3 : decode cX5_isDigit 3 = .ok (.if_icmp .lt 13, 3) := by decide +kernel
theorem dX5_isDigit_6 : decode cX5_isDigit 6 = .ok (.iload_n 0, 1) := by decide +kernel
theorem dX5_isDigit_7 : decode cX5_isDigit 7 = .ok (.bipush 57, 2) := by decide +kernel
theorem dX5_isDigit_9 : decode cX5_isDigit 9 = .ok (.if_icmp .gt 7, 3) := by decide +kernel
theorem dX5_isDigit_12 : decode cX5_isDigit 12 = .ok (.iconst 1, 1) := by decide +kernel
theorem dX5_isDigit_13 : decode cX5_isDigit 13 = .ok (.goto 4, 3) := by decide +kernel
theorem dX5_isDigit_16 : decode cX5_isDigit 16 = .ok (.iconst 0, 1) := by decide +kernel
theorem dX5_isDigit_17 : decode cX5_isDigit 17 = .ok (.ireturn, 1) := by decide +kernel
theorem dX5_isLetter_0 : decode cX5_isLetter 0 = .ok (.iload_n 0, 1) := by decide +kernel
theorem dX5_isLetter_1 : decode cX5_isLetter 1 = .ok (.bipush 97, 2) := by decide +kernel
theorem dX5_isLetter_3 : decode cX5_isLetter 3 = .ok (.if_icmp .lt 13, 3) := by decide +kernel
theorem dX5_isLetter_6 : decode cX5_isLetter 6 = .ok (.iload_n 0, 1) := by decide +kernel
theorem dX5_isLetter_7 : decode cX5_isLetter 7 = .ok (.bipush 122, 2) := by decide +kernel
theorem dX5_isLetter_9 : decode cX5_isLetter 9 = .ok (.if_icmp .gt 7, 3) := by decide +kernel
theorem dX5_isLetter_12 : decode cX5_isLetter 12 = .ok (.iconst 1, 1) := by decide +kernel
theorem dX5_isLetter_13 : decode cX5_isLetter 13 = .ok (.goto 4, 3) := by decide +kernel
theorem dX5_isLetter_16 : decode cX5_isLetter 16 = .ok (.iconst 0, 1) := by decide +kernel
theorem dX5_isLetter_17 : decode cX5_isLetter 17 = .ok (.ireturn, 1) := by decide +kernel
theorem dX5_skipBlanks_0 : decode cX5_skipBlanks 0 = .ok (.iconst 0, 1) := by decide +kernel
theorem dX5_skipBlanks_1 : decode cX5_skipBlanks 1 = .ok (.istore_n 1, 1) := by decide +kernel
theorem dX5_skipBlanks_2 : decode cX5_skipBlanks 2 = .ok (.iload_n 1, 1) := by decide +kernel
theorem dX5_skipBlanks_3 : decode cX5_skipBlanks 3 = .ok (.bipush 96, 2) := by decide +kernel
theorem dX5_skipBlanks_5 : decode cX5_skipBlanks 5 = .ok (.if_icmp .ge 32, 3) := by decide +kernel
theorem dX5_skipBlanks_8 : decode cX5_skipBlanks 8 = .ok (.aload_n 0, 1) := by decide +kernel
theorem dX5_skipBlanks_9 : decode cX5_skipBlanks 9 = .ok (.aload_n 0, 1) := by decide +kernel
theorem dX5_skipBlanks_10 : decode cX5_skipBlanks 10 = .ok (.getfield 25, 3) := by decide +kernel
theorem dX5_skipBlanks_13 : decode cX5_skipBlanks 13 = .ok (.invokevirtual 38, 3) := by decide +kernel
theorem dX5_skipBlanks_16 : decode cX5_skipBlanks 16 = .ok (.bipush 32, 2) := by decide +kernel
theorem dX5_skipBlanks_18 : decode cX5_skipBlanks 18 = .ok (.if_icmp .ne 19, 3) := by decide +kernel
theorem dX5_skipBlanks_21 : decode cX5_skipBlanks 21 = .ok (.aload_n 0, 1) := by decide +kernel
theorem dX5_skipBlanks_22 : decode cX5_skipBlanks 22 = .ok (.dup, 1) := by decide +kernel
theorem dX5_skipBlanks_23 : decode cX5_skipBlanks 23 = .ok (.getfield 25, 3) := by decide +kernel
theorem dX5_skipBlanks_26 : decode cX5_skipBlanks 26 = .ok (.iconst 1, 1) := by decide +kernel
theorem dX5_skipBlanks_27 : decode cX5_skipBlanks 27 = .ok (.iadd, 1) := by decide +kernel
theorem dX5_skipBlanks_28 : decode cX5_skipBlanks 28 = .ok (.putfield 25, 3) := by decide +kernel
theorem dX5_skipBlanks_31 : decode cX5_skipBlanks 31 = .ok (.iinc 1 1, 3) := by decide +kernel
theorem dX5_skipBlanks_34 : decode cX5_skipBlanks 34 = .ok (.goto (-32), 3) := by decide +kernel
theorem dX5_skipBlanks_37 : decode cX5_skipBlanks 37 = .ok (.return_, 1) := by decide +kernel
theorem dX5_write_0 : decode cX5_write 0 = .ok (.aload_n 0, 1) := by decide +kernel
theorem dX5_write_1 : decode cX5_write 1 = .ok (.getfield 22, 3) := by decide +kernel
theorem dX5_write_4 : decode cX5_write 4 = .ok (.ifCond .lt 35, 3) := by decide +kernel
theorem dX5_write_7 : decode cX5_write 7 = .ok (.aload_n 0, 1) := by decide +kernel
theorem dX5_write_8 : decode cX5_write 8 = .ok (.getfield 22, 3) := by decide +kernel
theorem dX5_write_11 : decode cX5_write 11 = .ok (.aload_n 0, 1) := by decide +kernel
theorem dX5_write_12 : decode cX5_write 12 = .ok (.getfield 19, 3) := by decide +kernel
theorem dX5_write_15 : decode cX5_write 15 = .ok (.arraylength, 1) := by decide +kernel
theorem dX5_write_16 : decode cX5_write 16 = .ok (.if_icmp .ge 23, 3) := by decide +kernel
theorem dX5_write_19 : decode cX5_write 19 = .ok (.aload_n 0, 1) := by decide +kernel
theorem dX5_write_20 : decode cX5_write 20 = .ok (.getfield 19, 3) := by decide +kernel
theorem dX5_write_23 : decode cX5_write 23 = .ok (.aload_n 0, 1) := by decide +kernel
theorem dX5_write_24 : decode cX5_write 24 = .ok (.getfield 22, 3) := by decide +kernel
theorem dX5_write_27 : decode cX5_write 27 = .ok (.iload_n 1, 1) := by decide +kernel
theorem dX5_write_28 : decode cX5_write 28 = .ok (.iastore, 1) := by decide +kernel
theorem dX5_write_29 : decode cX5_write 29 = .ok (.aload_n 0, 1) := by decide +kernel
theorem dX5_write_30 : decode cX5_write 30 = .ok (.dup, 1) := by decide +kernel
theorem dX5_write_31 : decode cX5_write 31 = .ok (.getfield 22, 3) := by decide +kernel
theorem dX5_write_34 : decode cX5_write 34 = .ok (.iconst 1, 1) := by decide +kernel
theorem dX5_write_35 : decode cX5_write 35 = .ok (.iadd, 1) := by decide +kernel
theorem dX5_write_36 : decode cX5_write 36 = .ok (.putfield 22, 3) := by decide +kernel
theorem dX5_write_39 : decode cX5_write 39 = .ok (.return_, 1) := by decide +kernel
theorem dX5_readKey_0 : decode cX5_readKey 0 = .ok (.aload_n 0, 1) := by decide +kernel
theorem dX5_readKey_1 : decode cX5_readKey 1 = .ok (.invokevirtual 50, 3) := by decide +kernel
theorem dX5_readKey_4 : decode cX5_readKey 4 = .ok (.iconst 0, 1) := by decide +kernel
theorem dX5_readKey_5 : decode cX5_readKey 5 = .ok (.istore_n 1, 1) := by decide +kernel
theorem dX5_readKey_6 : decode cX5_readKey 6 = .ok (.iload_n 1, 1) := by decide +kernel
theorem dX5_readKey_7 : decode cX5_readKey 7 = .ok (.iconst 2, 1) := by decide +kernel
theorem dX5_readKey_8 : decode cX5_readKey 8 = .ok (.if_icmp .gt 54, 3) := by decide +kernel
theorem dX5_readKey_11 : decode cX5_readKey 11 = .ok (.iload_n 1, 1) := by decide +kernel
theorem dX5_readKey_12 : decode cX5_readKey 12 = .ok (.ifCond .ne 8, 3) := by decide +kernel
theorem dX5_readKey_15 : decode cX5_readKey 15 = .ok (.ldc 70, 2) := by decide +kernel
theorem dX5_readKey_17 : decode cX5_readKey 17 = .ok (.goto 15, 3) := by decide +kernel
theorem dX5_readKey_20 : decode cX5_readKey 20 = .ok (.iload_n 1, 1) := by decide +kernel
theorem dX5_readKey_21 : decode cX5_readKey 21 = .ok (.iconst 1, 1) := by decide +kernel
theorem dX5_readKey_22 : decode cX5_readKey 22 = .ok (.if_icmp .ne 8, 3) := by decide +kernel
theorem dX5_readKey_25 : decode cX5_readKey 25 = .ok (.ldc 72, 2) := by decide +kernel
theorem dX5_readKey_27 : decode cX5_readKey 27 = .ok (.goto 5, 3) := by decide +kernel
theorem dX5_readKey_30 : decode cX5_readKey 30 = .ok (.ldc 74, 2) := by decide +kernel
theorem dX5_readKey_32 : decode cX5_readKey 32 = .ok (.astore_n 2, 1) := by decide +kernel
theorem dX5_readKey_33 : decode cX5_readKey 33 = .ok (.aload_n 0, 1) := by decide +kernel
theorem dX5_readKey_34 : decode cX5_readKey 34 = .ok (.aload_n 2, 1) := by decide +kernel
theorem dX5_readKey_35 : decode cX5_readKey 35 = .ok (.invokevirtual 76, 3) := by decide +kernel
theorem dX5_readKey_38 : decode cX5_readKey 38 = .ok (.ifCond .eq 18, 3) := by decide +kernel
theorem dX5_readKey_41 : decode cX5_readKey 41 = .ok (.aload_n 0, 1) := by decide +kernel
theorem dX5_readKey_42 : decode cX5_readKey 42 = .ok (.dup, 1) := by decide +kernel
theorem dX5_readKey_43 : decode cX5_readKey 43 = .ok (.getfield 25, 3) := by decide +kernel
theorem dX5_readKey_46 : decode cX5_readKey 46 = .ok (.aload_n 2, 1) := by decide +kernel
theorem dX5_readKey_47 : decode cX5_readKey 47 = .ok (.invokevirtual 80, 3) := by decide +kernel
theorem dX5_readKey_50 : decode cX5_readKey 50 = .ok (.iadd, 1) := by decide +kernel
theorem dX5_readKey_51 : decode cX5_readKey 51 = .ok (.putfield 25, 3) := by decide +kernel
theorem dX5_readKey_54 : decode cX5_readKey 54 = .ok (.iload_n 1, 1) := by decide +kernel
theorem dX5_readKey_55 : decode cX5_readKey 55 = .ok (.ireturn, 1) := by decide +kernel
theorem dX5_readKey_56 : decode cX5_readKey 56 = .ok (.iinc 1 1, 3) := by decide +kernel
theorem dX5_readKey_59 : decode cX5_readKey 59 = .ok (.goto (-53), 3) := by decide +kernel
theorem dX5_readKey_62 : decode cX5_readKey 62 = .ok (.iconst (-1), 1) := by decide +kernel
theorem dX5_readKey_63 : decode cX5_readKey 63 = .ok (.ireturn, 1) := by decide +kernel
theorem dX5_isWord_0 : decode cX5_isWord 0 = .ok (.iconst 0, 1) := by decide +kernel
theorem dX5_isWord_1 : decode cX5_isWord 1 = .ok (.istore_n 2, 1) := by decide +kernel
theorem dX5_isWord_2 : decode cX5_isWord 2 = .ok (.iload_n 2, 1) := by decide +kernel
theorem dX5_isWord_3 : decode cX5_isWord 3 = .ok (.aload_n 1, 1) := by decide +kernel
theorem dX5_isWord_4 : decode cX5_isWord 4 = .ok (.invokevirtual 80, 3) := by decide +kernel
theorem dX5_isWord_7 : decode cX5_isWord 7 = .ok (.if_icmp .ge 29, 3) := by decide +kernel
theorem dX5_isWord_10 : decode cX5_isWord 10 = .ok (.aload_n 0, 1) := by decide +kernel
theorem dX5_isWord_11 : decode cX5_isWord 11 = .ok (.aload_n 0, 1) := by decide +kernel
theorem dX5_isWord_12 : decode cX5_isWord 12 = .ok (.getfield 25, 3) := by decide +kernel
theorem dX5_isWord_15 : decode cX5_isWord 15 = .ok (.iload_n 2, 1) := by decide +kernel
theorem dX5_isWord_16 : decode cX5_isWord 16 = .ok (.iadd, 1) := by decide +kernel
theorem dX5_isWord_17 : decode cX5_isWord 17 = .ok (.invokevirtual 38, 3) := by decide +kernel
theorem dX5_isWord_20 : decode cX5_isWord 20 = .ok (.aload_n 1, 1) := by decide +kernel
theorem dX5_isWord_21 : decode cX5_isWord 21 = .ok (.iload_n 2, 1) := by decide +kernel
theorem dX5_isWord_22 : decode cX5_isWord 22 = .ok (.invokevirtual 84, 3) := by decide +kernel
theorem dX5_isWord_25 : decode cX5_isWord 25 = .ok (.if_icmp .eq 5, 3) := by decide +kernel
theorem dX5_isWord_28 : decode cX5_isWord 28 = .ok (.iconst 0, 1) := by decide +kernel
theorem dX5_isWord_29 : decode cX5_isWord 29 = .ok (.ireturn, 1) := by decide +kernel
theorem dX5_isWord_30 : decode cX5_isWord 30 = .ok (.iinc 2 1, 3) := by decide +kernel
theorem dX5_isWord_33 : decode cX5_isWord 33 = .ok (.goto (-31), 3) := by decide +kernel
theorem dX5_isWord_36 : decode cX5_isWord 36 = .ok (.aload_n 0, 1) := by decide +kernel
theorem dX5_isWord_37 : decode cX5_isWord 37 = .ok (.aload_n 0, 1) := by decide +kernel
theorem dX5_isWord_38 : decode cX5_isWord 38 = .ok (.getfield 25, 3) := by decide +kernel
theorem dX5_isWord_41 : decode cX5_isWord 41 = .ok (.aload_n 1, 1) := by decide +kernel
theorem dX5_isWord_42 : decode cX5_isWord 42 = .ok (.invokevirtual 80, 3) := by decide +kernel
theorem dX5_isWord_45 : decode cX5_isWord 45 = .ok (.iadd, 1) := by decide +kernel
theorem dX5_isWord_46 : decode cX5_isWord 46 = .ok (.invokevirtual 38, 3) := by decide +kernel
theorem dX5_isWord_49 : decode cX5_isWord 49 = .ok (.invokestatic 88, 3) := by decide +kernel
theorem dX5_isWord_52 : decode cX5_isWord 52 = .ok (.ifCond .ne 7, 3) := by decide +kernel
theorem dX5_isWord_55 : decode cX5_isWord 55 = .ok (.iconst 1, 1) := by decide +kernel
theorem dX5_isWord_56 : decode cX5_isWord 56 = .ok (.goto 4, 3) := by decide +kernel
theorem dX5_isWord_59 : decode cX5_isWord 59 = .ok (.iconst 0, 1) := by decide +kernel
theorem dX5_isWord_60 : decode cX5_isWord 60 = .ok (.ireturn, 1) := by decide +kernel
theorem dX5_nextOf_0 : decode cX5_nextOf 0 = .ok (.aload_n 0, 1) := by decide +kernel
theorem dX5_nextOf_1 : decode cX5_nextOf 1 = .ok (.invokevirtual 50, 3) := by decide +kernel
theorem dX5_nextOf_4 : decode cX5_nextOf 4 = .ok (.aload_n 0, 1) := by decide +kernel
theorem dX5_nextOf_5 : decode cX5_nextOf 5 = .ok (.aload_n 0, 1) := by decide +kernel
theorem dX5_nextOf_6 : decode cX5_nextOf 6 = .ok (.getfield 25, 3) := by decide +kernel
theorem dX5_nextOf_9 : decode cX5_nextOf 9 = .ok (.invokevirtual 38, 3) := by decide +kernel
theorem dX5_nextOf_12 : decode cX5_nextOf 12 = .ok (.istore_n 2, 1) := by decide +kernel
theorem dX5_nextOf_13 : decode cX5_nextOf 13 = .ok (.iload_n 2, 1) := by decide +kernel
theorem dX5_nextOf_14 : decode cX5_nextOf 14 = .ok (.ifCond .lt 16, 3) := by decide +kernel
theorem dX5_nextOf_17 : decode cX5_nextOf 17 = .ok (.aload_n 1, 1) := by decide +kernel
theorem dX5_nextOf_18 : decode cX5_nextOf 18 = .ok (.iload_n 2, 1) := by decide +kernel
theorem dX5_nextOf_19 : decode cX5_nextOf 19 = .ok (.i2c, 1) := by decide +kernel
theorem dX5_nextOf_20 : decode cX5_nextOf 20 = .ok (.invokevirtual 91, 3) := by decide +kernel
theorem dX5_nextOf_23 : decode cX5_nextOf 23 = .ok (.ifCond .lt 7, 3) := by decide +kernel
theorem dX5_nextOf_26 : decode cX5_nextOf 26 = .ok (.iload_n 2, 1) := by decide +kernel
theorem dX5_nextOf_27 : decode cX5_nextOf 27 = .ok (.goto 4, 3) := by decide +kernel
theorem dX5_nextOf_30 : decode cX5_nextOf 30 = .ok (.iconst (-1), 1) := by decide +kernel
theorem dX5_nextOf_31 : decode cX5_nextOf 31 = .ok (.ireturn, 1) := by decide +kernel
theorem dX5_signsOf_0 : decode cX5_signsOf 0 = .ok (.iload_n 0, 1) := by decide +kernel
theorem dX5_signsOf_1 : decode cX5_signsOf 1 = .ok (.tableswitch 43 0 3 #[31, 34, 37, 40], 31) := by decide +kernel
theorem dX5_signsOf_32 : decode cX5_signsOf 32 = .ok (.ldc 94, 2) := by decide +kernel
theorem dX5_signsOf_34 : decode cX5_signsOf 34 = .ok (.areturn, 1) := by decide +kernel
theorem dX5_signsOf_35 : decode cX5_signsOf 35 = .ok (.ldc 96, 2) := by decide +kernel
theorem dX5_signsOf_37 : decode cX5_signsOf 37 = .ok (.areturn, 1) := by decide +kernel
theorem dX5_signsOf_38 : decode cX5_signsOf 38 = .ok (.ldc 98, 2) := by decide +kernel
theorem dX5_signsOf_40 : decode cX5_signsOf 40 = .ok (.areturn, 1) := by decide +kernel
theorem dX5_signsOf_41 : decode cX5_signsOf 41 = .ok (.ldc 100, 2) := by decide +kernel
theorem dX5_signsOf_43 : decode cX5_signsOf 43 = .ok (.areturn, 1) := by decide +kernel
theorem dX5_signsOf_44 : decode cX5_signsOf 44 = .ok (.ldc 102, 2) := by decide +kernel
theorem dX5_signsOf_46 : decode cX5_signsOf 46 = .ok (.areturn, 1) := by decide +kernel
theorem dX5_readLevel_0 : decode cX5_readLevel 0 = .ok (.iload_n 1, 1) := by decide +kernel
theorem dX5_readLevel_1 : decode cX5_readLevel 1 = .ok (.iconst 5, 1) := by decide +kernel
theorem dX5_readLevel_2 : decode cX5_readLevel 2 = .ok (.if_icmp .lt 10, 3) := by decide +kernel
theorem dX5_readLevel_5 : decode cX5_readLevel 5 = .ok (.aload_n 0, 1) := by decide +kernel
theorem dX5_readLevel_6 : decode cX5_readLevel 6 = .ok (.iload_n 2, 1) := by decide +kernel
theorem dX5_readLevel_7 : decode cX5_readLevel 7 = .ok (.iload_n 3, 1) := by decide +kernel
theorem dX5_readLevel_8 : decode cX5_readLevel 8 = .ok (.invokestatic 104, 3) := by decide +kernel
theorem dX5_readLevel_11 : decode cX5_readLevel 11 = .ok (.ireturn, 1) := by decide +kernel
theorem dX5_readLevel_12 : decode cX5_readLevel 12 = .ok (.aload_n 0, 1) := by decide +kernel
theorem dX5_readLevel_13 : decode cX5_readLevel 13 = .ok (.iload_n 1, 1) := by decide +kernel
theorem dX5_readLevel_14 : decode cX5_readLevel 14 = .ok (.iconst 1, 1) := by decide +kernel
theorem dX5_readLevel_15 : decode cX5_readLevel 15 = .ok (.iadd, 1) := by decide +kernel
theorem dX5_readLevel_16 : decode cX5_readLevel 16 = .ok (.iload_n 2, 1) := by decide +kernel
theorem dX5_readLevel_17 : decode cX5_readLevel 17 = .ok (.iload_n 3, 1) := by decide +kernel
theorem dX5_readLevel_18 : decode cX5_readLevel 18 = .ok (.invokestatic 46, 3) := by decide +kernel
theorem dX5_readLevel_21 : decode cX5_readLevel 21 = .ok (.ifCond .ne 5, 3) := by decide +kernel
theorem dX5_readLevel_24 : decode cX5_readLevel 24 = .ok (.iconst 0, 1) := by decide +kernel
theorem dX5_readLevel_25 : decode cX5_readLevel 25 = .ok (.ireturn, 1) := by decide +kernel
theorem dX5_readLevel_26 : decode cX5_readLevel 26 = .ok (.iload_n 1, 1) := by decide +kernel
theorem dX5_readLevel_27 : decode cX5_readLevel 27 = .ok (.iconst 2, 1) := by decide +kernel
theorem dX5_readLevel_28 : decode cX5_readLevel 28 = .ok (.if_icmp .ne 7, 3) := by decide +kernel
theorem dX5_readLevel_31 : decode cX5_readLevel 31 = .ok (.iconst 1, 1) := by decide +kernel
theorem dX5_readLevel_32 : decode cX5_readLevel 32 = .ok (.goto 5, 3) := by decide +kernel
theorem dX5_readLevel_35 : decode cX5_readLevel 35 = .ok (.bipush 96, 2) := by decide +kernel
theorem dX5_readLevel_37 : decode cX5_readLevel 37 = .ok (.istore 4, 2) := by decide +kernel
theorem dX5_readLevel_39 : decode cX5_readLevel 39 = .ok (.iconst 0, 1) := by decide +kernel
theorem dX5_readLevel_40 : decode cX5_readLevel 40 = .ok (.istore 5, 2) := by decide +kernel
theorem dX5_readLevel_42 : decode cX5_readLevel 42 = .ok (.iload 5, 2) := by decide +kernel
theorem dX5_readLevel_44 : decode cX5_readLevel 44 = .ok (.iload 4, 2) := by decide +kernel
theorem dX5_readLevel_46 : decode cX5_readLevel 46 = .ok (.if_icmp .ge 57, 3) := by decide +kernel
theorem dX5_readLevel_49 : decode cX5_readLevel 49 = .ok (.aload_n 0, 1) := by decide +kernel
theorem dX5_readLevel_50 : decode cX5_readLevel 50 = .ok (.iload_n 1, 1) := by decide +kernel
theorem dX5_readLevel_51 : decode cX5_readLevel 51 = .ok (.invokestatic 108, 3) := by decide +kernel
theorem dX5_readLevel_54 : decode cX5_readLevel 54 = .ok (.invokevirtual 112, 3) := by decide +kernel
theorem dX5_readLevel_57 : decode cX5_readLevel 57 = .ok (.istore 6, 2) := by decide +kernel
theorem dX5_readLevel_59 : decode cX5_readLevel 59 = .ok (.iload 6, 2) := by decide +kernel
theorem dX5_readLevel_61 : decode cX5_readLevel 61 = .ok (.ifCond .ge 5, 3) := by decide +kernel
theorem dX5_readLevel_64 : decode cX5_readLevel 64 = .ok (.iconst 1, 1) := by decide +kernel
theorem dX5_readLevel_65 : decode cX5_readLevel 65 = .ok (.ireturn, 1) := by decide +kernel
theorem dX5_readLevel_66 : decode cX5_readLevel 66 = .ok (.aload_n 0, 1) := by decide +kernel
theorem dX5_readLevel_67 : decode cX5_readLevel 67 = .ok (.dup, 1) := by decide +kernel
theorem dX5_readLevel_68 : decode cX5_readLevel 68 = .ok (.getfield 25, 3) := by decide +kernel
theorem dX5_readLevel_71 : decode cX5_readLevel 71 = .ok (.iconst 1, 1) := by decide +kernel
theorem dX5_readLevel_72 : decode cX5_readLevel 72 = .ok (.iadd, 1) := by decide +kernel
theorem dX5_readLevel_73 : decode cX5_readLevel 73 = .ok (.putfield 25, 3) := by decide +kernel
theorem dX5_readLevel_76 : decode cX5_readLevel 76 = .ok (.aload_n 0, 1) := by decide +kernel
theorem dX5_readLevel_77 : decode cX5_readLevel 77 = .ok (.iload_n 1, 1) := by decide +kernel
theorem dX5_readLevel_78 : decode cX5_readLevel 78 = .ok (.iconst 1, 1) := by decide +kernel
theorem dX5_readLevel_79 : decode cX5_readLevel 79 = .ok (.iadd, 1) := by decide +kernel
theorem dX5_readLevel_80 : decode cX5_readLevel 80 = .ok (.iload_n 2, 1) := by decide +kernel
theorem dX5_readLevel_81 : decode cX5_readLevel 81 = .ok (.iload_n 3, 1) := by decide +kernel
theorem dX5_readLevel_82 : decode cX5_readLevel 82 = .ok (.invokestatic 46, 3) := by decide +kernel
theorem dX5_readLevel_85 : decode cX5_readLevel 85 = .ok (.ifCond .ne 5, 3) := by decide +kernel
theorem dX5_readLevel_88 : decode cX5_readLevel 88 = .ok (.iconst 0, 1) := by decide +kernel
theorem dX5_readLevel_89 : decode cX5_readLevel 89 = .ok (.ireturn, 1) := by decide +kernel
theorem dX5_readLevel_90 : decode cX5_readLevel 90 = .ok (.aload_n 0, 1) := by decide +kernel
theorem dX5_readLevel_91 : decode cX5_readLevel 91 = .ok (.iload 6, 2) := by decide +kernel
theorem dX5_readLevel_93 : decode cX5_readLevel 93 = .ok (.ineg, 1) := by decide +kernel
theorem dX5_readLevel_94 : decode cX5_readLevel 94 = .ok (.invokevirtual 116, 3) := by decide +kernel
theorem dX5_readLevel_97 : decode cX5_readLevel 97 = .ok (.iinc 5 1, 3) := by decide +kernel
theorem dX5_readLevel_100 : decode cX5_readLevel 100 = .ok (.goto (-58), 3) := by decide +kernel
theorem dX5_readLevel_103 : decode cX5_readLevel 103 = .ok (.iconst 1, 1) := by decide +kernel
theorem dX5_readLevel_104 : decode cX5_readLevel 104 = .ok (.ireturn, 1) := by decide +kernel
theorem dX5_readPiece_0 : decode cX5_readPiece 0 = .ok (.iload_n 2, 1) := by decide +kernel
theorem dX5_readPiece_1 : decode cX5_readPiece 1 = .ok (.istore_n 3, 1) := by decide +kernel
theorem dX5_readPiece_2 : decode cX5_readPiece 2 = .ok (.iconst 0, 1) := by decide +kernel
theorem dX5_readPiece_3 : decode cX5_readPiece 3 = .ok (.istore 4, 2) := by decide +kernel
theorem dX5_readPiece_5 : decode cX5_readPiece 5 = .ok (.iload 4, 2) := by decide +kernel
theorem dX5_readPiece_7 : decode cX5_readPiece 7 = .ok (.bipush 96, 2) := by decide +kernel
theorem dX5_readPiece_9 : decode cX5_readPiece 9 = .ok (.if_icmp .ge 39, 3) := by decide +kernel
theorem dX5_readPiece_12 : decode cX5_readPiece 12 = .ok (.aload_n 0, 1) := by decide +kernel
theorem dX5_readPiece_13 : decode cX5_readPiece 13 = .ok (.ldc 120, 2) := by decide +kernel
theorem dX5_readPiece_15 : decode cX5_readPiece 15 = .ok (.invokevirtual 112, 3) := by decide +kernel
theorem dX5_readPiece_18 : decode cX5_readPiece 18 = .ok (.ifCond .lt 30, 3) := by decide +kernel
theorem dX5_readPiece_21 : decode cX5_readPiece 21 = .ok (.iload_n 3, 1) := by decide +kernel
theorem dX5_readPiece_22 : decode cX5_readPiece 22 = .ok (.bipush 8, 2) := by decide +kernel
theorem dX5_readPiece_24 : decode cX5_readPiece 24 = .ok (.if_icmp .lt 5, 3) := by decide +kernel
theorem dX5_readPiece_27 : decode cX5_readPiece 27 = .ok (.iconst 0, 1) := by decide +kernel
theorem dX5_readPiece_28 : decode cX5_readPiece 28 = .ok (.ireturn, 1) := by decide +kernel
theorem dX5_readPiece_29 : decode cX5_readPiece 29 = .ok (.iinc 3 1, 3) := by decide +kernel
theorem dX5_readPiece_32 : decode cX5_readPiece 32 = .ok (.aload_n 0, 1) := by decide +kernel
theorem dX5_readPiece_33 : decode cX5_readPiece 33 = .ok (.dup, 1) := by decide +kernel
theorem dX5_readPiece_34 : decode cX5_readPiece 34 = .ok (.getfield 25, 3) := by decide +kernel
theorem dX5_readPiece_37 : decode cX5_readPiece 37 = .ok (.iconst 1, 1) := by decide +kernel
theorem dX5_readPiece_38 : decode cX5_readPiece 38 = .ok (.iadd, 1) := by decide +kernel
theorem dX5_readPiece_39 : decode cX5_readPiece 39 = .ok (.putfield 25, 3) := by decide +kernel
theorem dX5_readPiece_42 : decode cX5_readPiece 42 = .ok (.iinc 4 1, 3) := by decide +kernel
theorem dX5_readPiece_45 : decode cX5_readPiece 45 = .ok (.goto (-40), 3) := by decide +kernel
theorem dX5_readPiece_48 : decode cX5_readPiece 48 = .ok (.aload_n 0, 1) := by decide +kernel
theorem dX5_readPiece_49 : decode cX5_readPiece 49 = .ok (.iload_n 1, 1) := by decide +kernel
theorem dX5_readPiece_50 : decode cX5_readPiece 50 = .ok (.iload_n 3, 1) := by decide +kernel
theorem dX5_readPiece_51 : decode cX5_readPiece 51 = .ok (.invokestatic 122, 3) := by decide +kernel
theorem dX5_readPiece_54 : decode cX5_readPiece 54 = .ok (.ifCond .ne 5, 3) := by decide +kernel
theorem dX5_readPiece_57 : decode cX5_readPiece 57 = .ok (.iconst 0, 1) := by decide +kernel
theorem dX5_readPiece_58 : decode cX5_readPiece 58 = .ok (.ireturn, 1) := by decide +kernel
theorem dX5_readPiece_59 : decode cX5_readPiece 59 = .ok (.iload_n 2, 1) := by decide +kernel
theorem dX5_readPiece_60 : decode cX5_readPiece 60 = .ok (.istore 4, 2) := by decide +kernel
theorem dX5_readPiece_62 : decode cX5_readPiece 62 = .ok (.iload 4, 2) := by decide +kernel
theorem dX5_readPiece_64 : decode cX5_readPiece 64 = .ok (.iload_n 3, 1) := by decide +kernel
theorem dX5_readPiece_65 : decode cX5_readPiece 65 = .ok (.if_icmp .ge 15, 3) := by decide +kernel
theorem dX5_readPiece_68 : decode cX5_readPiece 68 = .ok (.aload_n 0, 1) := by decide +kernel
theorem dX5_readPiece_69 : decode cX5_readPiece 69 = .ok (.bipush (-33), 2) := by decide +kernel
theorem dX5_readPiece_71 : decode cX5_readPiece 71 = .ok (.invokevirtual 116, 3) := by decide +kernel
theorem dX5_readPiece_74 : decode cX5_readPiece 74 = .ok (.iinc 4 1, 3) := by decide +kernel
theorem dX5_readPiece_77 : decode cX5_readPiece 77 = .ok (.goto (-15), 3) := by decide +kernel
theorem dX5_readPiece_80 : decode cX5_readPiece 80 = .ok (.iconst 1, 1) := by decide +kernel
theorem dX5_readPiece_81 : decode cX5_readPiece 81 = .ok (.ireturn, 1) := by decide +kernel
theorem dX5_readInner_0 : decode cX5_readInner 0 = .ok (.aload_n 0, 1) := by decide +kernel
theorem dX5_readInner_1 : decode cX5_readInner 1 = .ok (.aload_n 0, 1) := by decide +kernel
theorem dX5_readInner_2 : decode cX5_readInner 2 = .ok (.getfield 25, 3) := by decide +kernel
theorem dX5_readInner_5 : decode cX5_readInner 5 = .ok (.invokevirtual 38, 3) := by decide +kernel
theorem dX5_readInner_8 : decode cX5_readInner 8 = .ok (.istore_n 3, 1) := by decide +kernel
theorem dX5_readInner_9 : decode cX5_readInner 9 = .ok (.iload_n 3, 1) := by decide +kernel
theorem dX5_readInner_10 : decode cX5_readInner 10 = .ok (.invokestatic 42, 3) := by decide +kernel
theorem dX5_readInner_13 : decode cX5_readInner 13 = .ok (.ifCond .eq 8, 3) := by decide +kernel
theorem dX5_readInner_16 : decode cX5_readInner 16 = .ok (.aload_n 0, 1) := by decide +kernel
theorem dX5_readInner_17 : decode cX5_readInner 17 = .ok (.invokevirtual 125, 3) := by decide +kernel
theorem dX5_readInner_20 : decode cX5_readInner 20 = .ok (.ireturn, 1) := by decide +kernel
theorem dX5_readInner_21 : decode cX5_readInner 21 = .ok (.iload_n 3, 1) := by decide +kernel
theorem dX5_readInner_22 : decode cX5_readInner 22 = .ok (.invokestatic 88, 3) := by decide +kernel
theorem dX5_readInner_25 : decode cX5_readInner 25 = .ok (.ifCond .eq 8, 3) := by decide +kernel
theorem dX5_readInner_28 : decode cX5_readInner 28 = .ok (.aload_n 0, 1) := by decide +kernel
theorem dX5_readInner_29 : decode cX5_readInner 29 = .ok (.invokevirtual 129, 3) := by decide +kernel
theorem dX5_readInner_32 : decode cX5_readInner 32 = .ok (.ireturn, 1) := by decide +kernel
theorem dX5_readInner_33 : decode cX5_readInner 33 = .ok (.iload_n 3, 1) := by decide +kernel
theorem dX5_readInner_34 : decode cX5_readInner 34 = .ok (.bipush 40, 2) := by decide +kernel
theorem dX5_readInner_36 : decode cX5_readInner 36 = .ok (.if_icmp .ne 9, 3) := by decide +kernel
theorem dX5_readInner_39 : decode cX5_readInner 39 = .ok (.iload_n 1, 1) := by decide +kernel
theorem dX5_readInner_40 : decode cX5_readInner 40 = .ok (.bipush 8, 2) := by decide +kernel
theorem dX5_readInner_42 : decode cX5_readInner 42 = .ok (.if_icmp .lt 5, 3) := by decide +kernel
theorem dX5_readInner_45 : decode cX5_readInner 45 = .ok (.iconst 0, 1) := by decide +kernel
theorem dX5_readInner_46 : decode cX5_readInner 46 = .ok (.ireturn, 1) := by decide +kernel
theorem dX5_readInner_47 : decode cX5_readInner 47 = .ok (.aload_n 0, 1) := by decide +kernel
theorem dX5_readInner_48 : decode cX5_readInner 48 = .ok (.dup, 1) := by decide +kernel
theorem dX5_readInner_49 : decode cX5_readInner 49 = .ok (.getfield 25, 3) := by decide +kernel
theorem dX5_readInner_52 : decode cX5_readInner 52 = .ok (.iconst 1, 1) := by decide +kernel
theorem dX5_readInner_53 : decode cX5_readInner 53 = .ok (.iadd, 1) := by decide +kernel
theorem dX5_readInner_54 : decode cX5_readInner 54 = .ok (.putfield 25, 3) := by decide +kernel
theorem dX5_readInner_57 : decode cX5_readInner 57 = .ok (.aload_n 0, 1) := by decide +kernel
theorem dX5_readInner_58 : decode cX5_readInner 58 = .ok (.iconst 0, 1) := by decide +kernel
theorem dX5_readInner_59 : decode cX5_readInner 59 = .ok (.iload_n 1, 1) := by decide +kernel
theorem dX5_readInner_60 : decode cX5_readInner 60 = .ok (.iconst 1, 1) := by decide +kernel
theorem dX5_readInner_61 : decode cX5_readInner 61 = .ok (.iadd, 1) := by decide +kernel
theorem dX5_readInner_62 : decode cX5_readInner 62 = .ok (.iload_n 2, 1) := by decide +kernel
theorem dX5_readInner_63 : decode cX5_readInner 63 = .ok (.invokestatic 46, 3) := by decide +kernel
theorem dX5_readInner_66 : decode cX5_readInner 66 = .ok (.ifCond .eq 12, 3) := by decide +kernel
theorem dX5_readInner_69 : decode cX5_readInner 69 = .ok (.aload_n 0, 1) := by decide +kernel
theorem dX5_readInner_70 : decode cX5_readInner 70 = .ok (.ldc 132, 2) := by decide +kernel
theorem dX5_readInner_72 : decode cX5_readInner 72 = .ok (.invokevirtual 112, 3) := by decide +kernel
theorem dX5_readInner_75 : decode cX5_readInner 75 = .ok (.ifCond .ge 5, 3) := by decide +kernel
theorem dX5_readInner_78 : decode cX5_readInner 78 = .ok (.iconst 0, 1) := by decide +kernel
theorem dX5_readInner_79 : decode cX5_readInner 79 = .ok (.ireturn, 1) := by decide +kernel
theorem dX5_readInner_80 : decode cX5_readInner 80 = .ok (.aload_n 0, 1) := by decide +kernel
theorem dX5_readInner_81 : decode cX5_readInner 81 = .ok (.dup, 1) := by decide +kernel
theorem dX5_readInner_82 : decode cX5_readInner 82 = .ok (.getfield 25, 3) := by decide +kernel
theorem dX5_readInner_85 : decode cX5_readInner 85 = .ok (.iconst 1, 1) := by decide +kernel
theorem dX5_readInner_86 : decode cX5_readInner 86 = .ok (.iadd, 1) := by decide +kernel
theorem dX5_readInner_87 : decode cX5_readInner 87 = .ok (.putfield 25, 3) := by decide +kernel
theorem dX5_readInner_90 : decode cX5_readInner 90 = .ok (.iconst 1, 1) := by decide +kernel
theorem dX5_readInner_91 : decode cX5_readInner 91 = .ok (.ireturn, 1) := by decide +kernel
theorem dX5_readNumber_0 : decode cX5_readNumber 0 = .ok (.iconst 0, 1) := by decide +kernel
theorem dX5_readNumber_1 : decode cX5_readNumber 1 = .ok (.istore_n 1, 1) := by decide +kernel
theorem dX5_readNumber_2 : decode cX5_readNumber 2 = .ok (.iconst 0, 1) := by decide +kernel
theorem dX5_readNumber_3 : decode cX5_readNumber 3 = .ok (.istore_n 2, 1) := by decide +kernel
theorem dX5_readNumber_4 : decode cX5_readNumber 4 = .ok (.iload_n 2, 1) := by decide +kernel
theorem dX5_readNumber_5 : decode cX5_readNumber 5 = .ok (.iconst 4, 1) := by decide +kernel
theorem dX5_readNumber_6 : decode cX5_readNumber 6 = .ok (.if_icmp .gt 44, 3) := by decide +kernel
theorem dX5_readNumber_9 : decode cX5_readNumber 9 = .ok (.aload_n 0, 1) := by decide +kernel
theorem dX5_readNumber_10 : decode cX5_readNumber 10 = .ok (.aload_n 0, 1) := by decide +kernel
theorem dX5_readNumber_11 : decode cX5_readNumber 11 = .ok (.getfield 25, 3) := by decide +kernel
theorem dX5_readNumber_14 : decode cX5_readNumber 14 = .ok (.iload_n 2, 1) := by decide +kernel
theorem dX5_readNumber_15 : decode cX5_readNumber 15 = .ok (.iadd, 1) := by decide +kernel
theorem dX5_readNumber_16 : decode cX5_readNumber 16 = .ok (.invokevirtual 38, 3) := by decide +kernel
theorem dX5_readNumber_19 : decode cX5_readNumber 19 = .ok (.invokestatic 42, 3) := by decide +kernel
theorem dX5_readNumber_22 : decode cX5_readNumber 22 = .ok (.ifCond .eq 28, 3) := by decide +kernel
theorem dX5_readNumber_25 : decode cX5_readNumber 25 = .ok (.iload_n 1, 1) := by decide +kernel
theorem dX5_readNumber_26 : decode cX5_readNumber 26 = .ok (.bipush 10, 2) := by decide +kernel
theorem dX5_readNumber_28 : decode cX5_readNumber 28 = .ok (.imul, 1) := by decide +kernel
theorem dX5_readNumber_29 : decode cX5_readNumber 29 = .ok (.aload_n 0, 1) := by decide +kernel
theorem dX5_readNumber_30 : decode cX5_readNumber 30 = .ok (.aload_n 0, 1) := by decide +kernel
theorem dX5_readNumber_31 : decode cX5_readNumber 31 = .ok (.getfield 25, 3) := by decide +kernel
theorem dX5_readNumber_34 : decode cX5_readNumber 34 = .ok (.iload_n 2, 1) := by decide +kernel
theorem dX5_readNumber_35 : decode cX5_readNumber 35 = .ok (.iadd, 1) := by decide +kernel
theorem dX5_readNumber_36 : decode cX5_readNumber 36 = .ok (.invokevirtual 38, 3) := by decide +kernel
theorem dX5_readNumber_39 : decode cX5_readNumber 39 = .ok (.iadd, 1) := by decide +kernel
theorem dX5_readNumber_40 : decode cX5_readNumber 40 = .ok (.bipush 48, 2) := by decide +kernel
theorem dX5_readNumber_42 : decode cX5_readNumber 42 = .ok (.isub, 1) := by decide +kernel
theorem dX5_readNumber_43 : decode cX5_readNumber 43 = .ok (.istore_n 1, 1) := by decide +kernel
theorem dX5_readNumber_44 : decode cX5_readNumber 44 = .ok (.iinc 2 1, 3) := by decide +kernel
theorem dX5_readNumber_47 : decode cX5_readNumber 47 = .ok (.goto (-43), 3) := by decide +kernel
theorem dX5_readNumber_50 : decode cX5_readNumber 50 = .ok (.iload_n 2, 1) := by decide +kernel
theorem dX5_readNumber_51 : decode cX5_readNumber 51 = .ok (.iconst 4, 1) := by decide +kernel
theorem dX5_readNumber_52 : decode cX5_readNumber 52 = .ok (.if_icmp .le 5, 3) := by decide +kernel
theorem dX5_readNumber_55 : decode cX5_readNumber 55 = .ok (.iconst 0, 1) := by decide +kernel
theorem dX5_readNumber_56 : decode cX5_readNumber 56 = .ok (.ireturn, 1) := by decide +kernel
theorem dX5_readNumber_57 : decode cX5_readNumber 57 = .ok (.aload_n 0, 1) := by decide +kernel
theorem dX5_readNumber_58 : decode cX5_readNumber 58 = .ok (.dup, 1) := by decide +kernel
theorem dX5_readNumber_59 : decode cX5_readNumber 59 = .ok (.getfield 25, 3) := by decide +kernel
theorem dX5_readNumber_62 : decode cX5_readNumber 62 = .ok (.iload_n 2, 1) := by decide +kernel
theorem dX5_readNumber_63 : decode cX5_readNumber 63 = .ok (.iadd, 1) := by decide +kernel
theorem dX5_readNumber_64 : decode cX5_readNumber 64 = .ok (.putfield 25, 3) := by decide +kernel
theorem dX5_readNumber_67 : decode cX5_readNumber 67 = .ok (.aload_n 0, 1) := by decide +kernel
theorem dX5_readNumber_68 : decode cX5_readNumber 68 = .ok (.dup, 1) := by decide +kernel
theorem dX5_readNumber_69 : decode cX5_readNumber 69 = .ok (.getfield 31, 3) := by decide +kernel
theorem dX5_readNumber_72 : decode cX5_readNumber 72 = .ok (.iconst 1, 1) := by decide +kernel
theorem dX5_readNumber_73 : decode cX5_readNumber 73 = .ok (.iadd, 1) := by decide +kernel
theorem dX5_readNumber_74 : decode cX5_readNumber 74 = .ok (.putfield 31, 3) := by decide +kernel
theorem dX5_readNumber_77 : decode cX5_readNumber 77 = .ok (.aload_n 0, 1) := by decide +kernel
theorem dX5_readNumber_78 : decode cX5_readNumber 78 = .ok (.iload_n 1, 1) := by decide +kernel
theorem dX5_readNumber_79 : decode cX5_readNumber 79 = .ok (.invokevirtual 116, 3) := by decide +kernel
theorem dX5_readNumber_82 : decode cX5_readNumber 82 = .ok (.iconst 1, 1) := by decide +kernel
theorem dX5_readNumber_83 : decode cX5_readNumber 83 = .ok (.ireturn, 1) := by decide +kernel
theorem dX5_readName_0 : decode cX5_readName 0 = .ok (.aload_n 0, 1) := by decide +kernel
theorem dX5_readName_1 : decode cX5_readName 1 = .ok (.getfield 28, 3) := by decide +kernel
theorem dX5_readName_4 : decode cX5_readName 4 = .ok (.ifCond .ne 8, 3) := by decide +kernel
theorem dX5_readName_7 : decode cX5_readName 7 = .ok (.ldc 134, 2) := by decide +kernel
theorem dX5_readName_9 : decode cX5_readName 9 = .ok (.goto 18, 3) := by decide +kernel
theorem dX5_readName_12 : decode cX5_readName 12 = .ok (.aload_n 0, 1) := by decide +kernel
theorem dX5_readName_13 : decode cX5_readName 13 = .ok (.getfield 28, 3) := by decide +kernel
theorem dX5_readName_16 : decode cX5_readName 16 = .ok (.iconst 1, 1) := by decide +kernel
theorem dX5_readName_17 : decode cX5_readName 17 = .ok (.if_icmp .ne 8, 3) := by decide +kernel
theorem dX5_readName_20 : decode cX5_readName 20 = .ok (.ldc 136, 2) := by decide +kernel
theorem dX5_readName_22 : decode cX5_readName 22 = .ok (.goto 5, 3) := by decide +kernel
theorem dX5_readName_25 : decode cX5_readName 25 = .ok (.ldc 138, 2) := by decide +kernel
theorem dX5_readName_27 : decode cX5_readName 27 = .ok (.astore_n 1, 1) := by decide +kernel
theorem dX5_readName_28 : decode cX5_readName 28 = .ok (.aload_n 1, 1) := by decide +kernel
theorem dX5_readName_29 : decode cX5_readName 29 = .ok (.aload_n 0, 1) := by decide +kernel
theorem dX5_readName_30 : decode cX5_readName 30 = .ok (.aload_n 0, 1) := by decide +kernel
theorem dX5_readName_31 : decode cX5_readName 31 = .ok (.getfield 25, 3) := by decide +kernel
theorem dX5_readName_34 : decode cX5_readName 34 = .ok (.invokevirtual 38, 3) := by decide +kernel
theorem dX5_readName_37 : decode cX5_readName 37 = .ok (.i2c, 1) := by decide +kernel
theorem dX5_readName_38 : decode cX5_readName 38 = .ok (.invokevirtual 91, 3) := by decide +kernel
theorem dX5_readName_41 : decode cX5_readName 41 = .ok (.istore_n 2, 1) := by decide +kernel
theorem dX5_readName_42 : decode cX5_readName 42 = .ok (.iload_n 2, 1) := by decide +kernel
theorem dX5_readName_43 : decode cX5_readName 43 = .ok (.ifCond .lt 19, 3) := by decide +kernel
theorem dX5_readName_46 : decode cX5_readName 46 = .ok (.aload_n 0, 1) := by decide +kernel
theorem dX5_readName_47 : decode cX5_readName 47 = .ok (.aload_n 0, 1) := by decide +kernel
theorem dX5_readName_48 : decode cX5_readName 48 = .ok (.getfield 25, 3) := by decide +kernel
theorem dX5_readName_51 : decode cX5_readName 51 = .ok (.iconst 1, 1) := by decide +kernel
theorem dX5_readName_52 : decode cX5_readName 52 = .ok (.iadd, 1) := by decide +kernel
theorem dX5_readName_53 : decode cX5_readName 53 = .ok (.invokevirtual 38, 3) := by decide +kernel
theorem dX5_readName_56 : decode cX5_readName 56 = .ok (.invokestatic 88, 3) := by decide +kernel
theorem dX5_readName_59 : decode cX5_readName 59 = .ok (.ifCond .eq 5, 3) := by decide +kernel
theorem dX5_readName_62 : decode cX5_readName 62 = .ok (.iconst 0, 1) := by decide +kernel
theorem dX5_readName_63 : decode cX5_readName 63 = .ok (.ireturn, 1) := by decide +kernel
theorem dX5_readName_64 : decode cX5_readName 64 = .ok (.aload_n 0, 1) := by decide +kernel
theorem dX5_readName_65 : decode cX5_readName 65 = .ok (.dup, 1) := by decide +kernel
theorem dX5_readName_66 : decode cX5_readName 66 = .ok (.getfield 25, 3) := by decide +kernel
theorem dX5_readName_69 : decode cX5_readName 69 = .ok (.iconst 1, 1) := by decide +kernel
theorem dX5_readName_70 : decode cX5_readName 70 = .ok (.iadd, 1) := by decide +kernel
theorem dX5_readName_71 : decode cX5_readName 71 = .ok (.putfield 25, 3) := by decide +kernel
theorem dX5_readName_74 : decode cX5_readName 74 = .ok (.aload_n 0, 1) := by decide +kernel
theorem dX5_readName_75 : decode cX5_readName 75 = .ok (.dup, 1) := by decide +kernel
theorem dX5_readName_76 : decode cX5_readName 76 = .ok (.getfield 31, 3) := by decide +kernel
theorem dX5_readName_79 : decode cX5_readName 79 = .ok (.iconst 1, 1) := by decide +kernel
theorem dX5_readName_80 : decode cX5_readName 80 = .ok (.iadd, 1) := by decide +kernel
theorem dX5_readName_81 : decode cX5_readName 81 = .ok (.putfield 31, 3) := by decide +kernel
theorem dX5_readName_84 : decode cX5_readName 84 = .ok (.aload_n 0, 1) := by decide +kernel
theorem dX5_readName_85 : decode cX5_readName 85 = .ok (.iconst (-1), 1) := by decide +kernel
theorem dX5_readName_86 : decode cX5_readName 86 = .ok (.iload_n 2, 1) := by decide +kernel
theorem dX5_readName_87 : decode cX5_readName 87 = .ok (.isub, 1) := by decide +kernel
theorem dX5_readName_88 : decode cX5_readName 88 = .ok (.invokevirtual 116, 3) := by decide +kernel
theorem dX5_readName_91 : decode cX5_readName 91 = .ok (.iconst 1, 1) := by decide +kernel
theorem dX5_readName_92 : decode cX5_readName 92 = .ok (.ireturn, 1) := by decide +kernel
theorem dX6_init_0 : decode cX6_init 0 = .ok (.aload_n 0, 1) := by decide +kernel
theorem dX6_init_1 : decode cX6_init 1 = .ok (.invokespecial 3, 3) := by decide +kernel
theorem dX6_init_4 : decode cX6_init 4 = .ok (.aload_n 0, 1) := by decide +kernel
theorem dX6_init_5 : decode cX6_init 5 = .ok (.iconst 0, 1) := by decide +kernel
theorem dX6_init_6 : decode cX6_init 6 = .ok (.putfield 9, 3) := by decide +kernel
theorem dX6_init_9 : decode cX6_init 9 = .ok (.aload_n 0, 1) := by decide +kernel
theorem dX6_init_10 : decode cX6_init 10 = .ok (.iconst 0, 1) := by decide +kernel
theorem dX6_init_11 : decode cX6_init 11 = .ok (.putfield 15, 3) := by decide +kernel
theorem dX6_init_14 : decode cX6_init 14 = .ok (.aload_n 0, 1) := by decide +kernel
theorem dX6_init_15 : decode cX6_init 15 = .ok (.iconst 0, 1) := by decide +kernel
theorem dX6_init_16 : decode cX6_init 16 = .ok (.putfield 18, 3) := by decide +kernel
theorem dX6_init_19 : decode cX6_init 19 = .ok (.aload_n 0, 1) := by decide +kernel
theorem dX6_init_20 : decode cX6_init 20 = .ok (.bipush 15, 2) := by decide +kernel
theorem dX6_init_22 : decode cX6_init 22 = .ok (.newarray .int, 2) := by decide +kernel
theorem dX6_init_24 : decode cX6_init 24 = .ok (.putfield 21, 3) := by decide +kernel
theorem dX6_init_27 : decode cX6_init 27 = .ok (.aload_n 0, 1) := by decide +kernel
theorem dX6_init_28 : decode cX6_init 28 = .ok (.bipush 121, 2) := by decide +kernel
theorem dX6_init_30 : decode cX6_init 30 = .ok (.newarray .int, 2) := by decide +kernel
theorem dX6_init_32 : decode cX6_init 32 = .ok (.putfield 25, 3) := by decide +kernel
theorem dX6_init_35 : decode cX6_init 35 = .ok (.aload_n 0, 1) := by decide +kernel
theorem dX6_init_36 : decode cX6_init 36 = .ok (.bipush 121, 2) := by decide +kernel
theorem dX6_init_38 : decode cX6_init 38 = .ok (.newarray .int, 2) := by decide +kernel
theorem dX6_init_40 : decode cX6_init 40 = .ok (.putfield 28, 3) := by decide +kernel
theorem dX6_init_43 : decode cX6_init 43 = .ok (.aload_n 0, 1) := by decide +kernel
theorem dX6_init_44 : decode cX6_init 44 = .ok (.iconst 3, 1) := by decide +kernel
theorem dX6_init_45 : decode cX6_init 45 = .ok (.anewarray 31, 3) := by decide +kernel
theorem dX6_init_48 : decode cX6_init 48 = .ok (.putfield 33, 3) := by decide +kernel
theorem dX6_init_51 : decode cX6_init 51 = .ok (.aload_n 0, 1) := by decide +kernel
theorem dX6_init_52 : decode cX6_init 52 = .ok (.iconst 5, 1) := by decide +kernel
theorem dX6_init_53 : decode cX6_init 53 = .ok (.newarray .long, 2) := by decide +kernel
theorem dX6_init_55 : decode cX6_init 55 = .ok (.putfield 37, 3) := by decide +kernel
theorem dX6_init_58 : decode cX6_init 58 = .ok (.aload_n 0, 1) := by decide +kernel
theorem dX6_init_59 : decode cX6_init 59 = .ok (.aload_n 1, 1) := by decide +kernel
theorem dX6_init_60 : decode cX6_init 60 = .ok (.putfield 41, 3) := by decide +kernel
theorem dX6_init_63 : decode cX6_init 63 = .ok (.iconst 0, 1) := by decide +kernel
theorem dX6_init_64 : decode cX6_init 64 = .ok (.istore_n 2, 1) := by decide +kernel
theorem dX6_init_65 : decode cX6_init 65 = .ok (.iload_n 2, 1) := by decide +kernel
theorem dX6_init_66 : decode cX6_init 66 = .ok (.aload_n 0, 1) := by decide +kernel
theorem dX6_init_67 : decode cX6_init 67 = .ok (.getfield 33, 3) := by decide +kernel
theorem dX6_init_70 : decode cX6_init 70 = .ok (.arraylength, 1) := by decide +kernel
theorem dX6_init_71 : decode cX6_init 71 = .ok (.if_icmp .ge 22, 3) := by decide +kernel
theorem dX6_init_74 : decode cX6_init 74 = .ok (.aload_n 0, 1) := by decide +kernel
theorem dX6_init_75 : decode cX6_init 75 = .ok (.getfield 33, 3) := by decide +kernel
theorem dX6_init_78 : decode cX6_init 78 = .ok (.iload_n 2, 1) := by decide +kernel
theorem dX6_init_79 : decode cX6_init 79 = .ok (.new 31, 3) := by decide +kernel
theorem dX6_init_82 : decode cX6_init 82 = .ok (.dup, 1) := by decide +kernel
theorem dX6_init_83 : decode cX6_init 83 = .ok (.invokespecial 45, 3) := by decide +kernel
theorem dX6_init_86 : decode cX6_init 86 = .ok (.aastore, 1) := by decide +kernel
theorem dX6_init_87 : decode cX6_init 87 = .ok (.iinc 2 1, 3) := by decide +kernel
theorem dX6_init_90 : decode cX6_init 90 = .ok (.goto (-25), 3) := by decide +kernel
theorem dX6_init_93 : decode cX6_init 93 = .ok (.return_, 1) := by decide +kernel
theorem dX6_look_0 : decode cX6_look 0 = .ok (.iconst 0, 1) := by decide +kernel
theorem dX6_look_1 : decode cX6_look 1 = .ok (.istore_n 2, 1) := by decide +kernel
theorem dX6_look_2 : decode cX6_look 2 = .ok (.iload_n 2, 1) := by decide +kernel
theorem dX6_look_3 : decode cX6_look 3 = .ok (.iconst 4, 1) := by decide +kernel
theorem dX6_look_4 : decode cX6_look 4 = .ok (.if_icmp .gt 43, 3) := by decide +kernel
theorem dX6_look_7 : decode cX6_look 7 = .ok (.iconst 0, 1) := by decide +kernel
theorem dX6_look_8 : decode cX6_look 8 = .ok (.istore_n 3, 1) := by decide +kernel
theorem dX6_look_9 : decode cX6_look 9 = .ok (.iload_n 3, 1) := by decide +kernel
theorem dX6_look_10 : decode cX6_look 10 = .ok (.iconst 4, 1) := by decide +kernel
theorem dX6_look_11 : decode cX6_look 11 = .ok (.iload_n 2, 1) := by decide +kernel
theorem dX6_look_12 : decode cX6_look 12 = .ok (.isub, 1) := by decide +kernel
theorem dX6_look_13 : decode cX6_look 13 = .ok (.if_icmp .gt 28, 3) := by decide +kernel
theorem dX6_look_16 : decode cX6_look 16 = .ok (.aload_n 0, 1) := by decide +kernel
theorem dX6_look_17 : decode cX6_look 17 = .ok (.iload_n 2, 1) := by decide +kernel
theorem dX6_look_18 : decode cX6_look 18 = .ok (.iload_n 3, 1) := by decide +kernel
theorem dX6_look_19 : decode cX6_look 19 = .ok (.invokestatic 46, 3) := by decide +kernel
theorem dX6_look_22 : decode cX6_look 22 = .ok (.aload_n 0, 1) := by decide +kernel
theorem dX6_look_23 : decode cX6_look 23 = .ok (.getfield 41, 3) := by decide +kernel
theorem dX6_look_26 : decode cX6_look 26 = .ok (.aload_n 1, 1) := by decide +kernel
theorem dX6_look_27 : decode cX6_look 27 = .ok (.iload_n 2, 1) := by decide +kernel
theorem dX6_look_28 : decode cX6_look 28 = .ok (.iload_n 3, 1) := by decide +kernel
theorem dX6_look_29 : decode cX6_look 29 = .ok (.invokevirtual 50, 3) := by decide +kernel
theorem dX6_look_32 : decode cX6_look 32 = .ok (.invokevirtual 56, 3) := by decide +kernel
theorem dX6_look_35 : decode cX6_look 35 = .ok (.iinc 3 1, 3) := by decide +kernel
theorem dX6_look_38 : decode cX6_look 38 = .ok (.goto (-29), 3) := by decide +kernel
theorem dX6_look_41 : decode cX6_look 41 = .ok (.iinc 2 1, 3) := by decide +kernel
theorem dX6_look_44 : decode cX6_look 44 = .ok (.goto (-42), 3) := by decide +kernel
theorem dX6_look_47 : decode cX6_look 47 = .ok (.return_, 1) := by decide +kernel
theorem dX6_setTerm_0 : decode cX6_setTerm 0 = .ok (.iload_n 1, 1) := by decide +kernel
theorem dX6_setTerm_1 : decode cX6_setTerm 1 = .ok (.ifCond .lt 19, 3) := by decide +kernel
theorem dX6_setTerm_4 : decode cX6_setTerm 4 = .ok (.iload_n 1, 1) := by decide +kernel
theorem dX6_setTerm_5 : decode cX6_setTerm 5 = .ok (.aload_n 0, 1) := by decide +kernel
theorem dX6_setTerm_6 : decode cX6_setTerm 6 = .ok (.getfield 21, 3) := by decide +kernel
theorem dX6_setTerm_9 : decode cX6_setTerm 9 = .ok (.arraylength, 1) := by decide +kernel
theorem dX6_setTerm_10 : decode cX6_setTerm 10 = .ok (.if_icmp .ge 10, 3) := by decide +kernel
theorem dX6_setTerm_13 : decode cX6_setTerm 13 = .ok (.aload_n 0, 1) := by decide +kernel
theorem dX6_setTerm_14 : decode cX6_setTerm 14 = .ok (.getfield 21, 3) := by decide +kernel
theorem dX6_setTerm_17 : decode cX6_setTerm 17 = .ok (.iload_n 1, 1) := by decide +kernel
theorem dX6_setTerm_18 : decode cX6_setTerm 18 = .ok (.iload_n 2, 1) := by decide +kernel
theorem dX6_setTerm_19 : decode cX6_setTerm 19 = .ok (.iastore, 1) := by decide +kernel
theorem dX6_setTerm_20 : decode cX6_setTerm 20 = .ok (.return_, 1) := by decide +kernel
theorem dX6_termOf_0 : decode cX6_termOf 0 = .ok (.iload_n 1, 1) := by decide +kernel
theorem dX6_termOf_1 : decode cX6_termOf 1 = .ok (.iload_n 2, 1) := by decide +kernel
theorem dX6_termOf_2 : decode cX6_termOf 2 = .ok (.invokestatic 46, 3) := by decide +kernel
theorem dX6_termOf_5 : decode cX6_termOf 5 = .ok (.istore_n 3, 1) := by decide +kernel
theorem dX6_termOf_6 : decode cX6_termOf 6 = .ok (.iload_n 3, 1) := by decide +kernel
theorem dX6_termOf_7 : decode cX6_termOf 7 = .ok (.ifCond .lt 12, 3) := by decide +kernel
theorem dX6_termOf_10 : decode cX6_termOf 10 = .ok (.iload_n 3, 1) := by decide +kernel
theorem dX6_termOf_11 : decode cX6_termOf 11 = .ok (.aload_n 0, 1) := by decide +kernel
theorem dX6_termOf_12 : decode cX6_termOf 12 = .ok (.getfield 21, 3) := by decide +kernel
theorem dX6_termOf_15 : decode cX6_termOf 15 = .ok (.arraylength, 1) := by decide +kernel
theorem dX6_termOf_16 : decode cX6_termOf 16 = .ok (.if_icmp .lt 7, 3) := by decide +kernel
theorem dX6_termOf_19 : decode cX6_termOf 19 = .ok (.iconst 0, 1) := by decide +kernel
theorem dX6_termOf_20 : decode cX6_termOf 20 = .ok (.goto 9, 3) := by decide +kernel
theorem dX6_termOf_23 : decode cX6_termOf 23 = .ok (.aload_n 0, 1) := by decide +kernel
theorem dX6_termOf_24 : decode cX6_termOf 24 = .ok (.getfield 21, 3) := by decide +kernel
theorem dX6_termOf_27 : decode cX6_termOf 27 = .ok (.iload_n 3, 1) := by decide +kernel
theorem dX6_termOf_28 : decode cX6_termOf 28 = .ok (.iaload, 1) := by decide +kernel
theorem dX6_termOf_29 : decode cX6_termOf 29 = .ok (.ireturn, 1) := by decide +kernel
theorem dX6_degree_0 : decode cX6_degree 0 = .ok (.iconst (-1), 1) := by decide +kernel
theorem dX6_degree_1 : decode cX6_degree 1 = .ok (.istore_n 1, 1) := by decide +kernel
theorem dX6_degree_2 : decode cX6_degree 2 = .ok (.iconst 0, 1) := by decide +kernel
theorem dX6_degree_3 : decode cX6_degree 3 = .ok (.istore_n 2, 1) := by decide +kernel
theorem dX6_degree_4 : decode cX6_degree 4 = .ok (.iload_n 2, 1) := by decide +kernel
theorem dX6_degree_5 : decode cX6_degree 5 = .ok (.iconst 4, 1) := by decide +kernel
theorem dX6_degree_6 : decode cX6_degree 6 = .ok (.if_icmp .gt 41, 3) := by decide +kernel
theorem dX6_degree_9 : decode cX6_degree 9 = .ok (.iconst 0, 1) := by decide +kernel
theorem dX6_degree_10 : decode cX6_degree 10 = .ok (.istore_n 3, 1) := by decide +kernel
theorem dX6_degree_11 : decode cX6_degree 11 = .ok (.iload_n 3, 1) := by decide +kernel
theorem dX6_degree_12 : decode cX6_degree 12 = .ok (.iconst 4, 1) := by decide +kernel
theorem dX6_degree_13 : decode cX6_degree 13 = .ok (.iload_n 2, 1) := by decide +kernel
theorem dX6_degree_14 : decode cX6_degree 14 = .ok (.isub, 1) := by decide +kernel
theorem dX6_degree_15 : decode cX6_degree 15 = .ok (.if_icmp .gt 26, 3) := by decide +kernel
theorem dX6_degree_18 : decode cX6_degree 18 = .ok (.aload_n 0, 1) := by decide +kernel
theorem dX6_degree_19 : decode cX6_degree 19 = .ok (.iload_n 2, 1) := by decide +kernel
theorem dX6_degree_20 : decode cX6_degree 20 = .ok (.iload_n 3, 1) := by decide +kernel
theorem dX6_degree_21 : decode cX6_degree 21 = .ok (.invokevirtual 60, 3) := by decide +kernel
theorem dX6_degree_24 : decode cX6_degree 24 = .ok (.ifCond .eq 11, 3) := by decide +kernel
theorem dX6_degree_27 : decode cX6_degree 27 = .ok (.iload_n 1, 1) := by decide +kernel
theorem dX6_degree_28 : decode cX6_degree 28 = .ok (.iload_n 2, 1) := by decide +kernel
theorem dX6_degree_29 : decode cX6_degree 29 = .ok (.iload_n 3, 1) := by decide +kernel
theorem dX6_degree_30 : decode cX6_degree 30 = .ok (.iadd, 1) := by decide +kernel
theorem dX6_degree_31 : decode cX6_degree 31 = .ok (.invokestatic 63, 3) := by decide +kernel
theorem dX6_degree_34 : decode cX6_degree 34 = .ok (.istore_n 1, 1) := by decide +kernel
theorem dX6_degree_35 : decode cX6_degree 35 = .ok (.iinc 3 1, 3) := by decide +kernel
theorem dX6_degree_38 : decode cX6_degree 38 = .ok (.goto (-27), 3) := by decide +kernel
theorem dX6_degree_41 : decode cX6_degree 41 = .ok (.iinc 2 1, 3) := by decide +kernel
theorem dX6_degree_44 : decode cX6_degree 44 = .ok (.goto (-40), 3) := by decide +kernel
theorem dX6_degree_47 : decode cX6_degree 47 = .ok (.iload_n 1, 1) := by decide +kernel
theorem dX6_degree_48 : decode cX6_degree 48 = .ok (.ireturn, 1) := by decide +kernel
theorem dX6_termsNotZero_0 : decode cX6_termsNotZero 0 = .ok (.iconst 0, 1) := by decide +kernel
theorem dX6_termsNotZero_1 : decode cX6_termsNotZero 1 = .ok (.istore_n 1, 1) := by decide +kernel
theorem dX6_termsNotZero_2 : decode cX6_termsNotZero 2 = .ok (.iconst 0, 1) := by decide +kernel
theorem dX6_termsNotZero_3 : decode cX6_termsNotZero 3 = .ok (.istore_n 2, 1) := by decide +kernel
theorem dX6_termsNotZero_4 : decode cX6_termsNotZero 4 = .ok (.iload_n 2, 1) := by decide +kernel
theorem dX6_termsNotZero_5 : decode cX6_termsNotZero 5 = .ok (.aload_n 0, 1) := by decide +kernel
theorem dX6_termsNotZero_6 : decode cX6_termsNotZero 6 = .ok (.getfield 21, 3) := by decide +kernel
theorem dX6_termsNotZero_9 : decode cX6_termsNotZero 9 = .ok (.arraylength, 1) := by decide +kernel
theorem dX6_termsNotZero_10 : decode cX6_termsNotZero 10 = .ok (.if_icmp .ge 21, 3) := by decide +kernel
theorem dX6_termsNotZero_13 : decode cX6_termsNotZero 13 = .ok (.aload_n 0, 1) := by decide +kernel
theorem dX6_termsNotZero_14 : decode cX6_termsNotZero 14 = .ok (.getfield 21, 3) := by decide +kernel
theorem dX6_termsNotZero_17 : decode cX6_termsNotZero 17 = .ok (.iload_n 2, 1) := by decide +kernel
theorem dX6_termsNotZero_18 : decode cX6_termsNotZero 18 = .ok (.iaload, 1) := by decide +kernel
theorem dX6_termsNotZero_19 : decode cX6_termsNotZero 19 = .ok (.ifCond .eq 6, 3) := by decide +kernel
theorem dX6_termsNotZero_22 : decode cX6_termsNotZero 22 = .ok (.iinc 1 1, 3) := by decide +kernel
theorem dX6_termsNotZero_25 : decode cX6_termsNotZero 25 = .ok (.iinc 2 1, 3) := by decide +kernel
theorem dX6_termsNotZero_28 : decode cX6_termsNotZero 28 = .ok (.goto (-24), 3) := by decide +kernel
theorem dX6_termsNotZero_31 : decode cX6_termsNotZero 31 = .ok (.iload_n 1, 1) := by decide +kernel
theorem dX6_termsNotZero_32 : decode cX6_termsNotZero 32 = .ok (.ireturn, 1) := by decide +kernel
theorem dX6_valueAt_0 : decode cX6_valueAt 0 = .ok (.lconst 0, 1) := by decide +kernel
theorem dX6_valueAt_1 : decode cX6_valueAt 1 = .ok (.lstore_n 3, 1) := by decide +kernel
theorem dX6_valueAt_2 : decode cX6_valueAt 2 = .ok (.iconst 4, 1) := by decide +kernel
theorem dX6_valueAt_3 : decode cX6_valueAt 3 = .ok (.istore 5, 2) := by decide +kernel
theorem dX6_valueAt_5 : decode cX6_valueAt 5 = .ok (.iload 5, 2) := by decide +kernel
theorem dX6_valueAt_7 : decode cX6_valueAt 7 = .ok (.ifCond .lt 54, 3) := by decide +kernel
theorem dX6_valueAt_10 : decode cX6_valueAt 10 = .ok (.lconst 0, 1) := by decide +kernel
theorem dX6_valueAt_11 : decode cX6_valueAt 11 = .ok (.lstore 6, 2) := by decide +kernel
theorem dX6_valueAt_13 : decode cX6_valueAt 13 = .ok (.iconst 4, 1) := by decide +kernel
theorem dX6_valueAt_14 : decode cX6_valueAt 14 = .ok (.iload 5, 2) := by decide +kernel
theorem dX6_valueAt_16 : decode cX6_valueAt 16 = .ok (.isub, 1) := by decide +kernel
theorem dX6_valueAt_17 : decode cX6_valueAt 17 = .ok (.istore 8, 2) := by decide +kernel
theorem dX6_valueAt_19 : decode cX6_valueAt 19 = .ok (.iload 8, 2) := by decide +kernel
theorem dX6_valueAt_21 : decode cX6_valueAt 21 = .ok (.ifCond .lt 26, 3) := by decide +kernel
theorem dX6_valueAt_24 : decode cX6_valueAt 24 = .ok (.lload 6, 2) := by decide +kernel
theorem dX6_valueAt_26 : decode cX6_valueAt 26 = .ok (.iload_n 2, 1) := by decide +kernel
theorem dX6_valueAt_27 : decode cX6_valueAt 27 = .ok (.i2l, 1) := by decide +kernel
theorem dX6_valueAt_28 : decode cX6_valueAt 28 = .ok (.lmul, 1) := by decide +kernel
theorem dX6_valueAt_29 : decode cX6_valueAt 29 = .ok (.aload_n 0, 1) := by decide +kernel
theorem dX6_valueAt_30 : decode cX6_valueAt 30 = .ok (.iload 5, 2) := by decide +kernel
theorem dX6_valueAt_32 : decode cX6_valueAt 32 = .ok (.iload 8, 2) := by decide +kernel
theorem dX6_valueAt_34 : decode cX6_valueAt 34 = .ok (.invokevirtual 60, 3) := by decide +kernel
theorem dX6_valueAt_37 : decode cX6_valueAt 37 = .ok (.i2l, 1) := by decide +kernel
theorem dX6_valueAt_38 : decode cX6_valueAt 38 = .ok (.ladd, 1) := by decide +kernel
theorem dX6_valueAt_39 : decode cX6_valueAt 39 = .ok (.lstore 6, 2) := by decide +kernel
theorem dX6_valueAt_41 : decode cX6_valueAt 41 = .ok (.iinc 8 (-1), 3) := by decide +kernel
theorem dX6_valueAt_44 : decode cX6_valueAt 44 = .ok (.goto (-25), 3) := by decide +kernel
theorem dX6_valueAt_47 : decode cX6_valueAt 47 = .ok (.lload_n 3, 1) := by decide +kernel
theorem dX6_valueAt_48 : decode cX6_valueAt 48 = .ok (.iload_n 1, 1) := by decide +kernel
theorem dX6_valueAt_49 : decode cX6_valueAt 49 = .ok (.i2l, 1) := by decide +kernel
theorem dX6_valueAt_50 : decode cX6_valueAt 50 = .ok (.lmul, 1) := by decide +kernel
theorem dX6_valueAt_51 : decode cX6_valueAt 51 = .ok (.lload 6, 2) := by decide +kernel
theorem dX6_valueAt_53 : decode cX6_valueAt 53 = .ok (.ladd, 1) := by decide +kernel
theorem dX6_valueAt_54 : decode cX6_valueAt 54 = .ok (.lstore_n 3, 1) := by decide +kernel
theorem dX6_valueAt_55 : decode cX6_valueAt 55 = .ok (.iinc 5 (-1), 3) := by decide +kernel
theorem dX6_valueAt_58 : decode cX6_valueAt 58 = .ok (.goto (-53), 3) := by decide +kernel
theorem dX6_valueAt_61 : decode cX6_valueAt 61 = .ok (.lload_n 3, 1) := by decide +kernel
theorem dX6_valueAt_62 : decode cX6_valueAt 62 = .ok (.lreturn, 1) := by decide +kernel
theorem dX6_stand_0 : decode cX6_stand 0 = .ok (.aload_n 0, 1) := by decide +kernel
theorem dX6_stand_1 : decode cX6_stand 1 = .ok (.getfield 33, 3) := by decide +kernel
theorem dX6_stand_4 : decode cX6_stand 4 = .ok (.iconst 0, 1) := by decide +kernel
theorem dX6_stand_5 : decode cX6_stand 5 = .ok (.aaload, 1) := by decide +kernel
theorem dX6_stand_6 : decode cX6_stand 6 = .ok (.astore_n 3, 1) := by decide +kernel
theorem dX6_stand_7 : decode cX6_stand 7 = .ok (.aload_n 3, 1) := by decide +kernel
theorem dX6_stand_8 : decode cX6_stand 8 = .ok (.invokevirtual 68, 3) := by decide +kernel
theorem dX6_stand_11 : decode cX6_stand 11 = .ok (.iconst 0, 1) := by decide +kernel
theorem dX6_stand_12 : decode cX6_stand 12 = .ok (.istore 4, 2) := by decide +kernel
theorem dX6_stand_14 : decode cX6_stand 14 = .ok (.iload 4, 2) := by decide +kernel
theorem dX6_stand_16 : decode cX6_stand 16 = .ok (.iconst 4, 1) := by decide +kernel
theorem dX6_stand_17 : decode cX6_stand 17 = .ok (.if_icmp .gt 44, 3) := by decide +kernel
theorem dX6_stand_20 : decode cX6_stand 20 = .ok (.iconst 0, 1) := by decide +kernel
theorem dX6_stand_21 : decode cX6_stand 21 = .ok (.istore 5, 2) := by decide +kernel
theorem dX6_stand_23 : decode cX6_stand 23 = .ok (.iload 5, 2) := by decide +kernel
theorem dX6_stand_25 : decode cX6_stand 25 = .ok (.iconst 4, 1) := by decide +kernel
theorem dX6_stand_26 : decode cX6_stand 26 = .ok (.iload 4, 2) := by decide +kernel
theorem dX6_stand_28 : decode cX6_stand 28 = .ok (.isub, 1) := by decide +kernel
theorem dX6_stand_29 : decode cX6_stand 29 = .ok (.if_icmp .gt 26, 3) := by decide +kernel
theorem dX6_stand_32 : decode cX6_stand 32 = .ok (.aload_n 3, 1) := by decide +kernel
theorem dX6_stand_33 : decode cX6_stand 33 = .ok (.iload 4, 2) := by decide +kernel
theorem dX6_stand_35 : decode cX6_stand 35 = .ok (.iload 5, 2) := by decide +kernel
theorem dX6_stand_37 : decode cX6_stand 37 = .ok (.aload_n 0, 1) := by decide +kernel
theorem dX6_stand_38 : decode cX6_stand 38 = .ok (.iload 4, 2) := by decide +kernel
theorem dX6_stand_40 : decode cX6_stand 40 = .ok (.iload 5, 2) := by decide +kernel
theorem dX6_stand_42 : decode cX6_stand 42 = .ok (.invokevirtual 60, 3) := by decide +kernel
theorem dX6_stand_45 : decode cX6_stand 45 = .ok (.i2l, 1) := by decide +kernel
theorem dX6_stand_46 : decode cX6_stand 46 = .ok (.invokevirtual 71, 3) := by decide +kernel
theorem dX6_stand_49 : decode cX6_stand 49 = .ok (.iinc 5 1, 3) := by decide +kernel
theorem dX6_stand_52 : decode cX6_stand 52 = .ok (.goto (-29), 3) := by decide +kernel
theorem dX6_stand_55 : decode cX6_stand 55 = .ok (.iinc 4 1, 3) := by decide +kernel
theorem dX6_stand_58 : decode cX6_stand 58 = .ok (.goto (-44), 3) := by decide +kernel
theorem dX6_stand_61 : decode cX6_stand 61 = .ok (.aload_n 3, 1) := by decide +kernel
theorem dX6_stand_62 : decode cX6_stand 62 = .ok (.iload_n 1, 1) := by decide +kernel
theorem dX6_stand_63 : decode cX6_stand 63 = .ok (.invokevirtual 75, 3) := by decide +kernel
theorem dX6_stand_66 : decode cX6_stand 66 = .ok (.aload_n 3, 1) := by decide +kernel
theorem dX6_stand_67 : decode cX6_stand 67 = .ok (.iload_n 2, 1) := by decide +kernel
theorem dX6_stand_68 : decode cX6_stand 68 = .ok (.iconst 4, 1) := by decide +kernel
theorem dX6_stand_69 : decode cX6_stand 69 = .ok (.invokevirtual 79, 3) := by decide +kernel
theorem dX6_stand_72 : decode cX6_stand 72 = .ok (.aload_n 3, 1) := by decide +kernel
theorem dX6_stand_73 : decode cX6_stand 73 = .ok (.areturn, 1) := by decide +kernel
theorem dX6_slopeBits_0 : decode cX6_slopeBits 0 = .ok (.iconst 0, 1) := by decide +kernel
theorem dX6_slopeBits_1 : decode cX6_slopeBits 1 = .ok (.istore_n 3, 1) := by decide +kernel
theorem dX6_slopeBits_2 : decode cX6_slopeBits 2 = .ok (.bipush (-5), 2) := by decide +kernel
theorem dX6_slopeBits_4 : decode cX6_slopeBits 4 = .ok (.istore 4, 2) := by decide +kernel
theorem dX6_slopeBits_6 : decode cX6_slopeBits 6 = .ok (.iload 4, 2) := by decide +kernel
theorem dX6_slopeBits_8 : decode cX6_slopeBits 8 = .ok (.iconst 5, 1) := by decide +kernel
theorem dX6_slopeBits_9 : decode cX6_slopeBits 9 = .ok (.if_icmp .gt 46, 3) := by decide +kernel
theorem dX6_slopeBits_12 : decode cX6_slopeBits 12 = .ok (.aload_n 1, 1) := by decide +kernel
theorem dX6_slopeBits_13 : decode cX6_slopeBits 13 = .ok (.iload_n 2, 1) := by decide +kernel
theorem dX6_slopeBits_14 : decode cX6_slopeBits 14 = .ok (.iload 4, 2) := by decide +kernel
theorem dX6_slopeBits_16 : decode cX6_slopeBits 16 = .ok (.invokevirtual 82, 3) := by decide +kernel
theorem dX6_slopeBits_19 : decode cX6_slopeBits 19 = .ok (.lconst 0, 1) := by decide +kernel
theorem dX6_slopeBits_20 : decode cX6_slopeBits 20 = .ok (.lcmp, 1) := by decide +kernel
theorem dX6_slopeBits_21 : decode cX6_slopeBits 21 = .ok (.ifCond .ne 28, 3) := by decide +kernel
theorem dX6_slopeBits_24 : decode cX6_slopeBits 24 = .ok (.aload_n 0, 1) := by decide +kernel
theorem dX6_slopeBits_25 : decode cX6_slopeBits 25 = .ok (.getfield 41, 3) := by decide +kernel
theorem dX6_slopeBits_28 : decode cX6_slopeBits 28 = .ok (.iconst 1, 1) := by decide +kernel
theorem dX6_slopeBits_29 : decode cX6_slopeBits 29 = .ok (.iload 4, 2) := by decide +kernel
theorem dX6_slopeBits_31 : decode cX6_slopeBits 31 = .ok (.iload_n 2, 1) := by decide +kernel
theorem dX6_slopeBits_32 : decode cX6_slopeBits 32 = .ok (.iconst 0, 1) := by decide +kernel
theorem dX6_slopeBits_33 : decode cX6_slopeBits 33 = .ok (.iconst 1, 1) := by decide +kernel
theorem dX6_slopeBits_34 : decode cX6_slopeBits 34 = .ok (.invokevirtual 86, 3) := by decide +kernel
theorem dX6_slopeBits_37 : decode cX6_slopeBits 37 = .ok (.ifCond .eq 12, 3) := by decide +kernel
theorem dX6_slopeBits_40 : decode cX6_slopeBits 40 = .ok (.iload_n 3, 1) := by decide +kernel
theorem dX6_slopeBits_41 : decode cX6_slopeBits 41 = .ok (.iconst 1, 1) := by decide +kernel
theorem dX6_slopeBits_42 : decode cX6_slopeBits 42 = .ok (.iload 4, 2) := by decide +kernel
theorem dX6_slopeBits_44 : decode cX6_slopeBits 44 = .ok (.iconst 5, 1) := by decide +kernel
theorem dX6_slopeBits_45 : decode cX6_slopeBits 45 = .ok (.iadd, 1) := by decide +kernel
theorem dX6_slopeBits_46 : decode cX6_slopeBits 46 = .ok (.ishl, 1) := by decide +kernel
theorem dX6_slopeBits_47 : decode cX6_slopeBits 47 = .ok (.ior, 1) := by decide +kernel
theorem dX6_slopeBits_48 : decode cX6_slopeBits 48 = .ok (.istore_n 3, 1) := by decide +kernel
theorem dX6_slopeBits_49 : decode cX6_slopeBits 49 = .ok (.iinc 4 1, 3) := by decide +kernel
theorem dX6_slopeBits_52 : decode cX6_slopeBits 52 = .ok (.goto (-46), 3) := by decide +kernel
theorem dX6_slopeBits_55 : decode cX6_slopeBits 55 = .ok (.iload_n 3, 1) := by decide +kernel
theorem dX6_slopeBits_56 : decode cX6_slopeBits 56 = .ok (.ireturn, 1) := by decide +kernel
theorem dX6_oftenOf_0 : decode cX6_oftenOf 0 = .ok (.iconst 0, 1) := by decide +kernel
theorem dX6_oftenOf_1 : decode cX6_oftenOf 1 = .ok (.istore 4, 2) := by decide +kernel
theorem dX6_oftenOf_3 : decode cX6_oftenOf 3 = .ok (.iload 4, 2) := by decide +kernel
theorem dX6_oftenOf_5 : decode cX6_oftenOf 5 = .ok (.aload_n 0, 1) := by decide +kernel
theorem dX6_oftenOf_6 : decode cX6_oftenOf 6 = .ok (.getfield 37, 3) := by decide +kernel
theorem dX6_oftenOf_9 : decode cX6_oftenOf 9 = .ok (.arraylength, 1) := by decide +kernel
theorem dX6_oftenOf_10 : decode cX6_oftenOf 10 = .ok (.if_icmp .ge 23, 3) := by decide +kernel
theorem dX6_oftenOf_13 : decode cX6_oftenOf 13 = .ok (.aload_n 0, 1) := by decide +kernel
theorem dX6_oftenOf_14 : decode cX6_oftenOf 14 = .ok (.getfield 37, 3) := by decide +kernel
theorem dX6_oftenOf_17 : decode cX6_oftenOf 17 = .ok (.iload 4, 2) := by decide +kernel
theorem dX6_oftenOf_19 : decode cX6_oftenOf 19 = .ok (.aload_n 1, 1) := by decide +kernel
theorem dX6_oftenOf_20 : decode cX6_oftenOf 20 = .ok (.iload_n 2, 1) := by decide +kernel
theorem dX6_oftenOf_21 : decode cX6_oftenOf 21 = .ok (.iload 4, 2) := by decide +kernel
theorem dX6_oftenOf_23 : decode cX6_oftenOf 23 = .ok (.invokevirtual 90, 3) := by decide +kernel
theorem dX6_oftenOf_26 : decode cX6_oftenOf 26 = .ok (.lastore, 1) := by decide +kernel
theorem dX6_oftenOf_27 : decode cX6_oftenOf 27 = .ok (.iinc 4 1, 3) := by decide +kernel
theorem dX6_oftenOf_30 : decode cX6_oftenOf 30 = .ok (.goto (-27), 3) := by decide +kernel
theorem dX6_oftenOf_33 : decode cX6_oftenOf 33 = .ok (.iconst 0, 1) := by decide +kernel
theorem dX6_oftenOf_34 : decode cX6_oftenOf 34 = .ok (.istore 4, 2) := by decide +kernel
theorem dX6_oftenOf_36 : decode cX6_oftenOf 36 = .ok (.iconst 0, 1) := by decide +kernel
theorem dX6_oftenOf_37 : decode cX6_oftenOf 37 = .ok (.istore 5, 2) := by decide +kernel
theorem dX6_oftenOf_39 : decode cX6_oftenOf 39 = .ok (.iload 5, 2) := by decide +kernel
theorem dX6_oftenOf_41 : decode cX6_oftenOf 41 = .ok (.iconst 4, 1) := by decide +kernel
theorem dX6_oftenOf_42 : decode cX6_oftenOf 42 = .ok (.if_icmp .ge 20, 3) := by decide +kernel
theorem dX6_oftenOf_45 : decode cX6_oftenOf 45 = .ok (.aload_n 0, 1) := by decide +kernel
theorem dX6_oftenOf_46 : decode cX6_oftenOf 46 = .ok (.iload_n 3, 1) := by decide +kernel
theorem dX6_oftenOf_47 : decode cX6_oftenOf 47 = .ok (.invokevirtual 93, 3) := by decide +kernel
theorem dX6_oftenOf_50 : decode cX6_oftenOf 50 = .ok (.ifCond .eq 12, 3) := by decide +kernel
theorem dX6_oftenOf_53 : decode cX6_oftenOf 53 = .ok (.iinc 4 1, 3) := by decide +kernel
theorem dX6_oftenOf_56 : decode cX6_oftenOf 56 = .ok (.iinc 5 1, 3) := by decide +kernel
theorem dX6_oftenOf_59 : decode cX6_oftenOf 59 = .ok (.goto (-20), 3) := by decide +kernel
theorem dX6_oftenOf_62 : decode cX6_oftenOf 62 = .ok (.iload 4, 2) := by decide +kernel
theorem dX6_oftenOf_64 : decode cX6_oftenOf 64 = .ok (.ireturn, 1) := by decide +kernel
theorem dX6_partBy_0 : decode cX6_partBy 0 = .ok (.lconst 0, 1) := by decide +kernel
theorem dX6_partBy_1 : decode cX6_partBy 1 = .ok (.lstore_n 2, 1) := by decide +kernel
theorem dX6_partBy_2 : decode cX6_partBy 2 = .ok (.aload_n 0, 1) := by decide +kernel
theorem dX6_partBy_3 : decode cX6_partBy 3 = .ok (.getfield 37, 3) := by decide +kernel
theorem dX6_partBy_6 : decode cX6_partBy 6 = .ok (.arraylength, 1) := by decide +kernel
theorem dX6_partBy_7 : decode cX6_partBy 7 = .ok (.iconst 1, 1) := by decide +kernel
theorem dX6_partBy_8 : decode cX6_partBy 8 = .ok (.isub, 1) := by decide +kernel
theorem dX6_partBy_9 : decode cX6_partBy 9 = .ok (.istore 4, 2) := by decide +kernel
theorem dX6_partBy_11 : decode cX6_partBy 11 = .ok (.iload 4, 2) := by decide +kernel
theorem dX6_partBy_13 : decode cX6_partBy 13 = .ok (.ifCond .lt 22, 3) := by decide +kernel
theorem dX6_partBy_16 : decode cX6_partBy 16 = .ok (.lload_n 2, 1) := by decide +kernel
theorem dX6_partBy_17 : decode cX6_partBy 17 = .ok (.iload_n 1, 1) := by decide +kernel
theorem dX6_partBy_18 : decode cX6_partBy 18 = .ok (.i2l, 1) := by decide +kernel
theorem dX6_partBy_19 : decode cX6_partBy 19 = .ok (.lmul, 1) := by decide +kernel
theorem dX6_partBy_20 : decode cX6_partBy 20 = .ok (.aload_n 0, 1) := by decide +kernel
theorem dX6_partBy_21 : decode cX6_partBy 21 = .ok (.getfield 37, 3) := by decide +kernel
theorem dX6_partBy_24 : decode cX6_partBy 24 = .ok (.iload 4, 2) := by decide +kernel
theorem dX6_partBy_26 : decode cX6_partBy 26 = .ok (.laload, 1) := by decide +kernel
theorem dX6_partBy_27 : decode cX6_partBy 27 = .ok (.ladd, 1) := by decide +kernel
theorem dX6_partBy_28 : decode cX6_partBy 28 = .ok (.lstore_n 2, 1) := by decide +kernel
theorem dX6_partBy_29 : decode cX6_partBy 29 = .ok (.iinc 4 (-1), 3) := by decide +kernel
theorem dX6_partBy_32 : decode cX6_partBy 32 = .ok (.goto (-21), 3) := by decide +kernel
theorem dX6_partBy_35 : decode cX6_partBy 35 = .ok (.lload_n 2, 1) := by decide +kernel
theorem dX6_partBy_36 : decode cX6_partBy 36 = .ok (.lconst 0, 1) := by decide +kernel
theorem dX6_partBy_37 : decode cX6_partBy 37 = .ok (.lcmp, 1) := by decide +kernel
theorem dX6_partBy_38 : decode cX6_partBy 38 = .ok (.ifCond .eq 5, 3) := by decide +kernel
theorem dX6_partBy_41 : decode cX6_partBy 41 = .ok (.iconst 0, 1) := by decide +kernel
theorem dX6_partBy_42 : decode cX6_partBy 42 = .ok (.ireturn, 1) := by decide +kernel
theorem dX6_partBy_43 : decode cX6_partBy 43 = .ok (.lconst 0, 1) := by decide +kernel
theorem dX6_partBy_44 : decode cX6_partBy 44 = .ok (.lstore 4, 2) := by decide +kernel
theorem dX6_partBy_46 : decode cX6_partBy 46 = .ok (.aload_n 0, 1) := by decide +kernel
theorem dX6_partBy_47 : decode cX6_partBy 47 = .ok (.getfield 37, 3) := by decide +kernel
theorem dX6_partBy_50 : decode cX6_partBy 50 = .ok (.arraylength, 1) := by decide +kernel
theorem dX6_partBy_51 : decode cX6_partBy 51 = .ok (.iconst 1, 1) := by decide +kernel
theorem dX6_partBy_52 : decode cX6_partBy 52 = .ok (.isub, 1) := by decide +kernel
theorem dX6_partBy_53 : decode cX6_partBy 53 = .ok (.istore 6, 2) := by decide +kernel
theorem dX6_partBy_55 : decode cX6_partBy 55 = .ok (.iload 6, 2) := by decide +kernel
theorem dX6_partBy_57 : decode cX6_partBy 57 = .ok (.ifCond .lt 37, 3) := by decide +kernel
theorem dX6_partBy_60 : decode cX6_partBy 60 = .ok (.aload_n 0, 1) := by decide +kernel
theorem dX6_partBy_61 : decode cX6_partBy 61 = .ok (.getfield 37, 3) := by decide +kernel
theorem dX6_partBy_64 : decode cX6_partBy 64 = .ok (.iload 6, 2) := by decide +kernel
theorem dX6_partBy_66 : decode cX6_partBy 66 = .ok (.laload, 1) := by decide +kernel
theorem dX6_partBy_67 : decode cX6_partBy 67 = .ok (.lstore 7, 2) := by decide +kernel
theorem dX6_partBy_69 : decode cX6_partBy 69 = .ok (.aload_n 0, 1) := by decide +kernel
theorem dX6_partBy_70 : decode cX6_partBy 70 = .ok (.getfield 37, 3) := by decide +kernel
theorem dX6_partBy_73 : decode cX6_partBy 73 = .ok (.iload 6, 2) := by decide +kernel
theorem dX6_partBy_75 : decode cX6_partBy 75 = .ok (.lload 4, 2) := by decide +kernel
theorem dX6_partBy_77 : decode cX6_partBy 77 = .ok (.lastore, 1) := by decide +kernel
theorem dX6_partBy_78 : decode cX6_partBy 78 = .ok (.lload 4, 2) := by decide +kernel
theorem dX6_partBy_80 : decode cX6_partBy 80 = .ok (.iload_n 1, 1) := by decide +kernel
theorem dX6_partBy_81 : decode cX6_partBy 81 = .ok (.i2l, 1) := by decide +kernel
theorem dX6_partBy_82 : decode cX6_partBy 82 = .ok (.lmul, 1) := by decide +kernel
theorem dX6_partBy_83 : decode cX6_partBy 83 = .ok (.lload 7, 2) := by decide +kernel
theorem dX6_partBy_85 : decode cX6_partBy 85 = .ok (.ladd, 1) := by decide +kernel
theorem dX6_partBy_86 : decode cX6_partBy 86 = .ok (.lstore 4, 2) := by decide +kernel
theorem dX6_partBy_88 : decode cX6_partBy 88 = .ok (.iinc 6 (-1), 3) := by decide +kernel
theorem dX6_partBy_91 : decode cX6_partBy 91 = .ok (.goto (-36), 3) := by decide +kernel
theorem dX6_partBy_94 : decode cX6_partBy 94 = .ok (.iconst 1, 1) := by decide +kernel
theorem dX6_partBy_95 : decode cX6_partBy 95 = .ok (.ireturn, 1) := by decide +kernel
theorem dX6_blow_0 : decode cX6_blow 0 = .ok (.iload_n 1, 1) := by decide +kernel
theorem dX6_blow_1 : decode cX6_blow 1 = .ok (.iconst 1, 1) := by decide +kernel
theorem dX6_blow_2 : decode cX6_blow 2 = .ok (.if_icmp .lt 12, 3) := by decide +kernel
theorem dX6_blow_5 : decode cX6_blow 5 = .ok (.iload_n 1, 1) := by decide +kernel
theorem dX6_blow_6 : decode cX6_blow 6 = .ok (.aload_n 0, 1) := by decide +kernel
theorem dX6_blow_7 : decode cX6_blow 7 = .ok (.getfield 33, 3) := by decide +kernel
theorem dX6_blow_10 : decode cX6_blow 10 = .ok (.arraylength, 1) := by decide +kernel
theorem dX6_blow_11 : decode cX6_blow 11 = .ok (.if_icmp .lt 5, 3) := by decide +kernel
theorem dX6_blow_14 : decode cX6_blow 14 = .ok (.aconst_null, 1) := by decide +kernel
theorem dX6_blow_15 : decode cX6_blow 15 = .ok (.areturn, 1) := by decide +kernel
theorem dX6_blow_16 : decode cX6_blow 16 = .ok (.aload_n 0, 1) := by decide +kernel
theorem dX6_blow_17 : decode cX6_blow 17 = .ok (.getfield 33, 3) := by decide +kernel
theorem dX6_blow_20 : decode cX6_blow 20 = .ok (.iload_n 1, 1) := by decide +kernel
theorem dX6_blow_21 : decode cX6_blow 21 = .ok (.iconst 1, 1) := by decide +kernel
theorem dX6_blow_22 : decode cX6_blow 22 = .ok (.isub, 1) := by decide +kernel
theorem dX6_blow_23 : decode cX6_blow 23 = .ok (.aaload, 1) := by decide +kernel
theorem dX6_blow_24 : decode cX6_blow 24 = .ok (.astore_n 3, 1) := by decide +kernel
theorem dX6_blow_25 : decode cX6_blow 25 = .ok (.aload_n 3, 1) := by decide +kernel
theorem dX6_blow_26 : decode cX6_blow 26 = .ok (.invokevirtual 97, 3) := by decide +kernel
theorem dX6_blow_29 : decode cX6_blow 29 = .ok (.istore 4, 2) := by decide +kernel
theorem dX6_blow_31 : decode cX6_blow 31 = .ok (.iload 4, 2) := by decide +kernel
theorem dX6_blow_33 : decode cX6_blow 33 = .ok (.invokestatic 101, 3) := by decide +kernel
theorem dX6_blow_36 : decode cX6_blow 36 = .ok (.ifCond .ne 5, 3) := by decide +kernel
theorem dX6_blow_39 : decode cX6_blow 39 = .ok (.aconst_null, 1) := by decide +kernel
theorem dX6_blow_40 : decode cX6_blow 40 = .ok (.areturn, 1) := by decide +kernel
theorem dX6_blow_41 : decode cX6_blow 41 = .ok (.aload_n 3, 1) := by decide +kernel
theorem dX6_blow_42 : decode cX6_blow 42 = .ok (.aload_n 0, 1) := by decide +kernel
theorem dX6_blow_43 : decode cX6_blow 43 = .ok (.getfield 33, 3) := by decide +kernel
theorem dX6_blow_46 : decode cX6_blow 46 = .ok (.iload_n 1, 1) := by decide +kernel
theorem dX6_blow_47 : decode cX6_blow 47 = .ok (.aaload, 1) := by decide +kernel
theorem dX6_blow_48 : decode cX6_blow 48 = .ok (.iload_n 2, 1) := by decide +kernel
theorem dX6_blow_49 : decode cX6_blow 49 = .ok (.iload 4, 2) := by decide +kernel
theorem dX6_blow_51 : decode cX6_blow 51 = .ok (.invokevirtual 104, 3) := by decide +kernel
theorem dX6_blow_54 : decode cX6_blow 54 = .ok (.aload_n 0, 1) := by decide +kernel
theorem dX6_blow_55 : decode cX6_blow 55 = .ok (.getfield 33, 3) := by decide +kernel
theorem dX6_blow_58 : decode cX6_blow 58 = .ok (.iload_n 1, 1) := by decide +kernel
theorem dX6_blow_59 : decode cX6_blow 59 = .ok (.aaload, 1) := by decide +kernel
theorem dX6_blow_60 : decode cX6_blow 60 = .ok (.areturn, 1) := by decide +kernel
theorem dX6_growTree_0 : decode cX6_growTree 0 = .ok (.aload_n 0, 1) := by decide +kernel
theorem dX6_growTree_1 : decode cX6_growTree 1 = .ok (.invokevirtual 108, 3) := by decide +kernel
theorem dX6_growTree_4 : decode cX6_growTree 4 = .ok (.aload_n 0, 1) := by decide +kernel
theorem dX6_growTree_5 : decode cX6_growTree 5 = .ok (.iconst 1, 1) := by decide +kernel
theorem dX6_growTree_6 : decode cX6_growTree 6 = .ok (.iload_n 1, 1) := by decide +kernel
theorem dX6_growTree_7 : decode cX6_growTree 7 = .ok (.invokestatic 111, 3) := by decide +kernel
theorem dX6_growTree_10 : decode cX6_growTree 10 = .ok (.pop, 1) := by decide +kernel
theorem dX6_growTree_11 : decode cX6_growTree 11 = .ok (.return_, 1) := by decide +kernel
theorem dX6_clearTree_0 : decode cX6_clearTree 0 = .ok (.aload_n 0, 1) := by decide +kernel
theorem dX6_clearTree_1 : decode cX6_clearTree 1 = .ok (.iconst 0, 1) := by decide +kernel
theorem dX6_clearTree_2 : decode cX6_clearTree 2 = .ok (.putfield 9, 3) := by decide +kernel
theorem dX6_clearTree_5 : decode cX6_clearTree 5 = .ok (.aload_n 0, 1) := by decide +kernel
theorem dX6_clearTree_6 : decode cX6_clearTree 6 = .ok (.iconst 0, 1) := by decide +kernel
theorem dX6_clearTree_7 : decode cX6_clearTree 7 = .ok (.putfield 15, 3) := by decide +kernel
theorem dX6_clearTree_10 : decode cX6_clearTree 10 = .ok (.aload_n 0, 1) := by decide +kernel
theorem dX6_clearTree_11 : decode cX6_clearTree 11 = .ok (.iconst 0, 1) := by decide +kernel
theorem dX6_clearTree_12 : decode cX6_clearTree 12 = .ok (.putfield 18, 3) := by decide +kernel
theorem dX6_clearTree_15 : decode cX6_clearTree 15 = .ok (.return_, 1) := by decide +kernel
theorem dX6_grow_0 : decode cX6_grow 0 = .ok (.iload_n 1, 1) := by decide +kernel
theorem dX6_grow_1 : decode cX6_grow 1 = .ok (.iconst 1, 1) := by decide +kernel
theorem dX6_grow_2 : decode cX6_grow 2 = .ok (.if_icmp .lt 17, 3) := by decide +kernel
theorem dX6_grow_5 : decode cX6_grow 5 = .ok (.iload_n 1, 1) := by decide +kernel
theorem dX6_grow_6 : decode cX6_grow 6 = .ok (.iload_n 2, 1) := by decide +kernel
theorem dX6_grow_7 : decode cX6_grow 7 = .ok (.if_icmp .gt 12, 3) := by decide +kernel
theorem dX6_grow_10 : decode cX6_grow 10 = .ok (.iload_n 1, 1) := by decide +kernel
theorem dX6_grow_11 : decode cX6_grow 11 = .ok (.aload_n 0, 1) := by decide +kernel
theorem dX6_grow_12 : decode cX6_grow 12 = .ok (.getfield 33, 3) := by decide +kernel
theorem dX6_grow_15 : decode cX6_grow 15 = .ok (.arraylength, 1) := by decide +kernel
theorem dX6_grow_16 : decode cX6_grow 16 = .ok (.if_icmp .le 5, 3) := by decide +kernel
theorem dX6_grow_19 : decode cX6_grow 19 = .ok (.iconst 0, 1) := by decide +kernel
theorem dX6_grow_20 : decode cX6_grow 20 = .ok (.ireturn, 1) := by decide +kernel
theorem dX6_grow_21 : decode cX6_grow 21 = .ok (.aload_n 0, 1) := by decide +kernel
theorem dX6_grow_22 : decode cX6_grow 22 = .ok (.getfield 33, 3) := by decide +kernel
theorem dX6_grow_25 : decode cX6_grow 25 = .ok (.iload_n 1, 1) := by decide +kernel
theorem dX6_grow_26 : decode cX6_grow 26 = .ok (.iconst 1, 1) := by decide +kernel
theorem dX6_grow_27 : decode cX6_grow 27 = .ok (.isub, 1) := by decide +kernel
theorem dX6_grow_28 : decode cX6_grow 28 = .ok (.aaload, 1) := by decide +kernel
theorem dX6_grow_29 : decode cX6_grow 29 = .ok (.astore_n 3, 1) := by decide +kernel
theorem dX6_grow_30 : decode cX6_grow 30 = .ok (.aload_n 3, 1) := by decide +kernel
theorem dX6_grow_31 : decode cX6_grow 31 = .ok (.invokevirtual 97, 3) := by decide +kernel
theorem dX6_grow_34 : decode cX6_grow 34 = .ok (.istore 4, 2) := by decide +kernel
theorem dX6_grow_36 : decode cX6_grow 36 = .ok (.iload 4, 2) := by decide +kernel
theorem dX6_grow_38 : decode cX6_grow 38 = .ok (.invokestatic 101, 3) := by decide +kernel
theorem dX6_grow_41 : decode cX6_grow 41 = .ok (.ifCond .ne 5, 3) := by decide +kernel
theorem dX6_grow_44 : decode cX6_grow 44 = .ok (.iconst 0, 1) := by decide +kernel
theorem dX6_grow_45 : decode cX6_grow 45 = .ok (.ireturn, 1) := by decide +kernel
theorem dX6_grow_46 : decode cX6_grow 46 = .ok (.aload_n 0, 1) := by decide +kernel
theorem dX6_grow_47 : decode cX6_grow 47 = .ok (.dup, 1) := by decide +kernel
theorem dX6_grow_48 : decode cX6_grow 48 = .ok (.getfield 9, 3) := by decide +kernel
theorem dX6_grow_51 : decode cX6_grow 51 = .ok (.iconst 1, 1) := by decide +kernel
theorem dX6_grow_52 : decode cX6_grow 52 = .ok (.iadd, 1) := by decide +kernel
theorem dX6_grow_53 : decode cX6_grow 53 = .ok (.putfield 9, 3) := by decide +kernel
theorem dX6_grow_56 : decode cX6_grow 56 = .ok (.aload_n 0, 1) := by decide +kernel
theorem dX6_grow_57 : decode cX6_grow 57 = .ok (.dup, 1) := by decide +kernel
theorem dX6_grow_58 : decode cX6_grow 58 = .ok (.getfield 15, 3) := by decide +kernel
theorem dX6_grow_61 : decode cX6_grow 61 = .ok (.iload 4, 2) := by decide +kernel
theorem dX6_grow_63 : decode cX6_grow 63 = .ok (.iload 4, 2) := by decide +kernel
theorem dX6_grow_65 : decode cX6_grow 65 = .ok (.iconst 1, 1) := by decide +kernel
theorem dX6_grow_66 : decode cX6_grow 66 = .ok (.isub, 1) := by decide +kernel
theorem dX6_grow_67 : decode cX6_grow 67 = .ok (.imul, 1) := by decide +kernel
theorem dX6_grow_68 : decode cX6_grow 68 = .ok (.iconst 2, 1) := by decide +kernel
theorem dX6_grow_69 : decode cX6_grow 69 = .ok (.idiv, 1) := by decide +kernel
theorem dX6_grow_70 : decode cX6_grow 70 = .ok (.iadd, 1) := by decide +kernel
theorem dX6_grow_71 : decode cX6_grow 71 = .ok (.putfield 15, 3) := by decide +kernel
theorem dX6_grow_74 : decode cX6_grow 74 = .ok (.iload_n 1, 1) := by decide +kernel
theorem dX6_grow_75 : decode cX6_grow 75 = .ok (.iload_n 2, 1) := by decide +kernel
theorem dX6_grow_76 : decode cX6_grow 76 = .ok (.if_icmp .ne 25, 3) := by decide +kernel
theorem dX6_grow_79 : decode cX6_grow 79 = .ok (.aload_n 0, 1) := by decide +kernel
theorem dX6_grow_80 : decode cX6_grow 80 = .ok (.dup, 1) := by decide +kernel
theorem dX6_grow_81 : decode cX6_grow 81 = .ok (.getfield 18, 3) := by decide +kernel
theorem dX6_grow_84 : decode cX6_grow 84 = .ok (.iload 4, 2) := by decide +kernel
theorem dX6_grow_86 : decode cX6_grow 86 = .ok (.iconst 1, 1) := by decide +kernel
theorem dX6_grow_87 : decode cX6_grow 87 = .ok (.if_icmp .ne 7, 3) := by decide +kernel
theorem dX6_grow_90 : decode cX6_grow 90 = .ok (.iconst 1, 1) := by decide +kernel
theorem dX6_grow_91 : decode cX6_grow 91 = .ok (.goto 4, 3) := by decide +kernel
theorem dX6_grow_94 : decode cX6_grow 94 = .ok (.iconst 0, 1) := by decide +kernel
theorem dX6_grow_95 : decode cX6_grow 95 = .ok (.iadd, 1) := by decide +kernel
theorem dX6_grow_96 : decode cX6_grow 96 = .ok (.putfield 18, 3) := by decide +kernel
theorem dX6_grow_99 : decode cX6_grow 99 = .ok (.iconst 1, 1) := by decide +kernel
theorem dX6_grow_100 : decode cX6_grow 100 = .ok (.ireturn, 1) := by decide +kernel
theorem dX6_grow_101 : decode cX6_grow 101 = .ok (.iconst 0, 1) := by decide +kernel
theorem dX6_grow_102 : decode cX6_grow 102 = .ok (.istore 5, 2) := by decide +kernel
theorem dX6_grow_104 : decode cX6_grow 104 = .ok (.aload_n 0, 1) := by decide +kernel
theorem dX6_grow_105 : decode cX6_grow 105 = .ok (.aload_n 3, 1) := by decide +kernel
theorem dX6_grow_106 : decode cX6_grow 106 = .ok (.iload 4, 2) := by decide +kernel
theorem dX6_grow_108 : decode cX6_grow 108 = .ok (.invokevirtual 115, 3) := by decide +kernel
theorem dX6_grow_111 : decode cX6_grow 111 = .ok (.istore 6, 2) := by decide +kernel
theorem dX6_grow_113 : decode cX6_grow 113 = .ok (.bipush (-5), 2) := by decide +kernel
theorem dX6_grow_115 : decode cX6_grow 115 = .ok (.istore 7, 2) := by decide +kernel
theorem dX6_grow_117 : decode cX6_grow 117 = .ok (.iload 7, 2) := by decide +kernel
theorem dX6_grow_119 : decode cX6_grow 119 = .ok (.iconst 5, 1) := by decide +kernel
theorem dX6_grow_120 : decode cX6_grow 120 = .ok (.if_icmp .gt 46, 3) := by decide +kernel
theorem dX6_grow_123 : decode cX6_grow 123 = .ok (.iload 6, 2) := by decide +kernel
theorem dX6_grow_125 : decode cX6_grow 125 = .ok (.iload 7, 2) := by decide +kernel
theorem dX6_grow_127 : decode cX6_grow 127 = .ok (.iconst 5, 1) := by decide +kernel
theorem dX6_grow_128 : decode cX6_grow 128 = .ok (.iadd, 1) := by decide +kernel
theorem dX6_grow_129 : decode cX6_grow 129 = .ok (.ishr, 1) := by decide +kernel
theorem dX6_grow_130 : decode cX6_grow 130 = .ok (.iconst 1, 1) := by decide +kernel
theorem dX6_grow_131 : decode cX6_grow 131 = .ok (.iand, 1) := by decide +kernel
theorem dX6_grow_132 : decode cX6_grow 132 = .ok (.iconst 1, 1) := by decide +kernel
theorem dX6_grow_133 : decode cX6_grow 133 = .ok (.if_icmp .ne 27, 3) := by decide +kernel
theorem dX6_grow_136 : decode cX6_grow 136 = .ok (.aload_n 0, 1) := by decide +kernel
theorem dX6_grow_137 : decode cX6_grow 137 = .ok (.iload_n 1, 1) := by decide +kernel
theorem dX6_grow_138 : decode cX6_grow 138 = .ok (.iload 7, 2) := by decide +kernel
theorem dX6_grow_140 : decode cX6_grow 140 = .ok (.invokevirtual 119, 3) := by decide +kernel
theorem dX6_grow_143 : decode cX6_grow 143 = .ok (.ifnull 17, 3) := by decide +kernel
theorem dX6_grow_146 : decode cX6_grow 146 = .ok (.aload_n 0, 1) := by decide +kernel
theorem dX6_grow_147 : decode cX6_grow 147 = .ok (.iload_n 1, 1) := by decide +kernel
theorem dX6_grow_148 : decode cX6_grow 148 = .ok (.iconst 1, 1) := by decide +kernel
theorem dX6_grow_149 : decode cX6_grow 149 = .ok (.iadd, 1) := by decide +kernel
theorem dX6_grow_150 : decode cX6_grow 150 = .ok (.iload_n 2, 1) := by decide +kernel
theorem dX6_grow_151 : decode cX6_grow 151 = .ok (.invokestatic 111, 3) := by decide +kernel
theorem dX6_grow_154 : decode cX6_grow 154 = .ok (.ifCond .eq 6, 3) := by decide +kernel
theorem dX6_grow_157 : decode cX6_grow 157 = .ok (.iinc 5 1, 3) := by decide +kernel
theorem dX6_grow_160 : decode cX6_grow 160 = .ok (.iinc 7 1, 3) := by decide +kernel
theorem dX6_grow_163 : decode cX6_grow 163 = .ok (.goto (-46), 3) := by decide +kernel
theorem dX6_grow_166 : decode cX6_grow 166 = .ok (.aload_n 0, 1) := by decide +kernel
theorem dX6_grow_167 : decode cX6_grow 167 = .ok (.dup, 1) := by decide +kernel
theorem dX6_grow_168 : decode cX6_grow 168 = .ok (.getfield 18, 3) := by decide +kernel
theorem dX6_grow_171 : decode cX6_grow 171 = .ok (.iload 5, 2) := by decide +kernel
theorem dX6_grow_173 : decode cX6_grow 173 = .ok (.ifCond .ne 7, 3) := by decide +kernel
theorem dX6_grow_176 : decode cX6_grow 176 = .ok (.iconst 1, 1) := by decide +kernel
theorem dX6_grow_177 : decode cX6_grow 177 = .ok (.goto 4, 3) := by decide +kernel
theorem dX6_grow_180 : decode cX6_grow 180 = .ok (.iconst 0, 1) := by decide +kernel
theorem dX6_grow_181 : decode cX6_grow 181 = .ok (.iadd, 1) := by decide +kernel
theorem dX6_grow_182 : decode cX6_grow 182 = .ok (.putfield 18, 3) := by decide +kernel
theorem dX6_grow_185 : decode cX6_grow 185 = .ok (.iconst 1, 1) := by decide +kernel
theorem dX6_grow_186 : decode cX6_grow 186 = .ok (.ireturn, 1) := by decide +kernel
theorem dX6_walk_0 : decode cX6_walk 0 = .ok (.aload_n 0, 1) := by decide +kernel
theorem dX6_walk_1 : decode cX6_walk 1 = .ok (.aload_n 1, 1) := by decide +kernel
theorem dX6_walk_2 : decode cX6_walk 2 = .ok (.invokevirtual 123, 3) := by decide +kernel
theorem dX6_walk_5 : decode cX6_walk 5 = .ok (.iconst 0, 1) := by decide +kernel
theorem dX6_walk_6 : decode cX6_walk 6 = .ok (.istore_n 2, 1) := by decide +kernel
theorem dX6_walk_7 : decode cX6_walk 7 = .ok (.iload_n 2, 1) := by decide +kernel
theorem dX6_walk_8 : decode cX6_walk 8 = .ok (.aload_n 0, 1) := by decide +kernel
theorem dX6_walk_9 : decode cX6_walk 9 = .ok (.getfield 25, 3) := by decide +kernel
theorem dX6_walk_12 : decode cX6_walk 12 = .ok (.arraylength, 1) := by decide +kernel
theorem dX6_walk_13 : decode cX6_walk 13 = .ok (.if_icmp .ge 56, 3) := by decide +kernel
theorem dX6_walk_16 : decode cX6_walk 16 = .ok (.iload_n 2, 1) := by decide +kernel
theorem dX6_walk_17 : decode cX6_walk 17 = .ok (.bipush 11, 2) := by decide +kernel
theorem dX6_walk_19 : decode cX6_walk 19 = .ok (.idiv, 1) := by decide +kernel
theorem dX6_walk_20 : decode cX6_walk 20 = .ok (.iconst 5, 1) := by decide +kernel
theorem dX6_walk_21 : decode cX6_walk 21 = .ok (.isub, 1) := by decide +kernel
theorem dX6_walk_22 : decode cX6_walk 22 = .ok (.istore_n 3, 1) := by decide +kernel
theorem dX6_walk_23 : decode cX6_walk 23 = .ok (.iload_n 2, 1) := by decide +kernel
theorem dX6_walk_24 : decode cX6_walk 24 = .ok (.bipush 11, 2) := by decide +kernel
theorem dX6_walk_26 : decode cX6_walk 26 = .ok (.irem, 1) := by decide +kernel
theorem dX6_walk_27 : decode cX6_walk 27 = .ok (.iconst 5, 1) := by decide +kernel
theorem dX6_walk_28 : decode cX6_walk 28 = .ok (.isub, 1) := by decide +kernel
theorem dX6_walk_29 : decode cX6_walk 29 = .ok (.istore 4, 2) := by decide +kernel
theorem dX6_walk_31 : decode cX6_walk 31 = .ok (.aload_n 0, 1) := by decide +kernel
theorem dX6_walk_32 : decode cX6_walk 32 = .ok (.getfield 25, 3) := by decide +kernel
theorem dX6_walk_35 : decode cX6_walk 35 = .ok (.iload_n 2, 1) := by decide +kernel
theorem dX6_walk_36 : decode cX6_walk 36 = .ok (.aload_n 0, 1) := by decide +kernel
theorem dX6_walk_37 : decode cX6_walk 37 = .ok (.iload_n 3, 1) := by decide +kernel
theorem dX6_walk_38 : decode cX6_walk 38 = .ok (.iload 4, 2) := by decide +kernel
theorem dX6_walk_40 : decode cX6_walk 40 = .ok (.invokevirtual 127, 3) := by decide +kernel
theorem dX6_walk_43 : decode cX6_walk 43 = .ok (.lconst 0, 1) := by decide +kernel
theorem dX6_walk_44 : decode cX6_walk 44 = .ok (.lcmp, 1) := by decide +kernel
theorem dX6_walk_45 : decode cX6_walk 45 = .ok (.ifCond .eq 7, 3) := by decide +kernel
theorem dX6_walk_48 : decode cX6_walk 48 = .ok (.iconst 0, 1) := by decide +kernel
theorem dX6_walk_49 : decode cX6_walk 49 = .ok (.goto 13, 3) := by decide +kernel
theorem dX6_walk_52 : decode cX6_walk 52 = .ok (.aload_n 0, 1) := by decide +kernel
theorem dX6_walk_53 : decode cX6_walk 53 = .ok (.iload_n 3, 1) := by decide +kernel
theorem dX6_walk_54 : decode cX6_walk 54 = .ok (.iload 4, 2) := by decide +kernel
theorem dX6_walk_56 : decode cX6_walk 56 = .ok (.invokevirtual 130, 3) := by decide +kernel
theorem dX6_walk_59 : decode cX6_walk 59 = .ok (.invokevirtual 97, 3) := by decide +kernel
theorem dX6_walk_62 : decode cX6_walk 62 = .ok (.iastore, 1) := by decide +kernel
theorem dX6_walk_63 : decode cX6_walk 63 = .ok (.iinc 2 1, 3) := by decide +kernel
theorem dX6_walk_66 : decode cX6_walk 66 = .ok (.goto (-59), 3) := by decide +kernel
theorem dX6_walk_69 : decode cX6_walk 69 = .ok (.return_, 1) := by decide +kernel
theorem dX6_placesWith_0 : decode cX6_placesWith 0 = .ok (.iconst 0, 1) := by decide +kernel
theorem dX6_placesWith_1 : decode cX6_placesWith 1 = .ok (.istore_n 2, 1) := by decide +kernel
theorem dX6_placesWith_2 : decode cX6_placesWith 2 = .ok (.iconst 0, 1) := by decide +kernel
theorem dX6_placesWith_3 : decode cX6_placesWith 3 = .ok (.istore_n 3, 1) := by decide +kernel
theorem dX6_placesWith_4 : decode cX6_placesWith 4 = .ok (.iload_n 3, 1) := by decide +kernel
theorem dX6_placesWith_5 : decode cX6_placesWith 5 = .ok (.aload_n 0, 1) := by decide +kernel
theorem dX6_placesWith_6 : decode cX6_placesWith 6 = .ok (.getfield 25, 3) := by decide +kernel
theorem dX6_placesWith_9 : decode cX6_placesWith 9 = .ok (.arraylength, 1) := by decide +kernel
theorem dX6_placesWith_10 : decode cX6_placesWith 10 = .ok (.if_icmp .ge 22, 3) := by decide +kernel
theorem dX6_placesWith_13 : decode cX6_placesWith 13 = .ok (.aload_n 0, 1) := by decide +kernel
theorem dX6_placesWith_14 : decode cX6_placesWith 14 = .ok (.getfield 25, 3) := by decide +kernel
theorem dX6_placesWith_17 : decode cX6_placesWith 17 = .ok (.iload_n 3, 1) := by decide +kernel
theorem dX6_placesWith_18 : decode cX6_placesWith 18 = .ok (.iaload, 1) := by decide +kernel
theorem dX6_placesWith_19 : decode cX6_placesWith 19 = .ok (.iload_n 1, 1) := by decide +kernel
theorem dX6_placesWith_20 : decode cX6_placesWith 20 = .ok (.if_icmp .lt 6, 3) := by decide +kernel
theorem dX6_placesWith_23 : decode cX6_placesWith 23 = .ok (.iinc 2 1, 3) := by decide +kernel
theorem dX6_placesWith_26 : decode cX6_placesWith 26 = .ok (.iinc 3 1, 3) := by decide +kernel
theorem dX6_placesWith_29 : decode cX6_placesWith 29 = .ok (.goto (-25), 3) := by decide +kernel
theorem dX6_placesWith_32 : decode cX6_placesWith 32 = .ok (.iload_n 2, 1) := by decide +kernel
theorem dX6_placesWith_33 : decode cX6_placesWith 33 = .ok (.ireturn, 1) := by decide +kernel
theorem dX6_setAside_0 : decode cX6_setAside 0 = .ok (.aload_n 0, 1) := by decide +kernel
theorem dX6_setAside_1 : decode cX6_setAside 1 = .ok (.getfield 25, 3) := by decide +kernel
theorem dX6_setAside_4 : decode cX6_setAside 4 = .ok (.iconst 0, 1) := by decide +kernel
theorem dX6_setAside_5 : decode cX6_setAside 5 = .ok (.aload_n 0, 1) := by decide +kernel
theorem dX6_setAside_6 : decode cX6_setAside 6 = .ok (.getfield 28, 3) := by decide +kernel
theorem dX6_setAside_9 : decode cX6_setAside 9 = .ok (.iconst 0, 1) := by decide +kernel
theorem dX6_setAside_10 : decode cX6_setAside 10 = .ok (.bipush 121, 2) := by decide +kernel
theorem dX6_setAside_12 : decode cX6_setAside 12 = .ok (.invokestatic 133, 3) := by decide +kernel
theorem dX6_setAside_15 : decode cX6_setAside 15 = .ok (.return_, 1) := by decide +kernel
theorem dX6_placesOnBoth_0 : decode cX6_placesOnBoth 0 = .ok (.iconst 0, 1) := by decide +kernel
theorem dX6_placesOnBoth_1 : decode cX6_placesOnBoth 1 = .ok (.istore_n 1, 1) := by decide +kernel
theorem dX6_placesOnBoth_2 : decode cX6_placesOnBoth 2 = .ok (.iconst 0, 1) := by decide +kernel
theorem dX6_placesOnBoth_3 : decode cX6_placesOnBoth 3 = .ok (.istore_n 2, 1) := by decide +kernel
theorem dX6_placesOnBoth_4 : decode cX6_placesOnBoth 4 = .ok (.iload_n 2, 1) := by decide +kernel
theorem dX6_placesOnBoth_5 : decode cX6_placesOnBoth 5 = .ok (.bipush 121, 2) := by decide +kernel
theorem dX6_placesOnBoth_7 : decode cX6_placesOnBoth 7 = .ok (.if_icmp .ge 32, 3) := by decide +kernel
theorem dX6_placesOnBoth_10 : decode cX6_placesOnBoth 10 = .ok (.aload_n 0, 1) := by decide +kernel
theorem dX6_placesOnBoth_11 : decode cX6_placesOnBoth 11 = .ok (.getfield 25, 3) := by decide +kernel
theorem dX6_placesOnBoth_14 : decode cX6_placesOnBoth 14 = .ok (.iload_n 2, 1) := by decide +kernel
theorem dX6_placesOnBoth_15 : decode cX6_placesOnBoth 15 = .ok (.iaload, 1) := by decide +kernel
theorem dX6_placesOnBoth_16 : decode cX6_placesOnBoth 16 = .ok (.iconst 1, 1) := by decide +kernel
theorem dX6_placesOnBoth_17 : decode cX6_placesOnBoth 17 = .ok (.if_icmp .lt 16, 3) := by decide +kernel
theorem dX6_placesOnBoth_20 : decode cX6_placesOnBoth 20 = .ok (.aload_n 0, 1) := by decide +kernel
theorem dX6_placesOnBoth_21 : decode cX6_placesOnBoth 21 = .ok (.getfield 28, 3) := by decide +kernel
theorem dX6_placesOnBoth_24 : decode cX6_placesOnBoth 24 = .ok (.iload_n 2, 1) := by decide +kernel
theorem dX6_placesOnBoth_25 : decode cX6_placesOnBoth 25 = .ok (.iaload, 1) := by decide +kernel
theorem dX6_placesOnBoth_26 : decode cX6_placesOnBoth 26 = .ok (.iconst 1, 1) := by decide +kernel
theorem dX6_placesOnBoth_27 : decode cX6_placesOnBoth 27 = .ok (.if_icmp .lt 6, 3) := by decide +kernel
theorem dX6_placesOnBoth_30 : decode cX6_placesOnBoth 30 = .ok (.iinc 1 1, 3) := by decide +kernel
theorem dX6_placesOnBoth_33 : decode cX6_placesOnBoth 33 = .ok (.iinc 2 1, 3) := by decide +kernel
theorem dX6_placesOnBoth_36 : decode cX6_placesOnBoth 36 = .ok (.goto (-32), 3) := by decide +kernel
theorem dX6_placesOnBoth_39 : decode cX6_placesOnBoth 39 = .ok (.iload_n 1, 1) := by decide +kernel
theorem dX6_placesOnBoth_40 : decode cX6_placesOnBoth 40 = .ok (.ireturn, 1) := by decide +kernel
theorem dX6_placeOn_0 : decode cX6_placeOn 0 = .ok (.iconst 0, 1) := by decide +kernel
theorem dX6_placeOn_1 : decode cX6_placeOn 1 = .ok (.istore_n 2, 1) := by decide +kernel
theorem dX6_placeOn_2 : decode cX6_placeOn 2 = .ok (.iconst 0, 1) := by decide +kernel
theorem dX6_placeOn_3 : decode cX6_placeOn 3 = .ok (.istore_n 3, 1) := by decide +kernel
theorem dX6_placeOn_4 : decode cX6_placeOn 4 = .ok (.iload_n 3, 1) := by decide +kernel
theorem dX6_placeOn_5 : decode cX6_placeOn 5 = .ok (.aload_n 0, 1) := by decide +kernel
theorem dX6_placeOn_6 : decode cX6_placeOn 6 = .ok (.getfield 25, 3) := by decide +kernel
theorem dX6_placeOn_9 : decode cX6_placeOn 9 = .ok (.arraylength, 1) := by decide +kernel
theorem dX6_placeOn_10 : decode cX6_placeOn 10 = .ok (.if_icmp .ge 32, 3) := by decide +kernel
theorem dX6_placeOn_13 : decode cX6_placeOn 13 = .ok (.aload_n 0, 1) := by decide +kernel
theorem dX6_placeOn_14 : decode cX6_placeOn 14 = .ok (.getfield 25, 3) := by decide +kernel
theorem dX6_placeOn_17 : decode cX6_placeOn 17 = .ok (.iload_n 3, 1) := by decide +kernel
theorem dX6_placeOn_18 : decode cX6_placeOn 18 = .ok (.iaload, 1) := by decide +kernel
theorem dX6_placeOn_19 : decode cX6_placeOn 19 = .ok (.iconst 1, 1) := by decide +kernel
theorem dX6_placeOn_20 : decode cX6_placeOn 20 = .ok (.if_icmp .lt 16, 3) := by decide +kernel
theorem dX6_placeOn_23 : decode cX6_placeOn 23 = .ok (.iload_n 2, 1) := by decide +kernel
theorem dX6_placeOn_24 : decode cX6_placeOn 24 = .ok (.iload_n 1, 1) := by decide +kernel
theorem dX6_placeOn_25 : decode cX6_placeOn 25 = .ok (.if_icmp .ne 8, 3) := by decide +kernel
theorem dX6_placeOn_28 : decode cX6_placeOn 28 = .ok (.iload_n 3, 1) := by decide +kernel
theorem dX6_placeOn_29 : decode cX6_placeOn 29 = .ok (.invokestatic 139, 3) := by decide +kernel
theorem dX6_placeOn_32 : decode cX6_placeOn 32 = .ok (.ireturn, 1) := by decide +kernel
theorem dX6_placeOn_33 : decode cX6_placeOn 33 = .ok (.iinc 2 1, 3) := by decide +kernel
theorem dX6_placeOn_36 : decode cX6_placeOn 36 = .ok (.iinc 3 1, 3) := by decide +kernel
theorem dX6_placeOn_39 : decode cX6_placeOn 39 = .ok (.goto (-35), 3) := by decide +kernel
theorem dX6_placeOn_42 : decode cX6_placeOn 42 = .ok (.ldc 143, 2) := by decide +kernel
theorem dX6_placeOn_44 : decode cX6_placeOn 44 = .ok (.ireturn, 1) := by decide +kernel
theorem dX6_toldPlace_0 : decode cX6_toldPlace 0 = .ok (.iload_n 0, 1) := by decide +kernel
theorem dX6_toldPlace_1 : decode cX6_toldPlace 1 = .ok (.bipush 11, 2) := by decide +kernel
theorem dX6_toldPlace_3 : decode cX6_toldPlace 3 = .ok (.idiv, 1) := by decide +kernel
theorem dX6_toldPlace_4 : decode cX6_toldPlace 4 = .ok (.bipush 100, 2) := by decide +kernel
theorem dX6_toldPlace_6 : decode cX6_toldPlace 6 = .ok (.imul, 1) := by decide +kernel
theorem dX6_toldPlace_7 : decode cX6_toldPlace 7 = .ok (.iload_n 0, 1) := by decide +kernel
theorem dX6_toldPlace_8 : decode cX6_toldPlace 8 = .ok (.bipush 11, 2) := by decide +kernel
theorem dX6_toldPlace_10 : decode cX6_toldPlace 10 = .ok (.irem, 1) := by decide +kernel
theorem dX6_toldPlace_11 : decode cX6_toldPlace 11 = .ok (.iadd, 1) := by decide +kernel
theorem dX6_toldPlace_12 : decode cX6_toldPlace 12 = .ok (.ireturn, 1) := by decide +kernel
theorem dX6_sumOfMarks_0 : decode cX6_sumOfMarks 0 = .ok (.iconst 0, 1) := by decide +kernel
theorem dX6_sumOfMarks_1 : decode cX6_sumOfMarks 1 = .ok (.istore_n 1, 1) := by decide +kernel
theorem dX6_sumOfMarks_2 : decode cX6_sumOfMarks 2 = .ok (.iconst 0, 1) := by decide +kernel
theorem dX6_sumOfMarks_3 : decode cX6_sumOfMarks 3 = .ok (.istore_n 2, 1) := by decide +kernel
theorem dX6_sumOfMarks_4 : decode cX6_sumOfMarks 4 = .ok (.iload_n 2, 1) := by decide +kernel
theorem dX6_sumOfMarks_5 : decode cX6_sumOfMarks 5 = .ok (.aload_n 0, 1) := by decide +kernel
theorem dX6_sumOfMarks_6 : decode cX6_sumOfMarks 6 = .ok (.getfield 25, 3) := by decide +kernel
theorem dX6_sumOfMarks_9 : decode cX6_sumOfMarks 9 = .ok (.arraylength, 1) := by decide +kernel
theorem dX6_sumOfMarks_10 : decode cX6_sumOfMarks 10 = .ok (.if_icmp .ge 63, 3) := by decide +kernel
theorem dX6_sumOfMarks_13 : decode cX6_sumOfMarks 13 = .ok (.aload_n 0, 1) := by decide +kernel
theorem dX6_sumOfMarks_14 : decode cX6_sumOfMarks 14 = .ok (.getfield 25, 3) := by decide +kernel
theorem dX6_sumOfMarks_17 : decode cX6_sumOfMarks 17 = .ok (.iload_n 2, 1) := by decide +kernel
theorem dX6_sumOfMarks_18 : decode cX6_sumOfMarks 18 = .ok (.iaload, 1) := by decide +kernel
theorem dX6_sumOfMarks_19 : decode cX6_sumOfMarks 19 = .ok (.iconst 1, 1) := by decide +kernel
theorem dX6_sumOfMarks_20 : decode cX6_sumOfMarks 20 = .ok (.if_icmp .lt 47, 3) := by decide +kernel
theorem dX6_sumOfMarks_23 : decode cX6_sumOfMarks 23 = .ok (.iload_n 2, 1) := by decide +kernel
theorem dX6_sumOfMarks_24 : decode cX6_sumOfMarks 24 = .ok (.bipush 11, 2) := by decide +kernel
theorem dX6_sumOfMarks_26 : decode cX6_sumOfMarks 26 = .ok (.idiv, 1) := by decide +kernel
theorem dX6_sumOfMarks_27 : decode cX6_sumOfMarks 27 = .ok (.iconst 5, 1) := by decide +kernel
theorem dX6_sumOfMarks_28 : decode cX6_sumOfMarks 28 = .ok (.isub, 1) := by decide +kernel
theorem dX6_sumOfMarks_29 : decode cX6_sumOfMarks 29 = .ok (.istore_n 3, 1) := by decide +kernel
theorem dX6_sumOfMarks_30 : decode cX6_sumOfMarks 30 = .ok (.iload_n 2, 1) := by decide +kernel
theorem dX6_sumOfMarks_31 : decode cX6_sumOfMarks 31 = .ok (.bipush 11, 2) := by decide +kernel
theorem dX6_sumOfMarks_33 : decode cX6_sumOfMarks 33 = .ok (.irem, 1) := by decide +kernel
theorem dX6_sumOfMarks_34 : decode cX6_sumOfMarks 34 = .ok (.iconst 5, 1) := by decide +kernel
theorem dX6_sumOfMarks_35 : decode cX6_sumOfMarks 35 = .ok (.isub, 1) := by decide +kernel
theorem dX6_sumOfMarks_36 : decode cX6_sumOfMarks 36 = .ok (.istore 4, 2) := by decide +kernel
theorem dX6_sumOfMarks_38 : decode cX6_sumOfMarks 38 = .ok (.iload_n 1, 1) := by decide +kernel
theorem dX6_sumOfMarks_39 : decode cX6_sumOfMarks 39 = .ok (.aload_n 0, 1) := by decide +kernel
theorem dX6_sumOfMarks_40 : decode cX6_sumOfMarks 40 = .ok (.getfield 41, 3) := by decide +kernel
theorem dX6_sumOfMarks_43 : decode cX6_sumOfMarks 43 = .ok (.iconst 2, 1) := by decide +kernel
theorem dX6_sumOfMarks_44 : decode cX6_sumOfMarks 44 = .ok (.iload_n 3, 1) := by decide +kernel
theorem dX6_sumOfMarks_45 : decode cX6_sumOfMarks 45 = .ok (.iload 4, 2) := by decide +kernel
theorem dX6_sumOfMarks_47 : decode cX6_sumOfMarks 47 = .ok (.aload_n 0, 1) := by decide +kernel
theorem dX6_sumOfMarks_48 : decode cX6_sumOfMarks 48 = .ok (.getfield 25, 3) := by decide +kernel
theorem dX6_sumOfMarks_51 : decode cX6_sumOfMarks 51 = .ok (.iload_n 2, 1) := by decide +kernel
theorem dX6_sumOfMarks_52 : decode cX6_sumOfMarks 52 = .ok (.iaload, 1) := by decide +kernel
theorem dX6_sumOfMarks_53 : decode cX6_sumOfMarks 53 = .ok (.aload_n 0, 1) := by decide +kernel
theorem dX6_sumOfMarks_54 : decode cX6_sumOfMarks 54 = .ok (.getfield 25, 3) := by decide +kernel
theorem dX6_sumOfMarks_57 : decode cX6_sumOfMarks 57 = .ok (.iload_n 2, 1) := by decide +kernel
theorem dX6_sumOfMarks_58 : decode cX6_sumOfMarks 58 = .ok (.iaload, 1) := by decide +kernel
theorem dX6_sumOfMarks_59 : decode cX6_sumOfMarks 59 = .ok (.invokevirtual 86, 3) := by decide +kernel
theorem dX6_sumOfMarks_62 : decode cX6_sumOfMarks 62 = .ok (.invokestatic 144, 3) := by decide +kernel
theorem dX6_sumOfMarks_65 : decode cX6_sumOfMarks 65 = .ok (.iadd, 1) := by decide +kernel
theorem dX6_sumOfMarks_66 : decode cX6_sumOfMarks 66 = .ok (.istore_n 1, 1) := by decide +kernel
theorem dX6_sumOfMarks_67 : decode cX6_sumOfMarks 67 = .ok (.iinc 2 1, 3) := by decide +kernel
theorem dX6_sumOfMarks_70 : decode cX6_sumOfMarks 70 = .ok (.goto (-66), 3) := by decide +kernel
theorem dX6_sumOfMarks_73 : decode cX6_sumOfMarks 73 = .ok (.iload_n 1, 1) := by decide +kernel
theorem dX6_sumOfMarks_74 : decode cX6_sumOfMarks 74 = .ok (.ireturn, 1) := by decide +kernel
theorem dX6_belongsOfKnots_0 : decode cX6_belongsOfKnots 0 = .ok (.aload_n 0, 1) := by decide +kernel
theorem dX6_belongsOfKnots_1 : decode cX6_belongsOfKnots 1 = .ok (.invokevirtual 108, 3) := by decide +kernel
theorem dX6_belongsOfKnots_4 : decode cX6_belongsOfKnots 4 = .ok (.iconst 0, 1) := by decide +kernel
theorem dX6_belongsOfKnots_5 : decode cX6_belongsOfKnots 5 = .ok (.istore_n 1, 1) := by decide +kernel
theorem dX6_belongsOfKnots_6 : decode cX6_belongsOfKnots 6 = .ok (.iload_n 1, 1) := by decide +kernel
theorem dX6_belongsOfKnots_7 : decode cX6_belongsOfKnots 7 = .ok (.aload_n 0, 1) := by decide +kernel
theorem dX6_belongsOfKnots_8 : decode cX6_belongsOfKnots 8 = .ok (.getfield 25, 3) := by decide +kernel
theorem dX6_belongsOfKnots_11 : decode cX6_belongsOfKnots 11 = .ok (.arraylength, 1) := by decide +kernel
theorem dX6_belongsOfKnots_12 : decode cX6_belongsOfKnots 12 = .ok (.if_icmp .ge 43, 3) := by decide +kernel
theorem dX6_belongsOfKnots_15 : decode cX6_belongsOfKnots 15 = .ok (.aload_n 0, 1) := by decide +kernel
theorem dX6_belongsOfKnots_16 : decode cX6_belongsOfKnots 16 = .ok (.getfield 25, 3) := by decide +kernel
theorem dX6_belongsOfKnots_19 : decode cX6_belongsOfKnots 19 = .ok (.iload_n 1, 1) := by decide +kernel
theorem dX6_belongsOfKnots_20 : decode cX6_belongsOfKnots 20 = .ok (.iaload, 1) := by decide +kernel
theorem dX6_belongsOfKnots_21 : decode cX6_belongsOfKnots 21 = .ok (.iconst 2, 1) := by decide +kernel
theorem dX6_belongsOfKnots_22 : decode cX6_belongsOfKnots 22 = .ok (.if_icmp .lt 27, 3) := by decide +kernel
theorem dX6_belongsOfKnots_25 : decode cX6_belongsOfKnots 25 = .ok (.aload_n 0, 1) := by decide +kernel
theorem dX6_belongsOfKnots_26 : decode cX6_belongsOfKnots 26 = .ok (.iload_n 1, 1) := by decide +kernel
theorem dX6_belongsOfKnots_27 : decode cX6_belongsOfKnots 27 = .ok (.bipush 11, 2) := by decide +kernel
theorem dX6_belongsOfKnots_29 : decode cX6_belongsOfKnots 29 = .ok (.idiv, 1) := by decide +kernel
theorem dX6_belongsOfKnots_30 : decode cX6_belongsOfKnots 30 = .ok (.iconst 5, 1) := by decide +kernel
theorem dX6_belongsOfKnots_31 : decode cX6_belongsOfKnots 31 = .ok (.isub, 1) := by decide +kernel
theorem dX6_belongsOfKnots_32 : decode cX6_belongsOfKnots 32 = .ok (.iload_n 1, 1) := by decide +kernel
theorem dX6_belongsOfKnots_33 : decode cX6_belongsOfKnots 33 = .ok (.bipush 11, 2) := by decide +kernel
theorem dX6_belongsOfKnots_35 : decode cX6_belongsOfKnots 35 = .ok (.irem, 1) := by decide +kernel
theorem dX6_belongsOfKnots_36 : decode cX6_belongsOfKnots 36 = .ok (.iconst 5, 1) := by decide +kernel
theorem dX6_belongsOfKnots_37 : decode cX6_belongsOfKnots 37 = .ok (.isub, 1) := by decide +kernel
theorem dX6_belongsOfKnots_38 : decode cX6_belongsOfKnots 38 = .ok (.invokevirtual 130, 3) := by decide +kernel
theorem dX6_belongsOfKnots_41 : decode cX6_belongsOfKnots 41 = .ok (.pop, 1) := by decide +kernel
theorem dX6_belongsOfKnots_42 : decode cX6_belongsOfKnots 42 = .ok (.aload_n 0, 1) := by decide +kernel
theorem dX6_belongsOfKnots_43 : decode cX6_belongsOfKnots 43 = .ok (.iconst 1, 1) := by decide +kernel
theorem dX6_belongsOfKnots_44 : decode cX6_belongsOfKnots 44 = .ok (.iconst 3, 1) := by decide +kernel
theorem dX6_belongsOfKnots_45 : decode cX6_belongsOfKnots 45 = .ok (.invokestatic 111, 3) := by decide +kernel
theorem dX6_belongsOfKnots_48 : decode cX6_belongsOfKnots 48 = .ok (.pop, 1) := by decide +kernel
theorem dX6_belongsOfKnots_49 : decode cX6_belongsOfKnots 49 = .ok (.iinc 1 1, 3) := by decide +kernel
theorem dX6_belongsOfKnots_52 : decode cX6_belongsOfKnots 52 = .ok (.goto (-46), 3) := by decide +kernel
theorem dX6_belongsOfKnots_55 : decode cX6_belongsOfKnots 55 = .ok (.aload_n 0, 1) := by decide +kernel
theorem dX6_belongsOfKnots_56 : decode cX6_belongsOfKnots 56 = .ok (.getfield 15, 3) := by decide +kernel
theorem dX6_belongsOfKnots_59 : decode cX6_belongsOfKnots 59 = .ok (.ireturn, 1) := by decide +kernel
theorem dX6_compareTold_0 : decode cX6_compareTold 0 = .ok (.iconst 0, 1) := by decide +kernel
theorem dX6_compareTold_1 : decode cX6_compareTold 1 = .ok (.istore 4, 2) := by decide +kernel
theorem dX6_compareTold_3 : decode cX6_compareTold 3 = .ok (.iconst 0, 1) := by decide +kernel
theorem dX6_compareTold_4 : decode cX6_compareTold 4 = .ok (.istore 5, 2) := by decide +kernel
theorem dX6_compareTold_6 : decode cX6_compareTold 6 = .ok (.iconst 0, 1) := by decide +kernel
theorem dX6_compareTold_7 : decode cX6_compareTold 7 = .ok (.istore 6, 2) := by decide +kernel
theorem dX6_compareTold_9 : decode cX6_compareTold 9 = .ok (.iload 6, 2) := by decide +kernel
theorem dX6_compareTold_11 : decode cX6_compareTold 11 = .ok (.aload_n 0, 1) := by decide +kernel
theorem dX6_compareTold_12 : decode cX6_compareTold 12 = .ok (.getfield 25, 3) := by decide +kernel
theorem dX6_compareTold_15 : decode cX6_compareTold 15 = .ok (.arraylength, 1) := by decide +kernel
theorem dX6_compareTold_16 : decode cX6_compareTold 16 = .ok (.if_icmp .ge 80, 3) := by decide +kernel
theorem dX6_compareTold_19 : decode cX6_compareTold 19 = .ok (.iload 5, 2) := by decide +kernel
theorem dX6_compareTold_21 : decode cX6_compareTold 21 = .ok (.iload_n 3, 1) := by decide +kernel
theorem dX6_compareTold_22 : decode cX6_compareTold 22 = .ok (.if_icmp .ge 74, 3) := by decide +kernel
theorem dX6_compareTold_25 : decode cX6_compareTold 25 = .ok (.aload_n 0, 1) := by decide +kernel
theorem dX6_compareTold_26 : decode cX6_compareTold 26 = .ok (.getfield 25, 3) := by decide +kernel
theorem dX6_compareTold_29 : decode cX6_compareTold 29 = .ok (.iload 6, 2) := by decide +kernel
theorem dX6_compareTold_31 : decode cX6_compareTold 31 = .ok (.iaload, 1) := by decide +kernel
theorem dX6_compareTold_32 : decode cX6_compareTold 32 = .ok (.iconst 1, 1) := by decide +kernel
theorem dX6_compareTold_33 : decode cX6_compareTold 33 = .ok (.if_icmp .ge 6, 3) := by decide +kernel
theorem dX6_compareTold_36 : decode cX6_compareTold 36 = .ok (.goto 54, 3) := by decide +kernel
theorem dX6_compareTold_39 : decode cX6_compareTold 39 = .ok (.iinc 5 1, 3) := by decide +kernel
theorem dX6_compareTold_42 : decode cX6_compareTold 42 = .ok (.aload_n 1, 1) := by decide +kernel
theorem dX6_compareTold_43 : decode cX6_compareTold 43 = .ok (.iload_n 2, 1) := by decide +kernel
theorem dX6_compareTold_44 : decode cX6_compareTold 44 = .ok (.iload 4, 2) := by decide +kernel
theorem dX6_compareTold_46 : decode cX6_compareTold 46 = .ok (.iload 6, 2) := by decide +kernel
theorem dX6_compareTold_48 : decode cX6_compareTold 48 = .ok (.invokestatic 139, 3) := by decide +kernel
theorem dX6_compareTold_51 : decode cX6_compareTold 51 = .ok (.invokestatic 147, 3) := by decide +kernel
theorem dX6_compareTold_54 : decode cX6_compareTold 54 = .ok (.ifCond .ne 8, 3) := by decide +kernel
theorem dX6_compareTold_57 : decode cX6_compareTold 57 = .ok (.iconst 1, 1) := by decide +kernel
theorem dX6_compareTold_58 : decode cX6_compareTold 58 = .ok (.iload 4, 2) := by decide +kernel
theorem dX6_compareTold_60 : decode cX6_compareTold 60 = .ok (.iadd, 1) := by decide +kernel
theorem dX6_compareTold_61 : decode cX6_compareTold 61 = .ok (.ireturn, 1) := by decide +kernel
theorem dX6_compareTold_62 : decode cX6_compareTold 62 = .ok (.iinc 4 1, 3) := by decide +kernel
theorem dX6_compareTold_65 : decode cX6_compareTold 65 = .ok (.aload_n 1, 1) := by decide +kernel
theorem dX6_compareTold_66 : decode cX6_compareTold 66 = .ok (.iload_n 2, 1) := by decide +kernel
theorem dX6_compareTold_67 : decode cX6_compareTold 67 = .ok (.iload 4, 2) := by decide +kernel
theorem dX6_compareTold_69 : decode cX6_compareTold 69 = .ok (.aload_n 0, 1) := by decide +kernel
theorem dX6_compareTold_70 : decode cX6_compareTold 70 = .ok (.getfield 25, 3) := by decide +kernel
theorem dX6_compareTold_73 : decode cX6_compareTold 73 = .ok (.iload 6, 2) := by decide +kernel
theorem dX6_compareTold_75 : decode cX6_compareTold 75 = .ok (.iaload, 1) := by decide +kernel
theorem dX6_compareTold_76 : decode cX6_compareTold 76 = .ok (.invokestatic 147, 3) := by decide +kernel
theorem dX6_compareTold_79 : decode cX6_compareTold 79 = .ok (.ifCond .ne 8, 3) := by decide +kernel
theorem dX6_compareTold_82 : decode cX6_compareTold 82 = .ok (.iconst 1, 1) := by decide +kernel
theorem dX6_compareTold_83 : decode cX6_compareTold 83 = .ok (.iload 4, 2) := by decide +kernel
theorem dX6_compareTold_85 : decode cX6_compareTold 85 = .ok (.iadd, 1) := by decide +kernel
theorem dX6_compareTold_86 : decode cX6_compareTold 86 = .ok (.ireturn, 1) := by decide +kernel
theorem dX6_compareTold_87 : decode cX6_compareTold 87 = .ok (.iinc 4 1, 3) := by decide +kernel
theorem dX6_compareTold_90 : decode cX6_compareTold 90 = .ok (.iinc 6 1, 3) := by decide +kernel
theorem dX6_compareTold_93 : decode cX6_compareTold 93 = .ok (.goto (-84), 3) := by decide +kernel
theorem dX6_compareTold_96 : decode cX6_compareTold 96 = .ok (.iload 4, 2) := by decide +kernel
theorem dX6_compareTold_98 : decode cX6_compareTold 98 = .ok (.iload_n 2, 1) := by decide +kernel
theorem dX6_compareTold_99 : decode cX6_compareTold 99 = .ok (.if_icmp .ne 7, 3) := by decide +kernel
theorem dX6_compareTold_102 : decode cX6_compareTold 102 = .ok (.iconst 0, 1) := by decide +kernel
theorem dX6_compareTold_103 : decode cX6_compareTold 103 = .ok (.goto 7, 3) := by decide +kernel
theorem dX6_compareTold_106 : decode cX6_compareTold 106 = .ok (.iconst 1, 1) := by decide +kernel
theorem dX6_compareTold_107 : decode cX6_compareTold 107 = .ok (.iload 4, 2) := by decide +kernel
theorem dX6_compareTold_109 : decode cX6_compareTold 109 = .ok (.iadd, 1) := by decide +kernel
theorem dX6_compareTold_110 : decode cX6_compareTold 110 = .ok (.ireturn, 1) := by decide +kernel
theorem dX6_stands_0 : decode cX6_stands 0 = .ok (.iload_n 2, 1) := by decide +kernel
theorem dX6_stands_1 : decode cX6_stands 1 = .ok (.ifCond .lt 25, 3) := by decide +kernel
theorem dX6_stands_4 : decode cX6_stands 4 = .ok (.iload_n 2, 1) := by decide +kernel
theorem dX6_stands_5 : decode cX6_stands 5 = .ok (.iload_n 1, 1) := by decide +kernel
theorem dX6_stands_6 : decode cX6_stands 6 = .ok (.if_icmp .ge 20, 3) := by decide +kernel
theorem dX6_stands_9 : decode cX6_stands 9 = .ok (.iload_n 2, 1) := by decide +kernel
theorem dX6_stands_10 : decode cX6_stands 10 = .ok (.aload_n 0, 1) := by decide +kernel
theorem dX6_stands_11 : decode cX6_stands 11 = .ok (.arraylength, 1) := by decide +kernel
theorem dX6_stands_12 : decode cX6_stands 12 = .ok (.if_icmp .ge 14, 3) := by decide +kernel
theorem dX6_stands_15 : decode cX6_stands 15 = .ok (.aload_n 0, 1) := by decide +kernel
theorem dX6_stands_16 : decode cX6_stands 16 = .ok (.iload_n 2, 1) := by decide +kernel
theorem dX6_stands_17 : decode cX6_stands 17 = .ok (.iaload, 1) := by decide +kernel
theorem dX6_stands_18 : decode cX6_stands 18 = .ok (.iload_n 3, 1) := by decide +kernel
theorem dX6_stands_19 : decode cX6_stands 19 = .ok (.if_icmp .ne 7, 3) := by decide +kernel
theorem dX6_stands_22 : decode cX6_stands 22 = .ok (.iconst 1, 1) := by decide +kernel
theorem dX6_stands_23 : decode cX6_stands 23 = .ok (.goto 4, 3) := by decide +kernel
theorem dX6_stands_26 : decode cX6_stands 26 = .ok (.iconst 0, 1) := by decide +kernel
theorem dX6_stands_27 : decode cX6_stands 27 = .ok (.ireturn, 1) := by decide +kernel
theorem dX7_init_0 : decode cX7_init 0 = .ok (.aload_n 0, 1) := by decide +kernel
theorem dX7_init_1 : decode cX7_init 1 = .ok (.invokespecial 3, 3) := by decide +kernel
theorem dX7_init_4 : decode cX7_init 4 = .ok (.aload_n 0, 1) := by decide +kernel
theorem dX7_init_5 : decode cX7_init 5 = .ok (.iconst 0, 1) := by decide +kernel
theorem dX7_init_6 : decode cX7_init 6 = .ok (.putfield 9, 3) := by decide +kernel
theorem dX7_init_9 : decode cX7_init 9 = .ok (.aload_n 0, 1) := by decide +kernel
theorem dX7_init_10 : decode cX7_init 10 = .ok (.iconst 0, 1) := by decide +kernel
theorem dX7_init_11 : decode cX7_init 11 = .ok (.putfield 15, 3) := by decide +kernel
theorem dX7_init_14 : decode cX7_init 14 = .ok (.aload_n 0, 1) := by decide +kernel
theorem dX7_init_15 : decode cX7_init 15 = .ok (.iconst 1, 1) := by decide +kernel
theorem dX7_init_16 : decode cX7_init 16 = .ok (.putfield 18, 3) := by decide +kernel
theorem dX7_init_19 : decode cX7_init 19 = .ok (.aload_n 0, 1) := by decide +kernel
theorem dX7_init_20 : decode cX7_init 20 = .ok (.bipush 6, 2) := by decide +kernel
theorem dX7_init_22 : decode cX7_init 22 = .ok (.anewarray 21, 3) := by decide +kernel
theorem dX7_init_25 : decode cX7_init 25 = .ok (.putfield 23, 3) := by decide +kernel
theorem dX7_init_28 : decode cX7_init 28 = .ok (.aload_n 0, 1) := by decide +kernel
theorem dX7_init_29 : decode cX7_init 29 = .ok (.bipush 14, 2) := by decide +kernel
theorem dX7_init_31 : decode cX7_init 31 = .ok (.anewarray 27, 3) := by decide +kernel
theorem dX7_init_34 : decode cX7_init 34 = .ok (.putfield 29, 3) := by decide +kernel
theorem dX7_init_37 : decode cX7_init 37 = .ok (.aload_n 0, 1) := by decide +kernel
theorem dX7_init_38 : decode cX7_init 38 = .ok (.bipush 96, 2) := by decide +kernel
theorem dX7_init_40 : decode cX7_init 40 = .ok (.newarray .int, 2) := by decide +kernel
theorem dX7_init_42 : decode cX7_init 42 = .ok (.putfield 33, 3) := by decide +kernel
theorem dX7_init_45 : decode cX7_init 45 = .ok (.iconst 0, 1) := by decide +kernel
theorem dX7_init_46 : decode cX7_init 46 = .ok (.istore_n 1, 1) := by decide +kernel
theorem dX7_init_47 : decode cX7_init 47 = .ok (.iload_n 1, 1) := by decide +kernel
theorem dX7_init_48 : decode cX7_init 48 = .ok (.aload_n 0, 1) := by decide +kernel
theorem dX7_init_49 : decode cX7_init 49 = .ok (.getfield 23, 3) := by decide +kernel
theorem dX7_init_52 : decode cX7_init 52 = .ok (.arraylength, 1) := by decide +kernel
theorem dX7_init_53 : decode cX7_init 53 = .ok (.if_icmp .ge 22, 3) := by decide +kernel
theorem dX7_init_56 : decode cX7_init 56 = .ok (.aload_n 0, 1) := by decide +kernel
theorem dX7_init_57 : decode cX7_init 57 = .ok (.getfield 23, 3) := by decide +kernel
theorem dX7_init_60 : decode cX7_init 60 = .ok (.iload_n 1, 1) := by decide +kernel
theorem dX7_init_61 : decode cX7_init 61 = .ok (.new 21, 3) := by decide +kernel
theorem dX7_init_64 : decode cX7_init 64 = .ok (.dup, 1) := by decide +kernel
theorem dX7_init_65 : decode cX7_init 65 = .ok (.invokespecial 37, 3) := by decide +kernel
theorem dX7_init_68 : decode cX7_init 68 = .ok (.aastore, 1) := by decide +kernel
theorem dX7_init_69 : decode cX7_init 69 = .ok (.iinc 1 1, 3) := by decide +kernel
theorem dX7_init_72 : decode cX7_init 72 = .ok (.goto (-25), 3) := by decide +kernel
theorem dX7_init_75 : decode cX7_init 75 = .ok (.return_, 1) := by decide +kernel
theorem dX7_becomes_0 : decode cX7_becomes 0 = .ok (.iconst 0, 1) := by decide +kernel
theorem dX7_becomes_1 : decode cX7_becomes 1 = .ok (.istore_n 2, 1) := by decide +kernel
theorem dX7_becomes_2 : decode cX7_becomes 2 = .ok (.iload_n 2, 1) := by decide +kernel
theorem dX7_becomes_3 : decode cX7_becomes 3 = .ok (.aload_n 0, 1) := by decide +kernel
theorem dX7_becomes_4 : decode cX7_becomes 4 = .ok (.getfield 23, 3) := by decide +kernel
theorem dX7_becomes_7 : decode cX7_becomes 7 = .ok (.arraylength, 1) := by decide +kernel
theorem dX7_becomes_8 : decode cX7_becomes 8 = .ok (.if_icmp .ge 33, 3) := by decide +kernel
theorem dX7_becomes_11 : decode cX7_becomes 11 = .ok (.iload_n 2, 1) := by decide +kernel
theorem dX7_becomes_12 : decode cX7_becomes 12 = .ok (.aload_n 1, 1) := by decide +kernel
theorem dX7_becomes_13 : decode cX7_becomes 13 = .ok (.getfield 23, 3) := by decide +kernel
theorem dX7_becomes_16 : decode cX7_becomes 16 = .ok (.arraylength, 1) := by decide +kernel
theorem dX7_becomes_17 : decode cX7_becomes 17 = .ok (.if_icmp .ge 24, 3) := by decide +kernel
theorem dX7_becomes_20 : decode cX7_becomes 20 = .ok (.aload_n 0, 1) := by decide +kernel
theorem dX7_becomes_21 : decode cX7_becomes 21 = .ok (.getfield 23, 3) := by decide +kernel
theorem dX7_becomes_24 : decode cX7_becomes 24 = .ok (.iload_n 2, 1) := by decide +kernel
theorem dX7_becomes_25 : decode cX7_becomes 25 = .ok (.aaload, 1) := by decide +kernel
theorem dX7_becomes_26 : decode cX7_becomes 26 = .ok (.aload_n 1, 1) := by decide +kernel
theorem dX7_becomes_27 : decode cX7_becomes 27 = .ok (.getfield 23, 3) := by decide +kernel
theorem dX7_becomes_30 : decode cX7_becomes 30 = .ok (.iload_n 2, 1) := by decide +kernel
theorem dX7_becomes_31 : decode cX7_becomes 31 = .ok (.aaload, 1) := by decide +kernel
theorem dX7_becomes_32 : decode cX7_becomes 32 = .ok (.invokevirtual 38, 3) := by decide +kernel
theorem dX7_becomes_35 : decode cX7_becomes 35 = .ok (.iinc 2 1, 3) := by decide +kernel
theorem dX7_becomes_38 : decode cX7_becomes 38 = .ok (.goto (-36), 3) := by decide +kernel
theorem dX7_becomes_41 : decode cX7_becomes 41 = .ok (.iconst 0, 1) := by decide +kernel
theorem dX7_becomes_42 : decode cX7_becomes 42 = .ok (.istore_n 2, 1) := by decide +kernel
theorem dX7_becomes_43 : decode cX7_becomes 43 = .ok (.iload_n 2, 1) := by decide +kernel
theorem dX7_becomes_44 : decode cX7_becomes 44 = .ok (.aload_n 0, 1) := by decide +kernel
theorem dX7_becomes_45 : decode cX7_becomes 45 = .ok (.getfield 29, 3) := by decide +kernel
theorem dX7_becomes_48 : decode cX7_becomes 48 = .ok (.arraylength, 1) := by decide +kernel
theorem dX7_becomes_49 : decode cX7_becomes 49 = .ok (.if_icmp .ge 30, 3) := by decide +kernel
theorem dX7_becomes_52 : decode cX7_becomes 52 = .ok (.iload_n 2, 1) := by decide +kernel
theorem dX7_becomes_53 : decode cX7_becomes 53 = .ok (.aload_n 1, 1) := by decide +kernel
theorem dX7_becomes_54 : decode cX7_becomes 54 = .ok (.getfield 29, 3) := by decide +kernel
theorem dX7_becomes_57 : decode cX7_becomes 57 = .ok (.arraylength, 1) := by decide +kernel
theorem dX7_becomes_58 : decode cX7_becomes 58 = .ok (.if_icmp .ge 21, 3) := by decide +kernel
theorem dX7_becomes_61 : decode cX7_becomes 61 = .ok (.aload_n 0, 1) := by decide +kernel
theorem dX7_becomes_62 : decode cX7_becomes 62 = .ok (.getfield 29, 3) := by decide +kernel
theorem dX7_becomes_65 : decode cX7_becomes 65 = .ok (.iload_n 2, 1) := by decide +kernel
theorem dX7_becomes_66 : decode cX7_becomes 66 = .ok (.aload_n 1, 1) := by decide +kernel
theorem dX7_becomes_67 : decode cX7_becomes 67 = .ok (.getfield 29, 3) := by decide +kernel
theorem dX7_becomes_70 : decode cX7_becomes 70 = .ok (.iload_n 2, 1) := by decide +kernel
theorem dX7_becomes_71 : decode cX7_becomes 71 = .ok (.aaload, 1) := by decide +kernel
theorem dX7_becomes_72 : decode cX7_becomes 72 = .ok (.aastore, 1) := by decide +kernel
theorem dX7_becomes_73 : decode cX7_becomes 73 = .ok (.iinc 2 1, 3) := by decide +kernel
theorem dX7_becomes_76 : decode cX7_becomes 76 = .ok (.goto (-33), 3) := by decide +kernel
theorem dX7_becomes_79 : decode cX7_becomes 79 = .ok (.aload_n 0, 1) := by decide +kernel
theorem dX7_becomes_80 : decode cX7_becomes 80 = .ok (.aload_n 1, 1) := by decide +kernel
theorem dX7_becomes_81 : decode cX7_becomes 81 = .ok (.getfield 9, 3) := by decide +kernel
theorem dX7_becomes_84 : decode cX7_becomes 84 = .ok (.putfield 9, 3) := by decide +kernel
theorem dX7_becomes_87 : decode cX7_becomes 87 = .ok (.aload_n 0, 1) := by decide +kernel
theorem dX7_becomes_88 : decode cX7_becomes 88 = .ok (.aload_n 1, 1) := by decide +kernel
theorem dX7_becomes_89 : decode cX7_becomes 89 = .ok (.getfield 15, 3) := by decide +kernel
theorem dX7_becomes_92 : decode cX7_becomes 92 = .ok (.putfield 15, 3) := by decide +kernel
theorem dX7_becomes_95 : decode cX7_becomes 95 = .ok (.aload_n 0, 1) := by decide +kernel
theorem dX7_becomes_96 : decode cX7_becomes 96 = .ok (.aload_n 1, 1) := by decide +kernel
theorem dX7_becomes_97 : decode cX7_becomes 97 = .ok (.getfield 18, 3) := by decide +kernel
theorem dX7_becomes_100 : decode cX7_becomes 100 = .ok (.putfield 18, 3) := by decide +kernel
theorem dX7_becomes_103 : decode cX7_becomes 103 = .ok (.return_, 1) := by decide +kernel
theorem dX7_curveOf_0 : decode cX7_curveOf 0 = .ok (.iload_n 1, 1) := by decide +kernel
theorem dX7_curveOf_1 : decode cX7_curveOf 1 = .ok (.ifCond .lt 20, 3) := by decide +kernel
theorem dX7_curveOf_4 : decode cX7_curveOf 4 = .ok (.iload_n 1, 1) := by decide +kernel
theorem dX7_curveOf_5 : decode cX7_curveOf 5 = .ok (.aload_n 0, 1) := by decide +kernel
theorem dX7_curveOf_6 : decode cX7_curveOf 6 = .ok (.getfield 9, 3) := by decide +kernel
theorem dX7_curveOf_9 : decode cX7_curveOf 9 = .ok (.if_icmp .ge 12, 3) := by decide +kernel
theorem dX7_curveOf_12 : decode cX7_curveOf 12 = .ok (.iload_n 1, 1) := by decide +kernel
theorem dX7_curveOf_13 : decode cX7_curveOf 13 = .ok (.aload_n 0, 1) := by decide +kernel
theorem dX7_curveOf_14 : decode cX7_curveOf 14 = .ok (.getfield 23, 3) := by decide +kernel
theorem dX7_curveOf_17 : decode cX7_curveOf 17 = .ok (.arraylength, 1) := by decide +kernel
theorem dX7_curveOf_18 : decode cX7_curveOf 18 = .ok (.if_icmp .lt 7, 3) := by decide +kernel
theorem dX7_curveOf_21 : decode cX7_curveOf 21 = .ok (.aconst_null, 1) := by decide +kernel
theorem dX7_curveOf_22 : decode cX7_curveOf 22 = .ok (.goto 9, 3) := by decide +kernel
theorem dX7_curveOf_25 : decode cX7_curveOf 25 = .ok (.aload_n 0, 1) := by decide +kernel
theorem dX7_curveOf_26 : decode cX7_curveOf 26 = .ok (.getfield 23, 3) := by decide +kernel
theorem dX7_curveOf_29 : decode cX7_curveOf 29 = .ok (.iload_n 1, 1) := by decide +kernel
theorem dX7_curveOf_30 : decode cX7_curveOf 30 = .ok (.aaload, 1) := by decide +kernel
theorem dX7_curveOf_31 : decode cX7_curveOf 31 = .ok (.areturn, 1) := by decide +kernel
theorem dX7_addCurve_0 : decode cX7_addCurve 0 = .ok (.aload_n 0, 1) := by decide +kernel
theorem dX7_addCurve_1 : decode cX7_addCurve 1 = .ok (.getfield 9, 3) := by decide +kernel
theorem dX7_addCurve_4 : decode cX7_addCurve 4 = .ok (.ifCond .lt 15, 3) := by decide +kernel
theorem dX7_addCurve_7 : decode cX7_addCurve 7 = .ok (.aload_n 0, 1) := by decide +kernel
theorem dX7_addCurve_8 : decode cX7_addCurve 8 = .ok (.getfield 9, 3) := by decide +kernel
theorem dX7_addCurve_11 : decode cX7_addCurve 11 = .ok (.aload_n 0, 1) := by decide +kernel
theorem dX7_addCurve_12 : decode cX7_addCurve 12 = .ok (.getfield 23, 3) := by decide +kernel
theorem dX7_addCurve_15 : decode cX7_addCurve 15 = .ok (.arraylength, 1) := by decide +kernel
theorem dX7_addCurve_16 : decode cX7_addCurve 16 = .ok (.if_icmp .lt 5, 3) := by decide +kernel
theorem dX7_addCurve_19 : decode cX7_addCurve 19 = .ok (.aconst_null, 1) := by decide +kernel
theorem dX7_addCurve_20 : decode cX7_addCurve 20 = .ok (.areturn, 1) := by decide +kernel
theorem dX7_addCurve_21 : decode cX7_addCurve 21 = .ok (.aload_n 0, 1) := by decide +kernel
theorem dX7_addCurve_22 : decode cX7_addCurve 22 = .ok (.getfield 23, 3) := by decide +kernel
theorem dX7_addCurve_25 : decode cX7_addCurve 25 = .ok (.aload_n 0, 1) := by decide +kernel
theorem dX7_addCurve_26 : decode cX7_addCurve 26 = .ok (.getfield 9, 3) := by decide +kernel
theorem dX7_addCurve_29 : decode cX7_addCurve 29 = .ok (.aaload, 1) := by decide +kernel
theorem dX7_addCurve_30 : decode cX7_addCurve 30 = .ok (.astore_n 2, 1) := by decide +kernel
theorem dX7_addCurve_31 : decode cX7_addCurve 31 = .ok (.aload_n 2, 1) := by decide +kernel
theorem dX7_addCurve_32 : decode cX7_addCurve 32 = .ok (.iload_n 1, 1) := by decide +kernel
theorem dX7_addCurve_33 : decode cX7_addCurve 33 = .ok (.invokevirtual 42, 3) := by decide +kernel
theorem dX7_addCurve_36 : decode cX7_addCurve 36 = .ok (.aload_n 0, 1) := by decide +kernel
theorem dX7_addCurve_37 : decode cX7_addCurve 37 = .ok (.dup, 1) := by decide +kernel
theorem dX7_addCurve_38 : decode cX7_addCurve 38 = .ok (.getfield 9, 3) := by decide +kernel
theorem dX7_addCurve_41 : decode cX7_addCurve 41 = .ok (.iconst 1, 1) := by decide +kernel
theorem dX7_addCurve_42 : decode cX7_addCurve 42 = .ok (.iadd, 1) := by decide +kernel
theorem dX7_addCurve_43 : decode cX7_addCurve 43 = .ok (.putfield 9, 3) := by decide +kernel
theorem dX7_addCurve_46 : decode cX7_addCurve 46 = .ok (.aload_n 2, 1) := by decide +kernel
theorem dX7_addCurve_47 : decode cX7_addCurve 47 = .ok (.areturn, 1) := by decide +kernel
theorem dX7_drawNumbers_0 : decode cX7_drawNumbers 0 = .ok (.iconst 0, 1) := by decide +kernel
theorem dX7_drawNumbers_1 : decode cX7_drawNumbers 1 = .ok (.istore_n 2, 1) := by decide +kernel
theorem dX7_drawNumbers_2 : decode cX7_drawNumbers 2 = .ok (.iload_n 2, 1) := by decide +kernel
theorem dX7_drawNumbers_3 : decode cX7_drawNumbers 3 = .ok (.bipush 15, 2) := by decide +kernel
theorem dX7_drawNumbers_5 : decode cX7_drawNumbers 5 = .ok (.if_icmp .ge 41, 3) := by decide +kernel
theorem dX7_drawNumbers_8 : decode cX7_drawNumbers 8 = .ok (.aload_n 0, 1) := by decide +kernel
theorem dX7_drawNumbers_9 : decode cX7_drawNumbers 9 = .ok (.aload_n 0, 1) := by decide +kernel
theorem dX7_drawNumbers_10 : decode cX7_drawNumbers 10 = .ok (.getfield 18, 3) := by decide +kernel
theorem dX7_drawNumbers_13 : decode cX7_drawNumbers 13 = .ok (.ldc 46, 2) := by decide +kernel
theorem dX7_drawNumbers_15 : decode cX7_drawNumbers 15 = .ok (.imul, 1) := by decide +kernel
theorem dX7_drawNumbers_16 : decode cX7_drawNumbers 16 = .ok (.sipush 12345, 3) := by decide +kernel
theorem dX7_drawNumbers_19 : decode cX7_drawNumbers 19 = .ok (.iadd, 1) := by decide +kernel
theorem dX7_drawNumbers_20 : decode cX7_drawNumbers 20 = .ok (.putfield 18, 3) := by decide +kernel
theorem dX7_drawNumbers_23 : decode cX7_drawNumbers 23 = .ok (.aload_n 1, 1) := by decide +kernel
theorem dX7_drawNumbers_24 : decode cX7_drawNumbers 24 = .ok (.iload_n 2, 1) := by decide +kernel
theorem dX7_drawNumbers_25 : decode cX7_drawNumbers 25 = .ok (.aload_n 0, 1) := by decide +kernel
theorem dX7_drawNumbers_26 : decode cX7_drawNumbers 26 = .ok (.getfield 18, 3) := by decide +kernel
theorem dX7_drawNumbers_29 : decode cX7_drawNumbers 29 = .ok (.bipush 8, 2) := by decide +kernel
theorem dX7_drawNumbers_31 : decode cX7_drawNumbers 31 = .ok (.iushr, 1) := by decide +kernel
theorem dX7_drawNumbers_32 : decode cX7_drawNumbers 32 = .ok (.bipush 7, 2) := by decide +kernel
theorem dX7_drawNumbers_34 : decode cX7_drawNumbers 34 = .ok (.irem, 1) := by decide +kernel
theorem dX7_drawNumbers_35 : decode cX7_drawNumbers 35 = .ok (.iconst 3, 1) := by decide +kernel
theorem dX7_drawNumbers_36 : decode cX7_drawNumbers 36 = .ok (.isub, 1) := by decide +kernel
theorem dX7_drawNumbers_37 : decode cX7_drawNumbers 37 = .ok (.invokevirtual 47, 3) := by decide +kernel
theorem dX7_drawNumbers_40 : decode cX7_drawNumbers 40 = .ok (.iinc 2 1, 3) := by decide +kernel
theorem dX7_drawNumbers_43 : decode cX7_drawNumbers 43 = .ok (.goto (-41), 3) := by decide +kernel
theorem dX7_drawNumbers_46 : decode cX7_drawNumbers 46 = .ok (.return_, 1) := by decide +kernel
theorem dX7_lawAt_0 : decode cX7_lawAt 0 = .ok (.iload_n 1, 1) := by decide +kernel
theorem dX7_lawAt_1 : decode cX7_lawAt 1 = .ok (.ifCond .lt 20, 3) := by decide +kernel
theorem dX7_lawAt_4 : decode cX7_lawAt 4 = .ok (.iload_n 1, 1) := by decide +kernel
theorem dX7_lawAt_5 : decode cX7_lawAt 5 = .ok (.aload_n 0, 1) := by decide +kernel
theorem dX7_lawAt_6 : decode cX7_lawAt 6 = .ok (.getfield 15, 3) := by decide +kernel
theorem dX7_lawAt_9 : decode cX7_lawAt 9 = .ok (.if_icmp .ge 12, 3) := by decide +kernel
theorem dX7_lawAt_12 : decode cX7_lawAt 12 = .ok (.iload_n 1, 1) := by decide +kernel
theorem dX7_lawAt_13 : decode cX7_lawAt 13 = .ok (.aload_n 0, 1) := by decide +kernel
theorem dX7_lawAt_14 : decode cX7_lawAt 14 = .ok (.getfield 29, 3) := by decide +kernel
theorem dX7_lawAt_17 : decode cX7_lawAt 17 = .ok (.arraylength, 1) := by decide +kernel
theorem dX7_lawAt_18 : decode cX7_lawAt 18 = .ok (.if_icmp .lt 7, 3) := by decide +kernel
theorem dX7_lawAt_21 : decode cX7_lawAt 21 = .ok (.aconst_null, 1) := by decide +kernel
theorem dX7_lawAt_22 : decode cX7_lawAt 22 = .ok (.goto 9, 3) := by decide +kernel
theorem dX7_lawAt_25 : decode cX7_lawAt 25 = .ok (.aload_n 0, 1) := by decide +kernel
theorem dX7_lawAt_26 : decode cX7_lawAt 26 = .ok (.getfield 29, 3) := by decide +kernel
theorem dX7_lawAt_29 : decode cX7_lawAt 29 = .ok (.iload_n 1, 1) := by decide +kernel
theorem dX7_lawAt_30 : decode cX7_lawAt 30 = .ok (.aaload, 1) := by decide +kernel
theorem dX7_lawAt_31 : decode cX7_lawAt 31 = .ok (.areturn, 1) := by decide +kernel
theorem dX7_lastLawOf_0 : decode cX7_lastLawOf 0 = .ok (.aload_n 0, 1) := by decide +kernel
theorem dX7_lastLawOf_1 : decode cX7_lastLawOf 1 = .ok (.getfield 15, 3) := by decide +kernel
theorem dX7_lastLawOf_4 : decode cX7_lastLawOf 4 = .ok (.iconst 1, 1) := by decide +kernel
theorem dX7_lastLawOf_5 : decode cX7_lastLawOf 5 = .ok (.isub, 1) := by decide +kernel
theorem dX7_lastLawOf_6 : decode cX7_lastLawOf 6 = .ok (.istore_n 2, 1) := by decide +kernel
theorem dX7_lastLawOf_7 : decode cX7_lastLawOf 7 = .ok (.iload_n 2, 1) := by decide +kernel
theorem dX7_lastLawOf_8 : decode cX7_lastLawOf 8 = .ok (.ifCond .lt 29, 3) := by decide +kernel
theorem dX7_lastLawOf_11 : decode cX7_lastLawOf 11 = .ok (.aload_n 0, 1) := by decide +kernel
theorem dX7_lastLawOf_12 : decode cX7_lastLawOf 12 = .ok (.iload_n 2, 1) := by decide +kernel
theorem dX7_lastLawOf_13 : decode cX7_lastLawOf 13 = .ok (.invokevirtual 51, 3) := by decide +kernel
theorem dX7_lastLawOf_16 : decode cX7_lastLawOf 16 = .ok (.astore_n 3, 1) := by decide +kernel
theorem dX7_lastLawOf_17 : decode cX7_lastLawOf 17 = .ok (.aload_n 3, 1) := by decide +kernel
theorem dX7_lastLawOf_18 : decode cX7_lastLawOf 18 = .ok (.ifnull 13, 3) := by decide +kernel
theorem dX7_lastLawOf_21 : decode cX7_lastLawOf 21 = .ok (.aload_n 3, 1) := by decide +kernel
theorem dX7_lastLawOf_22 : decode cX7_lastLawOf 22 = .ok (.getfield 55, 3) := by decide +kernel
theorem dX7_lastLawOf_25 : decode cX7_lastLawOf 25 = .ok (.iload_n 1, 1) := by decide +kernel
theorem dX7_lastLawOf_26 : decode cX7_lastLawOf 26 = .ok (.if_icmp .ne 5, 3) := by decide +kernel
theorem dX7_lastLawOf_29 : decode cX7_lastLawOf 29 = .ok (.iload_n 2, 1) := by decide +kernel
theorem dX7_lastLawOf_30 : decode cX7_lastLawOf 30 = .ok (.ireturn, 1) := by decide +kernel
theorem dX7_lastLawOf_31 : decode cX7_lastLawOf 31 = .ok (.iinc 2 (-1), 3) := by decide +kernel
theorem dX7_lastLawOf_34 : decode cX7_lastLawOf 34 = .ok (.goto (-27), 3) := by decide +kernel
theorem dX7_lastLawOf_37 : decode cX7_lastLawOf 37 = .ok (.iconst (-1), 1) := by decide +kernel
theorem dX7_lastLawOf_38 : decode cX7_lastLawOf 38 = .ok (.ireturn, 1) := by decide +kernel
theorem dX7_addLaw_0 : decode cX7_addLaw 0 = .ok (.aload_n 0, 1) := by decide +kernel
theorem dX7_addLaw_1 : decode cX7_addLaw 1 = .ok (.getfield 15, 3) := by decide +kernel
theorem dX7_addLaw_4 : decode cX7_addLaw 4 = .ok (.ifCond .lt 15, 3) := by decide +kernel
theorem dX7_addLaw_7 : decode cX7_addLaw 7 = .ok (.aload_n 0, 1) := by decide +kernel
theorem dX7_addLaw_8 : decode cX7_addLaw 8 = .ok (.getfield 15, 3) := by decide +kernel
theorem dX7_addLaw_11 : decode cX7_addLaw 11 = .ok (.aload_n 0, 1) := by decide +kernel
theorem dX7_addLaw_12 : decode cX7_addLaw 12 = .ok (.getfield 29, 3) := by decide +kernel
theorem dX7_addLaw_15 : decode cX7_addLaw 15 = .ok (.arraylength, 1) := by decide +kernel
theorem dX7_addLaw_16 : decode cX7_addLaw 16 = .ok (.if_icmp .lt 6, 3) := by decide +kernel
theorem dX7_addLaw_19 : decode cX7_addLaw 19 = .ok (.ldc 58, 2) := by decide +kernel
theorem dX7_addLaw_21 : decode cX7_addLaw 21 = .ok (.ireturn, 1) := by decide +kernel
theorem dX7_addLaw_22 : decode cX7_addLaw 22 = .ok (.aload_n 0, 1) := by decide +kernel
theorem dX7_addLaw_23 : decode cX7_addLaw 23 = .ok (.getfield 29, 3) := by decide +kernel
theorem dX7_addLaw_26 : decode cX7_addLaw 26 = .ok (.aload_n 0, 1) := by decide +kernel
theorem dX7_addLaw_27 : decode cX7_addLaw 27 = .ok (.getfield 15, 3) := by decide +kernel
theorem dX7_addLaw_30 : decode cX7_addLaw 30 = .ok (.aload_n 1, 1) := by decide +kernel
theorem dX7_addLaw_31 : decode cX7_addLaw 31 = .ok (.aastore, 1) := by decide +kernel
theorem dX7_addLaw_32 : decode cX7_addLaw 32 = .ok (.aload_n 0, 1) := by decide +kernel
theorem dX7_addLaw_33 : decode cX7_addLaw 33 = .ok (.dup, 1) := by decide +kernel
theorem dX7_addLaw_34 : decode cX7_addLaw 34 = .ok (.getfield 15, 3) := by decide +kernel
theorem dX7_addLaw_37 : decode cX7_addLaw 37 = .ok (.iconst 1, 1) := by decide +kernel
theorem dX7_addLaw_38 : decode cX7_addLaw 38 = .ok (.iadd, 1) := by decide +kernel
theorem dX7_addLaw_39 : decode cX7_addLaw 39 = .ok (.putfield 15, 3) := by decide +kernel
theorem dX7_addLaw_42 : decode cX7_addLaw 42 = .ok (.aload_n 0, 1) := by decide +kernel
theorem dX7_addLaw_43 : decode cX7_addLaw 43 = .ok (.getfield 15, 3) := by decide +kernel
theorem dX7_addLaw_46 : decode cX7_addLaw 46 = .ok (.iconst 1, 1) := by decide +kernel
theorem dX7_addLaw_47 : decode cX7_addLaw 47 = .ok (.isub, 1) := by decide +kernel
theorem dX7_addLaw_48 : decode cX7_addLaw 48 = .ok (.ireturn, 1) := by decide +kernel
theorem dX7_lawGives_0 : decode cX7_lawGives 0 = .ok (.aload_n 0, 1) := by decide +kernel
theorem dX7_lawGives_1 : decode cX7_lawGives 1 = .ok (.aload_n 0, 1) := by decide +kernel
theorem dX7_lawGives_2 : decode cX7_lawGives 2 = .ok (.iload_n 1, 1) := by decide +kernel
theorem dX7_lawGives_3 : decode cX7_lawGives 3 = .ok (.invokevirtual 59, 3) := by decide +kernel
theorem dX7_lawGives_6 : decode cX7_lawGives 6 = .ok (.invokevirtual 51, 3) := by decide +kernel
theorem dX7_lawGives_9 : decode cX7_lawGives 9 = .ok (.astore 6, 2) := by decide +kernel
theorem dX7_lawGives_11 : decode cX7_lawGives 11 = .ok (.aload 6, 2) := by decide +kernel
theorem dX7_lawGives_13 : decode cX7_lawGives 13 = .ok (.ifnonnull 8, 3) := by decide +kernel
theorem dX7_lawGives_16 : decode cX7_lawGives 16 = .ok (.iload 5, 2) := by decide +kernel
theorem dX7_lawGives_18 : decode cX7_lawGives 18 = .ok (.goto 16, 3) := by decide +kernel
theorem dX7_lawGives_21 : decode cX7_lawGives 21 = .ok (.aload 6, 2) := by decide +kernel
theorem dX7_lawGives_23 : decode cX7_lawGives 23 = .ok (.iload_n 2, 1) := by decide +kernel
theorem dX7_lawGives_24 : decode cX7_lawGives 24 = .ok (.iload_n 3, 1) := by decide +kernel
theorem dX7_lawGives_25 : decode cX7_lawGives 25 = .ok (.iload 4, 2) := by decide +kernel
theorem dX7_lawGives_27 : decode cX7_lawGives 27 = .ok (.aload_n 0, 1) := by decide +kernel
theorem dX7_lawGives_28 : decode cX7_lawGives 28 = .ok (.getfield 33, 3) := by decide +kernel
theorem dX7_lawGives_31 : decode cX7_lawGives 31 = .ok (.invokevirtual 63, 3) := by decide +kernel
theorem dX7_lawGives_34 : decode cX7_lawGives 34 = .ok (.ireturn, 1) := by decide +kernel
theorem dX7_termAt_0 : decode cX7_termAt 0 = .ok (.aload_n 1, 1) := by decide +kernel
theorem dX7_termAt_1 : decode cX7_termAt 1 = .ok (.iconst 1, 1) := by decide +kernel
theorem dX7_termAt_2 : decode cX7_termAt 2 = .ok (.invokevirtual 67, 3) := by decide +kernel
theorem dX7_termAt_5 : decode cX7_termAt 5 = .ok (.istore 4, 2) := by decide +kernel
theorem dX7_termAt_7 : decode cX7_termAt 7 = .ok (.iload 4, 2) := by decide +kernel
theorem dX7_termAt_9 : decode cX7_termAt 9 = .ok (.ifCond .eq 7, 3) := by decide +kernel
theorem dX7_termAt_12 : decode cX7_termAt 12 = .ok (.iload_n 3, 1) := by decide +kernel
theorem dX7_termAt_13 : decode cX7_termAt 13 = .ok (.goto 4, 3) := by decide +kernel
theorem dX7_termAt_16 : decode cX7_termAt 16 = .ok (.iload_n 2, 1) := by decide +kernel
theorem dX7_termAt_17 : decode cX7_termAt 17 = .ok (.istore 5, 2) := by decide +kernel
theorem dX7_termAt_19 : decode cX7_termAt 19 = .ok (.iload 4, 2) := by decide +kernel
theorem dX7_termAt_21 : decode cX7_termAt 21 = .ok (.ifCond .eq 7, 3) := by decide +kernel
theorem dX7_termAt_24 : decode cX7_termAt 24 = .ok (.iload_n 2, 1) := by decide +kernel
theorem dX7_termAt_25 : decode cX7_termAt 25 = .ok (.goto 4, 3) := by decide +kernel
theorem dX7_termAt_28 : decode cX7_termAt 28 = .ok (.iload_n 3, 1) := by decide +kernel
theorem dX7_termAt_29 : decode cX7_termAt 29 = .ok (.istore 6, 2) := by decide +kernel
theorem dX7_termAt_31 : decode cX7_termAt 31 = .ok (.aload_n 1, 1) := by decide +kernel
theorem dX7_termAt_32 : decode cX7_termAt 32 = .ok (.iload_n 2, 1) := by decide +kernel
theorem dX7_termAt_33 : decode cX7_termAt 33 = .ok (.iload_n 3, 1) := by decide +kernel
theorem dX7_termAt_34 : decode cX7_termAt 34 = .ok (.invokevirtual 71, 3) := by decide +kernel
theorem dX7_termAt_37 : decode cX7_termAt 37 = .ok (.aload_n 0, 1) := by decide +kernel
theorem dX7_termAt_38 : decode cX7_termAt 38 = .ok (.iconst 0, 1) := by decide +kernel
theorem dX7_termAt_39 : decode cX7_termAt 39 = .ok (.iload 5, 2) := by decide +kernel
theorem dX7_termAt_41 : decode cX7_termAt 41 = .ok (.iload 6, 2) := by decide +kernel
theorem dX7_termAt_43 : decode cX7_termAt 43 = .ok (.aload_n 1, 1) := by decide +kernel
theorem dX7_termAt_44 : decode cX7_termAt 44 = .ok (.iload 5, 2) := by decide +kernel
theorem dX7_termAt_46 : decode cX7_termAt 46 = .ok (.iload 6, 2) := by decide +kernel
theorem dX7_termAt_48 : decode cX7_termAt 48 = .ok (.invokevirtual 75, 3) := by decide +kernel
theorem dX7_termAt_51 : decode cX7_termAt 51 = .ok (.aload_n 1, 1) := by decide +kernel
theorem dX7_termAt_52 : decode cX7_termAt 52 = .ok (.iload 5, 2) := by decide +kernel
theorem dX7_termAt_54 : decode cX7_termAt 54 = .ok (.iload 6, 2) := by decide +kernel
theorem dX7_termAt_56 : decode cX7_termAt 56 = .ok (.invokevirtual 75, 3) := by decide +kernel
theorem dX7_termAt_59 : decode cX7_termAt 59 = .ok (.invokevirtual 78, 3) := by decide +kernel
theorem dX7_termAt_62 : decode cX7_termAt 62 = .ok (.invokestatic 82, 3) := by decide +kernel
theorem dX7_termAt_65 : decode cX7_termAt 65 = .ok (.imul, 1) := by decide +kernel
theorem dX7_termAt_66 : decode cX7_termAt 66 = .ok (.ireturn, 1) := by decide +kernel
theorem dX8_init_0 : decode cX8_init 0 = .ok (.aload_n 0, 1) := by decide +kernel
theorem dX8_init_1 : decode cX8_init 1 = .ok (.invokespecial 1, 3) := by decide +kernel
theorem dX8_init_4 : decode cX8_init 4 = .ok (.aload_n 0, 1) := by decide +kernel
theorem dX8_init_5 : decode cX8_init 5 = .ok (.new 7, 3) := by decide +kernel
theorem dX8_init_8 : decode cX8_init 8 = .ok (.dup, 1) := by decide +kernel
theorem dX8_init_9 : decode cX8_init 9 = .ok (.invokespecial 9, 3) := by decide +kernel
theorem dX8_init_12 : decode cX8_init 12 = .ok (.putfield 10, 3) := by decide +kernel
theorem dX8_init_15 : decode cX8_init 15 = .ok (.aload_n 0, 1) := by decide +kernel
theorem dX8_init_16 : decode cX8_init 16 = .ok (.new 7, 3) := by decide +kernel
theorem dX8_init_19 : decode cX8_init 19 = .ok (.dup, 1) := by decide +kernel
theorem dX8_init_20 : decode cX8_init 20 = .ok (.invokespecial 9, 3) := by decide +kernel
theorem dX8_init_23 : decode cX8_init 23 = .ok (.putfield 16, 3) := by decide +kernel
theorem dX8_init_26 : decode cX8_init 26 = .ok (.aload_n 0, 1) := by decide +kernel
theorem dX8_init_27 : decode cX8_init 27 = .ok (.new 19, 3) := by decide +kernel
theorem dX8_init_30 : decode cX8_init 30 = .ok (.dup, 1) := by decide +kernel
theorem dX8_init_31 : decode cX8_init 31 = .ok (.aload_n 0, 1) := by decide +kernel
theorem dX8_init_32 : decode cX8_init 32 = .ok (.getfield 10, 3) := by decide +kernel
theorem dX8_init_35 : decode cX8_init 35 = .ok (.invokespecial 21, 3) := by decide +kernel
theorem dX8_init_38 : decode cX8_init 38 = .ok (.putfield 24, 3) := by decide +kernel
theorem dX8_init_41 : decode cX8_init 41 = .ok (.aload_n 0, 1) := by decide +kernel
theorem dX8_init_42 : decode cX8_init 42 = .ok (.new 19, 3) := by decide +kernel
theorem dX8_init_45 : decode cX8_init 45 = .ok (.dup, 1) := by decide +kernel
theorem dX8_init_46 : decode cX8_init 46 = .ok (.aload_n 0, 1) := by decide +kernel
theorem dX8_init_47 : decode cX8_init 47 = .ok (.getfield 16, 3) := by decide +kernel
theorem dX8_init_50 : decode cX8_init 50 = .ok (.invokespecial 21, 3) := by decide +kernel
theorem dX8_init_53 : decode cX8_init 53 = .ok (.putfield 28, 3) := by decide +kernel
theorem dX8_init_56 : decode cX8_init 56 = .ok (.aload_n 0, 1) := by decide +kernel
theorem dX8_init_57 : decode cX8_init 57 = .ok (.new 31, 3) := by decide +kernel
theorem dX8_init_60 : decode cX8_init 60 = .ok (.dup, 1) := by decide +kernel
theorem dX8_init_61 : decode cX8_init 61 = .ok (.invokespecial 33, 3) := by decide +kernel
theorem dX8_init_64 : decode cX8_init 64 = .ok (.putfield 34, 3) := by decide +kernel
theorem dX8_init_67 : decode cX8_init 67 = .ok (.aload_n 0, 1) := by decide +kernel
theorem dX8_init_68 : decode cX8_init 68 = .ok (.iconst 4, 1) := by decide +kernel
theorem dX8_init_69 : decode cX8_init 69 = .ok (.anewarray 38, 3) := by decide +kernel
theorem dX8_init_72 : decode cX8_init 72 = .ok (.putfield 40, 3) := by decide +kernel
theorem dX8_init_75 : decode cX8_init 75 = .ok (.aload_n 0, 1) := by decide +kernel
theorem dX8_init_76 : decode cX8_init 76 = .ok (.iconst 5, 1) := by decide +kernel
theorem dX8_init_77 : decode cX8_init 77 = .ok (.anewarray 44, 3) := by decide +kernel
theorem dX8_init_80 : decode cX8_init 80 = .ok (.putfield 46, 3) := by decide +kernel
theorem dX8_init_83 : decode cX8_init 83 = .ok (.aload_n 0, 1) := by decide +kernel
theorem dX8_init_84 : decode cX8_init 84 = .ok (.bipush 60, 2) := by decide +kernel
theorem dX8_init_86 : decode cX8_init 86 = .ok (.newarray .int, 2) := by decide +kernel
theorem dX8_init_88 : decode cX8_init 88 = .ok (.putfield 50, 3) := by decide +kernel
theorem dX8_init_91 : decode cX8_init 91 = .ok (.aload_n 0, 1) := by decide +kernel
theorem dX8_init_92 : decode cX8_init 92 = .ok (.iconst 0, 1) := by decide +kernel
theorem dX8_init_93 : decode cX8_init 93 = .ok (.putfield 54, 3) := by decide +kernel
theorem dX8_init_96 : decode cX8_init 96 = .ok (.aload_n 0, 1) := by decide +kernel
theorem dX8_init_97 : decode cX8_init 97 = .ok (.iconst 0, 1) := by decide +kernel
theorem dX8_init_98 : decode cX8_init 98 = .ok (.putfield 58, 3) := by decide +kernel
theorem dX8_init_101 : decode cX8_init 101 = .ok (.iconst 0, 1) := by decide +kernel
theorem dX8_init_102 : decode cX8_init 102 = .ok (.istore_n 1, 1) := by decide +kernel
theorem dX8_init_103 : decode cX8_init 103 = .ok (.iload_n 1, 1) := by decide +kernel
theorem dX8_init_104 : decode cX8_init 104 = .ok (.aload_n 0, 1) := by decide +kernel
theorem dX8_init_105 : decode cX8_init 105 = .ok (.getfield 40, 3) := by decide +kernel
theorem dX8_init_108 : decode cX8_init 108 = .ok (.arraylength, 1) := by decide +kernel
theorem dX8_init_109 : decode cX8_init 109 = .ok (.if_icmp .ge 22, 3) := by decide +kernel
theorem dX8_init_112 : decode cX8_init 112 = .ok (.aload_n 0, 1) := by decide +kernel
theorem dX8_init_113 : decode cX8_init 113 = .ok (.getfield 40, 3) := by decide +kernel
theorem dX8_init_116 : decode cX8_init 116 = .ok (.iload_n 1, 1) := by decide +kernel
theorem dX8_init_117 : decode cX8_init 117 = .ok (.new 38, 3) := by decide +kernel
theorem dX8_init_120 : decode cX8_init 120 = .ok (.dup, 1) := by decide +kernel
theorem dX8_init_121 : decode cX8_init 121 = .ok (.invokespecial 62, 3) := by decide +kernel
theorem dX8_init_124 : decode cX8_init 124 = .ok (.aastore, 1) := by decide +kernel
theorem dX8_init_125 : decode cX8_init 125 = .ok (.iinc 1 1, 3) := by decide +kernel
theorem dX8_init_128 : decode cX8_init 128 = .ok (.goto (-25), 3) := by decide +kernel
theorem dX8_init_131 : decode cX8_init 131 = .ok (.iconst 0, 1) := by decide +kernel
theorem dX8_init_132 : decode cX8_init 132 = .ok (.istore_n 1, 1) := by decide +kernel
theorem dX8_init_133 : decode cX8_init 133 = .ok (.iload_n 1, 1) := by decide +kernel
theorem dX8_init_134 : decode cX8_init 134 = .ok (.aload_n 0, 1) := by decide +kernel
theorem dX8_init_135 : decode cX8_init 135 = .ok (.getfield 46, 3) := by decide +kernel
theorem dX8_init_138 : decode cX8_init 138 = .ok (.arraylength, 1) := by decide +kernel
theorem dX8_init_139 : decode cX8_init 139 = .ok (.if_icmp .ge 22, 3) := by decide +kernel
theorem dX8_init_142 : decode cX8_init 142 = .ok (.aload_n 0, 1) := by decide +kernel
theorem dX8_init_143 : decode cX8_init 143 = .ok (.getfield 46, 3) := by decide +kernel
theorem dX8_init_146 : decode cX8_init 146 = .ok (.iload_n 1, 1) := by decide +kernel
theorem dX8_init_147 : decode cX8_init 147 = .ok (.new 44, 3) := by decide +kernel
theorem dX8_init_150 : decode cX8_init 150 = .ok (.dup, 1) := by decide +kernel
theorem dX8_init_151 : decode cX8_init 151 = .ok (.invokespecial 63, 3) := by decide +kernel
theorem dX8_init_154 : decode cX8_init 154 = .ok (.aastore, 1) := by decide +kernel
theorem dX8_init_155 : decode cX8_init 155 = .ok (.iinc 1 1, 3) := by decide +kernel
theorem dX8_init_158 : decode cX8_init 158 = .ok (.goto (-25), 3) := by decide +kernel
theorem dX8_init_161 : decode cX8_init 161 = .ok (.return_, 1) := by decide +kernel
theorem dX8_curve_0 : decode cX8_curve 0 = .ok (.iload_n 1, 1) := by decide +kernel
theorem dX8_curve_1 : decode cX8_curve 1 = .ok (.invokestatic 64, 3) := by decide +kernel
theorem dX8_curve_4 : decode cX8_curve 4 = .ok (.ifCond .ne 6, 3) := by decide +kernel
theorem dX8_curve_7 : decode cX8_curve 7 = .ok (.ldc 68, 2) := by decide +kernel
theorem dX8_curve_9 : decode cX8_curve 9 = .ok (.ireturn, 1) := by decide +kernel
theorem dX8_curve_10 : decode cX8_curve 10 = .ok (.aload_n 0, 1) := by decide +kernel
theorem dX8_curve_11 : decode cX8_curve 11 = .ok (.getfield 10, 3) := by decide +kernel
theorem dX8_curve_14 : decode cX8_curve 14 = .ok (.iload_n 1, 1) := by decide +kernel
theorem dX8_curve_15 : decode cX8_curve 15 = .ok (.invokevirtual 69, 3) := by decide +kernel
theorem dX8_curve_18 : decode cX8_curve 18 = .ok (.astore_n 2, 1) := by decide +kernel
theorem dX8_curve_19 : decode cX8_curve 19 = .ok (.aload_n 2, 1) := by decide +kernel
theorem dX8_curve_20 : decode cX8_curve 20 = .ok (.ifnonnull 8, 3) := by decide +kernel
theorem dX8_curve_23 : decode cX8_curve 23 = .ok (.ldc 73, 2) := by decide +kernel
theorem dX8_curve_25 : decode cX8_curve 25 = .ok (.goto 12, 3) := by decide +kernel
theorem dX8_curve_28 : decode cX8_curve 28 = .ok (.aload_n 0, 1) := by decide +kernel
theorem dX8_curve_29 : decode cX8_curve 29 = .ok (.getfield 10, 3) := by decide +kernel
theorem dX8_curve_32 : decode cX8_curve 32 = .ok (.getfield 74, 3) := by decide +kernel
theorem dX8_curve_35 : decode cX8_curve 35 = .ok (.iconst 1, 1) := by decide +kernel
theorem dX8_curve_36 : decode cX8_curve 36 = .ok (.isub, 1) := by decide +kernel
theorem dX8_curve_37 : decode cX8_curve 37 = .ok (.ireturn, 1) := by decide +kernel
theorem dX8_put_0 : decode cX8_put 0 = .ok (.aload_n 0, 1) := by decide +kernel
theorem dX8_put_1 : decode cX8_put 1 = .ok (.getfield 10, 3) := by decide +kernel
theorem dX8_put_4 : decode cX8_put 4 = .ok (.iload_n 1, 1) := by decide +kernel
theorem dX8_put_5 : decode cX8_put 5 = .ok (.invokevirtual 77, 3) := by decide +kernel
theorem dX8_put_8 : decode cX8_put 8 = .ok (.astore 4, 2) := by decide +kernel
theorem dX8_put_10 : decode cX8_put 10 = .ok (.iload_n 2, 1) := by decide +kernel
theorem dX8_put_11 : decode cX8_put 11 = .ok (.bipush 10, 2) := by decide +kernel
theorem dX8_put_13 : decode cX8_put 13 = .ok (.idiv, 1) := by decide +kernel
theorem dX8_put_14 : decode cX8_put 14 = .ok (.iload_n 2, 1) := by decide +kernel
theorem dX8_put_15 : decode cX8_put 15 = .ok (.bipush 10, 2) := by decide +kernel
theorem dX8_put_17 : decode cX8_put 17 = .ok (.irem, 1) := by decide +kernel
theorem dX8_put_18 : decode cX8_put 18 = .ok (.invokestatic 80, 3) := by decide +kernel
theorem dX8_put_21 : decode cX8_put 21 = .ok (.istore 5, 2) := by decide +kernel
theorem dX8_put_23 : decode cX8_put 23 = .ok (.aload 4, 2) := by decide +kernel
theorem dX8_put_25 : decode cX8_put 25 = .ok (.ifnull 20, 3) := by decide +kernel
theorem dX8_put_28 : decode cX8_put 28 = .ok (.iload 5, 2) := by decide +kernel
theorem dX8_put_30 : decode cX8_put 30 = .ok (.ifCond .lt 15, 3) := by decide +kernel
theorem dX8_put_33 : decode cX8_put 33 = .ok (.iload_n 3, 1) := by decide +kernel
theorem dX8_put_34 : decode cX8_put 34 = .ok (.bipush (-99), 2) := by decide +kernel
theorem dX8_put_36 : decode cX8_put 36 = .ok (.if_icmp .lt 9, 3) := by decide +kernel
theorem dX8_put_39 : decode cX8_put 39 = .ok (.iload_n 3, 1) := by decide +kernel
theorem dX8_put_40 : decode cX8_put 40 = .ok (.bipush 99, 2) := by decide +kernel
theorem dX8_put_42 : decode cX8_put 42 = .ok (.if_icmp .le 6, 3) := by decide +kernel
theorem dX8_put_45 : decode cX8_put 45 = .ok (.ldc 68, 2) := by decide +kernel
theorem dX8_put_47 : decode cX8_put 47 = .ok (.ireturn, 1) := by decide +kernel
theorem dX8_put_48 : decode cX8_put 48 = .ok (.aload 4, 2) := by decide +kernel
theorem dX8_put_50 : decode cX8_put 50 = .ok (.iload 5, 2) := by decide +kernel
theorem dX8_put_52 : decode cX8_put 52 = .ok (.invokevirtual 84, 3) := by decide +kernel
theorem dX8_put_55 : decode cX8_put 55 = .ok (.istore 6, 2) := by decide +kernel
theorem dX8_put_57 : decode cX8_put 57 = .ok (.aload 4, 2) := by decide +kernel
theorem dX8_put_59 : decode cX8_put 59 = .ok (.iload 5, 2) := by decide +kernel
theorem dX8_put_61 : decode cX8_put 61 = .ok (.iload_n 3, 1) := by decide +kernel
theorem dX8_put_62 : decode cX8_put 62 = .ok (.invokevirtual 90, 3) := by decide +kernel
theorem dX8_put_65 : decode cX8_put 65 = .ok (.iload 6, 2) := by decide +kernel
theorem dX8_put_67 : decode cX8_put 67 = .ok (.ireturn, 1) := by decide +kernel
theorem dX8_term_0 : decode cX8_term 0 = .ok (.aload_n 0, 1) := by decide +kernel
theorem dX8_term_1 : decode cX8_term 1 = .ok (.getfield 10, 3) := by decide +kernel
theorem dX8_term_4 : decode cX8_term 4 = .ok (.iload_n 1, 1) := by decide +kernel
theorem dX8_term_5 : decode cX8_term 5 = .ok (.invokevirtual 77, 3) := by decide +kernel
theorem dX8_term_8 : decode cX8_term 8 = .ok (.astore 4, 2) := by decide +kernel
theorem dX8_term_10 : decode cX8_term 10 = .ok (.iload_n 2, 1) := by decide +kernel
theorem dX8_term_11 : decode cX8_term 11 = .ok (.bipush 10, 2) := by decide +kernel
theorem dX8_term_13 : decode cX8_term 13 = .ok (.idiv, 1) := by decide +kernel
theorem dX8_term_14 : decode cX8_term 14 = .ok (.istore 5, 2) := by decide +kernel
theorem dX8_term_16 : decode cX8_term 16 = .ok (.iload_n 2, 1) := by decide +kernel
theorem dX8_term_17 : decode cX8_term 17 = .ok (.bipush 10, 2) := by decide +kernel
theorem dX8_term_19 : decode cX8_term 19 = .ok (.irem, 1) := by decide +kernel
theorem dX8_term_20 : decode cX8_term 20 = .ok (.istore 6, 2) := by decide +kernel
theorem dX8_term_22 : decode cX8_term 22 = .ok (.iload 5, 2) := by decide +kernel
theorem dX8_term_24 : decode cX8_term 24 = .ok (.iload 6, 2) := by decide +kernel
theorem dX8_term_26 : decode cX8_term 26 = .ok (.invokestatic 80, 3) := by decide +kernel
theorem dX8_term_29 : decode cX8_term 29 = .ok (.istore 7, 2) := by decide +kernel
theorem dX8_term_31 : decode cX8_term 31 = .ok (.aload 4, 2) := by decide +kernel
theorem dX8_term_33 : decode cX8_term 33 = .ok (.ifnull 17, 3) := by decide +kernel
theorem dX8_term_36 : decode cX8_term 36 = .ok (.iload 7, 2) := by decide +kernel
theorem dX8_term_38 : decode cX8_term 38 = .ok (.ifCond .lt 12, 3) := by decide +kernel
theorem dX8_term_41 : decode cX8_term 41 = .ok (.iload_n 3, 1) := by decide +kernel
theorem dX8_term_42 : decode cX8_term 42 = .ok (.ifCond .lt 8, 3) := by decide +kernel
theorem dX8_term_45 : decode cX8_term 45 = .ok (.iload_n 3, 1) := by decide +kernel
theorem dX8_term_46 : decode cX8_term 46 = .ok (.iconst 1, 1) := by decide +kernel
theorem dX8_term_47 : decode cX8_term 47 = .ok (.if_icmp .le 6, 3) := by decide +kernel
theorem dX8_term_50 : decode cX8_term 50 = .ok (.ldc 68, 2) := by decide +kernel
theorem dX8_term_52 : decode cX8_term 52 = .ok (.ireturn, 1) := by decide +kernel
theorem dX8_term_53 : decode cX8_term 53 = .ok (.iload_n 3, 1) := by decide +kernel
theorem dX8_term_54 : decode cX8_term 54 = .ok (.ifCond .ne 13, 3) := by decide +kernel
theorem dX8_term_57 : decode cX8_term 57 = .ok (.aload 4, 2) := by decide +kernel
theorem dX8_term_59 : decode cX8_term 59 = .ok (.iload 7, 2) := by decide +kernel
theorem dX8_term_61 : decode cX8_term 61 = .ok (.invokevirtual 84, 3) := by decide +kernel
theorem dX8_term_64 : decode cX8_term 64 = .ok (.goto 16, 3) := by decide +kernel
theorem dX8_term_67 : decode cX8_term 67 = .ok (.aload_n 0, 1) := by decide +kernel
theorem dX8_term_68 : decode cX8_term 68 = .ok (.getfield 10, 3) := by decide +kernel
theorem dX8_term_71 : decode cX8_term 71 = .ok (.aload 4, 2) := by decide +kernel
theorem dX8_term_73 : decode cX8_term 73 = .ok (.iload 5, 2) := by decide +kernel
theorem dX8_term_75 : decode cX8_term 75 = .ok (.iload 6, 2) := by decide +kernel
theorem dX8_term_77 : decode cX8_term 77 = .ok (.invokevirtual 94, 3) := by decide +kernel
theorem dX8_term_80 : decode cX8_term 80 = .ok (.ireturn, 1) := by decide +kernel
theorem dX8_told_0 : decode cX8_told 0 = .ok (.aload_n 0, 1) := by decide +kernel
theorem dX8_told_1 : decode cX8_told 1 = .ok (.getfield 10, 3) := by decide +kernel
theorem dX8_told_4 : decode cX8_told 4 = .ok (.iload_n 1, 1) := by decide +kernel
theorem dX8_told_5 : decode cX8_told 5 = .ok (.invokevirtual 77, 3) := by decide +kernel
theorem dX8_told_8 : decode cX8_told 8 = .ok (.astore_n 3, 1) := by decide +kernel
theorem dX8_told_9 : decode cX8_told 9 = .ok (.aload_n 3, 1) := by decide +kernel
theorem dX8_told_10 : decode cX8_told 10 = .ok (.ifnull 12, 3) := by decide +kernel
theorem dX8_told_13 : decode cX8_told 13 = .ok (.iload_n 2, 1) := by decide +kernel
theorem dX8_told_14 : decode cX8_told 14 = .ok (.ifCond .lt 8, 3) := by decide +kernel
theorem dX8_told_17 : decode cX8_told 17 = .ok (.iload_n 2, 1) := by decide +kernel
theorem dX8_told_18 : decode cX8_told 18 = .ok (.iconst 3, 1) := by decide +kernel
theorem dX8_told_19 : decode cX8_told 19 = .ok (.if_icmp .le 6, 3) := by decide +kernel
theorem dX8_told_22 : decode cX8_told 22 = .ok (.ldc 68, 2) := by decide +kernel
theorem dX8_told_24 : decode cX8_told 24 = .ok (.ireturn, 1) := by decide +kernel
theorem dX8_told_25 : decode cX8_told 25 = .ok (.iload_n 2, 1) := by decide +kernel
theorem dX8_told_26 : decode cX8_told 26 = .ok (.ifCond .ne 8, 3) := by decide +kernel
theorem dX8_told_29 : decode cX8_told 29 = .ok (.aload_n 3, 1) := by decide +kernel
theorem dX8_told_30 : decode cX8_told 30 = .ok (.getfield 98, 3) := by decide +kernel
theorem dX8_told_33 : decode cX8_told 33 = .ok (.ireturn, 1) := by decide +kernel
theorem dX8_told_34 : decode cX8_told 34 = .ok (.iload_n 2, 1) := by decide +kernel
theorem dX8_told_35 : decode cX8_told 35 = .ok (.iconst 2, 1) := by decide +kernel
theorem dX8_told_36 : decode cX8_told 36 = .ok (.if_icmp .ne 8, 3) := by decide +kernel
theorem dX8_told_39 : decode cX8_told 39 = .ok (.aload_n 3, 1) := by decide +kernel
theorem dX8_told_40 : decode cX8_told 40 = .ok (.invokevirtual 101, 3) := by decide +kernel
theorem dX8_told_43 : decode cX8_told 43 = .ok (.ireturn, 1) := by decide +kernel
theorem dX8_told_44 : decode cX8_told 44 = .ok (.aload_n 0, 1) := by decide +kernel
theorem dX8_told_45 : decode cX8_told 45 = .ok (.getfield 24, 3) := by decide +kernel
theorem dX8_told_48 : decode cX8_told 48 = .ok (.aload_n 3, 1) := by decide +kernel
theorem dX8_told_49 : decode cX8_told 49 = .ok (.invokevirtual 105, 3) := by decide +kernel
theorem dX8_told_52 : decode cX8_told 52 = .ok (.iload_n 2, 1) := by decide +kernel
theorem dX8_told_53 : decode cX8_told 53 = .ok (.iconst 1, 1) := by decide +kernel
theorem dX8_told_54 : decode cX8_told 54 = .ok (.if_icmp .ne 13, 3) := by decide +kernel
theorem dX8_told_57 : decode cX8_told 57 = .ok (.aload_n 0, 1) := by decide +kernel
theorem dX8_told_58 : decode cX8_told 58 = .ok (.getfield 24, 3) := by decide +kernel
theorem dX8_told_61 : decode cX8_told 61 = .ok (.invokevirtual 109, 3) := by decide +kernel
theorem dX8_told_64 : decode cX8_told 64 = .ok (.goto 10, 3) := by decide +kernel
theorem dX8_told_67 : decode cX8_told 67 = .ok (.aload_n 0, 1) := by decide +kernel
theorem dX8_told_68 : decode cX8_told 68 = .ok (.getfield 24, 3) := by decide +kernel
theorem dX8_told_71 : decode cX8_told 71 = .ok (.invokevirtual 112, 3) := by decide +kernel
theorem dX8_told_74 : decode cX8_told 74 = .ok (.ireturn, 1) := by decide +kernel
theorem dX8_as_0 : decode cX8_as 0 = .ok (.aload_n 0, 1) := by decide +kernel
theorem dX8_as_1 : decode cX8_as 1 = .ok (.getfield 10, 3) := by decide +kernel
theorem dX8_as_4 : decode cX8_as 4 = .ok (.iload_n 1, 1) := by decide +kernel
theorem dX8_as_5 : decode cX8_as 5 = .ok (.invokevirtual 77, 3) := by decide +kernel
theorem dX8_as_8 : decode cX8_as 8 = .ok (.astore_n 3, 1) := by decide +kernel
theorem dX8_as_9 : decode cX8_as 9 = .ok (.aload_n 3, 1) := by decide +kernel
theorem dX8_as_10 : decode cX8_as 10 = .ok (.ifnull 10, 3) := by decide +kernel
theorem dX8_as_13 : decode cX8_as 13 = .ok (.iload_n 2, 1) := by decide +kernel
theorem dX8_as_14 : decode cX8_as 14 = .ok (.invokestatic 64, 3) := by decide +kernel
theorem dX8_as_17 : decode cX8_as 17 = .ok (.ifCond .ne 6, 3) := by decide +kernel
theorem dX8_as_20 : decode cX8_as 20 = .ok (.ldc 68, 2) := by decide +kernel
theorem dX8_as_22 : decode cX8_as 22 = .ok (.ireturn, 1) := by decide +kernel
theorem dX8_as_23 : decode cX8_as 23 = .ok (.aload_n 3, 1) := by decide +kernel
theorem dX8_as_24 : decode cX8_as 24 = .ok (.iload_n 2, 1) := by decide +kernel
theorem dX8_as_25 : decode cX8_as 25 = .ok (.invokevirtual 115, 3) := by decide +kernel
theorem dX8_as_28 : decode cX8_as 28 = .ok (.ifCond .eq 12, 3) := by decide +kernel
theorem dX8_as_31 : decode cX8_as 31 = .ok (.aload_n 3, 1) := by decide +kernel
theorem dX8_as_32 : decode cX8_as 32 = .ok (.iconst 0, 1) := by decide +kernel
theorem dX8_as_33 : decode cX8_as 33 = .ok (.iconst 0, 1) := by decide +kernel
theorem dX8_as_34 : decode cX8_as 34 = .ok (.invokevirtual 118, 3) := by decide +kernel
theorem dX8_as_37 : decode cX8_as 37 = .ok (.goto 5, 3) := by decide +kernel
theorem dX8_as_40 : decode cX8_as 40 = .ok (.ldc 121, 2) := by decide +kernel
theorem dX8_as_42 : decode cX8_as 42 = .ok (.ireturn, 1) := by decide +kernel
theorem dX8_turns_0 : decode cX8_turns 0 = .ok (.aload_n 0, 1) := by decide +kernel
theorem dX8_turns_1 : decode cX8_turns 1 = .ok (.getfield 10, 3) := by decide +kernel
theorem dX8_turns_4 : decode cX8_turns 4 = .ok (.iload_n 1, 1) := by decide +kernel
theorem dX8_turns_5 : decode cX8_turns 5 = .ok (.invokevirtual 77, 3) := by decide +kernel
theorem dX8_turns_8 : decode cX8_turns 8 = .ok (.astore_n 3, 1) := by decide +kernel
theorem dX8_turns_9 : decode cX8_turns 9 = .ok (.aload_n 3, 1) := by decide +kernel
theorem dX8_turns_10 : decode cX8_turns 10 = .ok (.ifnull 10, 3) := by decide +kernel
theorem dX8_turns_13 : decode cX8_turns 13 = .ok (.iload_n 2, 1) := by decide +kernel
theorem dX8_turns_14 : decode cX8_turns 14 = .ok (.invokestatic 64, 3) := by decide +kernel
theorem dX8_turns_17 : decode cX8_turns 17 = .ok (.ifCond .ne 6, 3) := by decide +kernel
theorem dX8_turns_20 : decode cX8_turns 20 = .ok (.ldc 68, 2) := by decide +kernel
theorem dX8_turns_22 : decode cX8_turns 22 = .ok (.ireturn, 1) := by decide +kernel
theorem dX8_turns_23 : decode cX8_turns 23 = .ok (.aload_n 3, 1) := by decide +kernel
theorem dX8_turns_24 : decode cX8_turns 24 = .ok (.getfield 98, 3) := by decide +kernel
theorem dX8_turns_27 : decode cX8_turns 27 = .ok (.istore 4, 2) := by decide +kernel
theorem dX8_turns_29 : decode cX8_turns 29 = .ok (.aload_n 3, 1) := by decide +kernel
theorem dX8_turns_30 : decode cX8_turns 30 = .ok (.iload_n 2, 1) := by decide +kernel
theorem dX8_turns_31 : decode cX8_turns 31 = .ok (.putfield 98, 3) := by decide +kernel
theorem dX8_turns_34 : decode cX8_turns 34 = .ok (.iload 4, 2) := by decide +kernel
theorem dX8_turns_36 : decode cX8_turns 36 = .ok (.ireturn, 1) := by decide +kernel
theorem dX8_mix_0 : decode cX8_mix 0 = .ok (.aload_n 0, 1) := by decide +kernel
theorem dX8_mix_1 : decode cX8_mix 1 = .ok (.getfield 10, 3) := by decide +kernel
theorem dX8_mix_4 : decode cX8_mix 4 = .ok (.iload_n 1, 1) := by decide +kernel
theorem dX8_mix_5 : decode cX8_mix 5 = .ok (.invokevirtual 77, 3) := by decide +kernel
theorem dX8_mix_8 : decode cX8_mix 8 = .ok (.astore 5, 2) := by decide +kernel
theorem dX8_mix_10 : decode cX8_mix 10 = .ok (.aload_n 0, 1) := by decide +kernel
theorem dX8_mix_11 : decode cX8_mix 11 = .ok (.getfield 10, 3) := by decide +kernel
theorem dX8_mix_14 : decode cX8_mix 14 = .ok (.iload_n 2, 1) := by decide +kernel
theorem dX8_mix_15 : decode cX8_mix 15 = .ok (.invokevirtual 77, 3) := by decide +kernel
theorem dX8_mix_18 : decode cX8_mix 18 = .ok (.astore 6, 2) := by decide +kernel
theorem dX8_mix_20 : decode cX8_mix 20 = .ok (.aload_n 0, 1) := by decide +kernel
theorem dX8_mix_21 : decode cX8_mix 21 = .ok (.getfield 10, 3) := by decide +kernel
theorem dX8_mix_24 : decode cX8_mix 24 = .ok (.iload_n 3, 1) := by decide +kernel
theorem dX8_mix_25 : decode cX8_mix 25 = .ok (.invokevirtual 77, 3) := by decide +kernel
theorem dX8_mix_28 : decode cX8_mix 28 = .ok (.astore 7, 2) := by decide +kernel
theorem dX8_mix_30 : decode cX8_mix 30 = .ok (.aload 5, 2) := by decide +kernel
theorem dX8_mix_32 : decode cX8_mix 32 = .ok (.ifnull 24, 3) := by decide +kernel
theorem dX8_mix_35 : decode cX8_mix 35 = .ok (.aload 6, 2) := by decide +kernel
theorem dX8_mix_37 : decode cX8_mix 37 = .ok (.ifnull 19, 3) := by decide +kernel
theorem dX8_mix_40 : decode cX8_mix 40 = .ok (.aload 7, 2) := by decide +kernel
theorem dX8_mix_42 : decode cX8_mix 42 = .ok (.ifnull 14, 3) := by decide +kernel
theorem dX8_mix_45 : decode cX8_mix 45 = .ok (.iload 4, 2) := by decide +kernel
theorem dX8_mix_47 : decode cX8_mix 47 = .ok (.ifCond .lt 9, 3) := by decide +kernel
theorem dX8_mix_50 : decode cX8_mix 50 = .ok (.iload 4, 2) := by decide +kernel
theorem dX8_mix_52 : decode cX8_mix 52 = .ok (.iconst 1, 1) := by decide +kernel
theorem dX8_mix_53 : decode cX8_mix 53 = .ok (.if_icmp .le 6, 3) := by decide +kernel
theorem dX8_mix_56 : decode cX8_mix 56 = .ok (.ldc 68, 2) := by decide +kernel
theorem dX8_mix_58 : decode cX8_mix 58 = .ok (.ireturn, 1) := by decide +kernel
theorem dX8_mix_59 : decode cX8_mix 59 = .ok (.iload 4, 2) := by decide +kernel
theorem dX8_mix_61 : decode cX8_mix 61 = .ok (.ifCond .ne 7, 3) := by decide +kernel
theorem dX8_mix_64 : decode cX8_mix 64 = .ok (.iconst 1, 1) := by decide +kernel
theorem dX8_mix_65 : decode cX8_mix 65 = .ok (.goto 4, 3) := by decide +kernel
theorem dX8_mix_68 : decode cX8_mix 68 = .ok (.iconst (-1), 1) := by decide +kernel
theorem dX8_mix_69 : decode cX8_mix 69 = .ok (.istore 8, 2) := by decide +kernel
theorem dX8_mix_71 : decode cX8_mix 71 = .ok (.iconst 0, 1) := by decide +kernel
theorem dX8_mix_72 : decode cX8_mix 72 = .ok (.istore 9, 2) := by decide +kernel
theorem dX8_mix_74 : decode cX8_mix 74 = .ok (.iload 9, 2) := by decide +kernel
theorem dX8_mix_76 : decode cX8_mix 76 = .ok (.bipush 15, 2) := by decide +kernel
theorem dX8_mix_78 : decode cX8_mix 78 = .ok (.if_icmp .ge 37, 3) := by decide +kernel
theorem dX8_mix_81 : decode cX8_mix 81 = .ok (.aload 5, 2) := by decide +kernel
theorem dX8_mix_83 : decode cX8_mix 83 = .ok (.iload 9, 2) := by decide +kernel
theorem dX8_mix_85 : decode cX8_mix 85 = .ok (.aload 7, 2) := by decide +kernel
theorem dX8_mix_87 : decode cX8_mix 87 = .ok (.iload 9, 2) := by decide +kernel
theorem dX8_mix_89 : decode cX8_mix 89 = .ok (.invokevirtual 84, 3) := by decide +kernel
theorem dX8_mix_92 : decode cX8_mix 92 = .ok (.iload 8, 2) := by decide +kernel
theorem dX8_mix_94 : decode cX8_mix 94 = .ok (.aload 6, 2) := by decide +kernel
theorem dX8_mix_96 : decode cX8_mix 96 = .ok (.iload 9, 2) := by decide +kernel
theorem dX8_mix_98 : decode cX8_mix 98 = .ok (.invokevirtual 84, 3) := by decide +kernel
theorem dX8_mix_101 : decode cX8_mix 101 = .ok (.imul, 1) := by decide +kernel
theorem dX8_mix_102 : decode cX8_mix 102 = .ok (.iadd, 1) := by decide +kernel
theorem dX8_mix_103 : decode cX8_mix 103 = .ok (.invokestatic 122, 3) := by decide +kernel
theorem dX8_mix_106 : decode cX8_mix 106 = .ok (.invokevirtual 90, 3) := by decide +kernel
theorem dX8_mix_109 : decode cX8_mix 109 = .ok (.iinc 9 1, 3) := by decide +kernel
theorem dX8_mix_112 : decode cX8_mix 112 = .ok (.goto (-38), 3) := by decide +kernel
theorem dX8_mix_115 : decode cX8_mix 115 = .ok (.aload 5, 2) := by decide +kernel
theorem dX8_mix_117 : decode cX8_mix 117 = .ok (.invokevirtual 125, 3) := by decide +kernel
theorem dX8_mix_120 : decode cX8_mix 120 = .ok (.ireturn, 1) := by decide +kernel
theorem dX8_deal_0 : decode cX8_deal 0 = .ok (.iload_n 1, 1) := by decide +kernel
theorem dX8_deal_1 : decode cX8_deal 1 = .ok (.iconst 1, 1) := by decide +kernel
theorem dX8_deal_2 : decode cX8_deal 2 = .ok (.if_icmp .lt 9, 3) := by decide +kernel
theorem dX8_deal_5 : decode cX8_deal 5 = .ok (.iload_n 1, 1) := by decide +kernel
theorem dX8_deal_6 : decode cX8_deal 6 = .ok (.bipush 6, 2) := by decide +kernel
theorem dX8_deal_8 : decode cX8_deal 8 = .ok (.if_icmp .le 6, 3) := by decide +kernel
theorem dX8_deal_11 : decode cX8_deal 11 = .ok (.ldc 68, 2) := by decide +kernel
theorem dX8_deal_13 : decode cX8_deal 13 = .ok (.ireturn, 1) := by decide +kernel
theorem dX8_deal_14 : decode cX8_deal 14 = .ok (.iconst 0, 1) := by decide +kernel
theorem dX8_deal_15 : decode cX8_deal 15 = .ok (.istore_n 2, 1) := by decide +kernel
theorem dX8_deal_16 : decode cX8_deal 16 = .ok (.iconst 0, 1) := by decide +kernel
theorem dX8_deal_17 : decode cX8_deal 17 = .ok (.istore_n 3, 1) := by decide +kernel
theorem dX8_deal_18 : decode cX8_deal 18 = .ok (.iload_n 3, 1) := by decide +kernel
theorem dX8_deal_19 : decode cX8_deal 19 = .ok (.iload_n 1, 1) := by decide +kernel
theorem dX8_deal_20 : decode cX8_deal 20 = .ok (.if_icmp .ge 36, 3) := by decide +kernel
theorem dX8_deal_23 : decode cX8_deal 23 = .ok (.aload_n 0, 1) := by decide +kernel
theorem dX8_deal_24 : decode cX8_deal 24 = .ok (.getfield 10, 3) := by decide +kernel
theorem dX8_deal_27 : decode cX8_deal 27 = .ok (.iconst 0, 1) := by decide +kernel
theorem dX8_deal_28 : decode cX8_deal 28 = .ok (.invokevirtual 69, 3) := by decide +kernel
theorem dX8_deal_31 : decode cX8_deal 31 = .ok (.astore 4, 2) := by decide +kernel
theorem dX8_deal_33 : decode cX8_deal 33 = .ok (.aload 4, 2) := by decide +kernel
theorem dX8_deal_35 : decode cX8_deal 35 = .ok (.ifnull 15, 3) := by decide +kernel
theorem dX8_deal_38 : decode cX8_deal 38 = .ok (.aload_n 0, 1) := by decide +kernel
theorem dX8_deal_39 : decode cX8_deal 39 = .ok (.getfield 10, 3) := by decide +kernel
theorem dX8_deal_42 : decode cX8_deal 42 = .ok (.aload 4, 2) := by decide +kernel
theorem dX8_deal_44 : decode cX8_deal 44 = .ok (.invokevirtual 128, 3) := by decide +kernel
theorem dX8_deal_47 : decode cX8_deal 47 = .ok (.iinc 2 1, 3) := by decide +kernel
theorem dX8_deal_50 : decode cX8_deal 50 = .ok (.iinc 3 1, 3) := by decide +kernel
theorem dX8_deal_53 : decode cX8_deal 53 = .ok (.goto (-35), 3) := by decide +kernel
theorem dX8_deal_56 : decode cX8_deal 56 = .ok (.iload_n 2, 1) := by decide +kernel
theorem dX8_deal_57 : decode cX8_deal 57 = .ok (.ireturn, 1) := by decide +kernel
theorem dX8_seed_0 : decode cX8_seed 0 = .ok (.aload_n 0, 1) := by decide +kernel
theorem dX8_seed_1 : decode cX8_seed 1 = .ok (.getfield 10, 3) := by decide +kernel
theorem dX8_seed_4 : decode cX8_seed 4 = .ok (.getfield 131, 3) := by decide +kernel
theorem dX8_seed_7 : decode cX8_seed 7 = .ok (.istore_n 2, 1) := by decide +kernel
theorem dX8_seed_8 : decode cX8_seed 8 = .ok (.aload_n 0, 1) := by decide +kernel
theorem dX8_seed_9 : decode cX8_seed 9 = .ok (.getfield 10, 3) := by decide +kernel
theorem dX8_seed_12 : decode cX8_seed 12 = .ok (.iload_n 1, 1) := by decide +kernel
theorem dX8_seed_13 : decode cX8_seed 13 = .ok (.putfield 131, 3) := by decide +kernel
theorem dX8_seed_16 : decode cX8_seed 16 = .ok (.iload_n 2, 1) := by decide +kernel
theorem dX8_seed_17 : decode cX8_seed 17 = .ok (.ireturn, 1) := by decide +kernel
theorem dX8_value_0 : decode cX8_value 0 = .ok (.aload_n 0, 1) := by decide +kernel
theorem dX8_value_1 : decode cX8_value 1 = .ok (.getfield 10, 3) := by decide +kernel
theorem dX8_value_4 : decode cX8_value 4 = .ok (.iload_n 1, 1) := by decide +kernel
theorem dX8_value_5 : decode cX8_value 5 = .ok (.invokevirtual 77, 3) := by decide +kernel
theorem dX8_value_8 : decode cX8_value 8 = .ok (.astore 4, 2) := by decide +kernel
theorem dX8_value_10 : decode cX8_value 10 = .ok (.aload 4, 2) := by decide +kernel
theorem dX8_value_12 : decode cX8_value 12 = .ok (.ifnull 27, 3) := by decide +kernel
theorem dX8_value_15 : decode cX8_value 15 = .ok (.iload_n 2, 1) := by decide +kernel
theorem dX8_value_16 : decode cX8_value 16 = .ok (.bipush (-9), 2) := by decide +kernel
theorem dX8_value_18 : decode cX8_value 18 = .ok (.if_icmp .lt 21, 3) := by decide +kernel
theorem dX8_value_21 : decode cX8_value 21 = .ok (.iload_n 2, 1) := by decide +kernel
theorem dX8_value_22 : decode cX8_value 22 = .ok (.bipush 9, 2) := by decide +kernel
theorem dX8_value_24 : decode cX8_value 24 = .ok (.if_icmp .gt 15, 3) := by decide +kernel
theorem dX8_value_27 : decode cX8_value 27 = .ok (.iload_n 3, 1) := by decide +kernel
theorem dX8_value_28 : decode cX8_value 28 = .ok (.bipush (-9), 2) := by decide +kernel
theorem dX8_value_30 : decode cX8_value 30 = .ok (.if_icmp .lt 9, 3) := by decide +kernel
theorem dX8_value_33 : decode cX8_value 33 = .ok (.iload_n 3, 1) := by decide +kernel
theorem dX8_value_34 : decode cX8_value 34 = .ok (.bipush 9, 2) := by decide +kernel
theorem dX8_value_36 : decode cX8_value 36 = .ok (.if_icmp .le 7, 3) := by decide +kernel
theorem dX8_value_39 : decode cX8_value 39 = .ok (.ldc2_w 134, 3) := by decide +kernel
theorem dX8_value_42 : decode cX8_value 42 = .ok (.lreturn, 1) := by decide +kernel
theorem dX8_value_43 : decode cX8_value 43 = .ok (.aload_n 0, 1) := by decide +kernel
theorem dX8_value_44 : decode cX8_value 44 = .ok (.getfield 24, 3) := by decide +kernel
theorem dX8_value_47 : decode cX8_value 47 = .ok (.aload 4, 2) := by decide +kernel
theorem dX8_value_49 : decode cX8_value 49 = .ok (.invokevirtual 105, 3) := by decide +kernel
theorem dX8_value_52 : decode cX8_value 52 = .ok (.aload_n 0, 1) := by decide +kernel
theorem dX8_value_53 : decode cX8_value 53 = .ok (.getfield 24, 3) := by decide +kernel
theorem dX8_value_56 : decode cX8_value 56 = .ok (.iload_n 2, 1) := by decide +kernel
theorem dX8_value_57 : decode cX8_value 57 = .ok (.iload_n 3, 1) := by decide +kernel
theorem dX8_value_58 : decode cX8_value 58 = .ok (.invokevirtual 136, 3) := by decide +kernel
theorem dX8_value_61 : decode cX8_value 61 = .ok (.lreturn, 1) := by decide +kernel
theorem dX8_times_0 : decode cX8_times 0 = .ok (.aload_n 0, 1) := by decide +kernel
theorem dX8_times_1 : decode cX8_times 1 = .ok (.iload_n 1, 1) := by decide +kernel
theorem dX8_times_2 : decode cX8_times 2 = .ok (.iload_n 2, 1) := by decide +kernel
theorem dX8_times_3 : decode cX8_times 3 = .ok (.invokevirtual 140, 3) := by decide +kernel
theorem dX8_times_6 : decode cX8_times 6 = .ok (.astore_n 3, 1) := by decide +kernel
theorem dX8_times_7 : decode cX8_times 7 = .ok (.aload_n 3, 1) := by decide +kernel
theorem dX8_times_8 : decode cX8_times 8 = .ok (.ifnonnull 8, 3) := by decide +kernel
theorem dX8_times_11 : decode cX8_times 11 = .ok (.ldc 68, 2) := by decide +kernel
theorem dX8_times_13 : decode cX8_times 13 = .ok (.goto 7, 3) := by decide +kernel
theorem dX8_times_16 : decode cX8_times 16 = .ok (.aload_n 3, 1) := by decide +kernel
theorem dX8_times_17 : decode cX8_times 17 = .ok (.invokevirtual 144, 3) := by decide +kernel
theorem dX8_times_20 : decode cX8_times 20 = .ok (.ireturn, 1) := by decide +kernel
theorem dX8_shape_0 : decode cX8_shape 0 = .ok (.aload_n 0, 1) := by decide +kernel
theorem dX8_shape_1 : decode cX8_shape 1 = .ok (.iload_n 1, 1) := by decide +kernel
theorem dX8_shape_2 : decode cX8_shape 2 = .ok (.iload_n 2, 1) := by decide +kernel
theorem dX8_shape_3 : decode cX8_shape 3 = .ok (.invokevirtual 140, 3) := by decide +kernel
theorem dX8_shape_6 : decode cX8_shape 6 = .ok (.astore 4, 2) := by decide +kernel
theorem dX8_shape_8 : decode cX8_shape 8 = .ok (.iload_n 3, 1) := by decide +kernel
theorem dX8_shape_9 : decode cX8_shape 9 = .ok (.bipush 10, 2) := by decide +kernel
theorem dX8_shape_11 : decode cX8_shape 11 = .ok (.idiv, 1) := by decide +kernel
theorem dX8_shape_12 : decode cX8_shape 12 = .ok (.istore 5, 2) := by decide +kernel
theorem dX8_shape_14 : decode cX8_shape 14 = .ok (.iload_n 3, 1) := by decide +kernel
theorem dX8_shape_15 : decode cX8_shape 15 = .ok (.bipush 10, 2) := by decide +kernel
theorem dX8_shape_17 : decode cX8_shape 17 = .ok (.irem, 1) := by decide +kernel
theorem dX8_shape_18 : decode cX8_shape 18 = .ok (.istore 6, 2) := by decide +kernel
theorem dX8_shape_20 : decode cX8_shape 20 = .ok (.aload 4, 2) := by decide +kernel
theorem dX8_shape_22 : decode cX8_shape 22 = .ok (.ifnull 13, 3) := by decide +kernel
theorem dX8_shape_25 : decode cX8_shape 25 = .ok (.iload 5, 2) := by decide +kernel
theorem dX8_shape_27 : decode cX8_shape 27 = .ok (.iload 6, 2) := by decide +kernel
theorem dX8_shape_29 : decode cX8_shape 29 = .ok (.invokestatic 149, 3) := by decide +kernel
theorem dX8_shape_32 : decode cX8_shape 32 = .ok (.ifCond .ne 9, 3) := by decide +kernel
theorem dX8_shape_35 : decode cX8_shape 35 = .ok (.ldc2_w 134, 3) := by decide +kernel
theorem dX8_shape_38 : decode cX8_shape 38 = .ok (.goto 12, 3) := by decide +kernel
theorem dX8_shape_41 : decode cX8_shape 41 = .ok (.aload 4, 2) := by decide +kernel
theorem dX8_shape_43 : decode cX8_shape 43 = .ok (.iload 5, 2) := by decide +kernel
theorem dX8_shape_45 : decode cX8_shape 45 = .ok (.iload 6, 2) := by decide +kernel
theorem dX8_shape_47 : decode cX8_shape 47 = .ok (.invokevirtual 153, 3) := by decide +kernel
theorem dX8_shape_50 : decode cX8_shape 50 = .ok (.lreturn, 1) := by decide +kernel
theorem dX8_lowest_0 : decode cX8_lowest 0 = .ok (.aload_n 0, 1) := by decide +kernel
theorem dX8_lowest_1 : decode cX8_lowest 1 = .ok (.iload_n 1, 1) := by decide +kernel
theorem dX8_lowest_2 : decode cX8_lowest 2 = .ok (.iload_n 2, 1) := by decide +kernel
theorem dX8_lowest_3 : decode cX8_lowest 3 = .ok (.invokevirtual 140, 3) := by decide +kernel
theorem dX8_lowest_6 : decode cX8_lowest 6 = .ok (.astore 4, 2) := by decide +kernel
theorem dX8_lowest_8 : decode cX8_lowest 8 = .ok (.aload 4, 2) := by decide +kernel
theorem dX8_lowest_10 : decode cX8_lowest 10 = .ok (.ifnull 12, 3) := by decide +kernel
theorem dX8_lowest_13 : decode cX8_lowest 13 = .ok (.iload_n 3, 1) := by decide +kernel
theorem dX8_lowest_14 : decode cX8_lowest 14 = .ok (.ifCond .lt 8, 3) := by decide +kernel
theorem dX8_lowest_17 : decode cX8_lowest 17 = .ok (.iload_n 3, 1) := by decide +kernel
theorem dX8_lowest_18 : decode cX8_lowest 18 = .ok (.iconst 4, 1) := by decide +kernel
theorem dX8_lowest_19 : decode cX8_lowest 19 = .ok (.if_icmp .le 7, 3) := by decide +kernel
theorem dX8_lowest_22 : decode cX8_lowest 22 = .ok (.ldc2_w 134, 3) := by decide +kernel
theorem dX8_lowest_25 : decode cX8_lowest 25 = .ok (.lreturn, 1) := by decide +kernel
theorem dX8_lowest_26 : decode cX8_lowest 26 = .ok (.aload 4, 2) := by decide +kernel
theorem dX8_lowest_28 : decode cX8_lowest 28 = .ok (.invokevirtual 144, 3) := by decide +kernel
theorem dX8_lowest_31 : decode cX8_lowest 31 = .ok (.istore 5, 2) := by decide +kernel
theorem dX8_lowest_33 : decode cX8_lowest 33 = .ok (.iload 5, 2) := by decide +kernel
theorem dX8_lowest_35 : decode cX8_lowest 35 = .ok (.invokestatic 155, 3) := by decide +kernel
theorem dX8_lowest_38 : decode cX8_lowest 38 = .ok (.ifCond .eq 14, 3) := by decide +kernel
theorem dX8_lowest_41 : decode cX8_lowest 41 = .ok (.aload 4, 2) := by decide +kernel
theorem dX8_lowest_43 : decode cX8_lowest 43 = .ok (.iload 5, 2) := by decide +kernel
theorem dX8_lowest_45 : decode cX8_lowest 45 = .ok (.iload_n 3, 1) := by decide +kernel
theorem dX8_lowest_46 : decode cX8_lowest 46 = .ok (.invokevirtual 158, 3) := by decide +kernel
theorem dX8_lowest_49 : decode cX8_lowest 49 = .ok (.goto 6, 3) := by decide +kernel
theorem dX8_lowest_52 : decode cX8_lowest 52 = .ok (.ldc2_w 161, 3) := by decide +kernel
theorem dX8_lowest_55 : decode cX8_lowest 55 = .ok (.lreturn, 1) := by decide +kernel
theorem dX8_slopes_0 : decode cX8_slopes 0 = .ok (.aload_n 0, 1) := by decide +kernel
theorem dX8_slopes_1 : decode cX8_slopes 1 = .ok (.iload_n 1, 1) := by decide +kernel
theorem dX8_slopes_2 : decode cX8_slopes 2 = .ok (.iload_n 2, 1) := by decide +kernel
theorem dX8_slopes_3 : decode cX8_slopes 3 = .ok (.invokevirtual 140, 3) := by decide +kernel
theorem dX8_slopes_6 : decode cX8_slopes 6 = .ok (.astore_n 3, 1) := by decide +kernel
theorem dX8_slopes_7 : decode cX8_slopes 7 = .ok (.aload_n 3, 1) := by decide +kernel
theorem dX8_slopes_8 : decode cX8_slopes 8 = .ok (.ifnonnull 6, 3) := by decide +kernel
theorem dX8_slopes_11 : decode cX8_slopes 11 = .ok (.ldc 68, 2) := by decide +kernel
theorem dX8_slopes_13 : decode cX8_slopes 13 = .ok (.ireturn, 1) := by decide +kernel
theorem dX8_slopes_14 : decode cX8_slopes 14 = .ok (.aload_n 3, 1) := by decide +kernel
theorem dX8_slopes_15 : decode cX8_slopes 15 = .ok (.invokevirtual 144, 3) := by decide +kernel
theorem dX8_slopes_18 : decode cX8_slopes 18 = .ok (.istore 4, 2) := by decide +kernel
theorem dX8_slopes_20 : decode cX8_slopes 20 = .ok (.iload 4, 2) := by decide +kernel
theorem dX8_slopes_22 : decode cX8_slopes 22 = .ok (.invokestatic 155, 3) := by decide +kernel
theorem dX8_slopes_25 : decode cX8_slopes 25 = .ok (.ifCond .eq 16, 3) := by decide +kernel
theorem dX8_slopes_28 : decode cX8_slopes 28 = .ok (.aload_n 0, 1) := by decide +kernel
theorem dX8_slopes_29 : decode cX8_slopes 29 = .ok (.getfield 24, 3) := by decide +kernel
theorem dX8_slopes_32 : decode cX8_slopes 32 = .ok (.aload_n 3, 1) := by decide +kernel
theorem dX8_slopes_33 : decode cX8_slopes 33 = .ok (.iload 4, 2) := by decide +kernel
theorem dX8_slopes_35 : decode cX8_slopes 35 = .ok (.invokevirtual 163, 3) := by decide +kernel
theorem dX8_slopes_38 : decode cX8_slopes 38 = .ok (.goto 5, 3) := by decide +kernel
theorem dX8_slopes_41 : decode cX8_slopes 41 = .ok (.ldc 167, 2) := by decide +kernel
theorem dX8_slopes_43 : decode cX8_slopes 43 = .ok (.ireturn, 1) := by decide +kernel
theorem dX8_often_0 : decode cX8_often 0 = .ok (.aload_n 0, 1) := by decide +kernel
theorem dX8_often_1 : decode cX8_often 1 = .ok (.iload_n 1, 1) := by decide +kernel
theorem dX8_often_2 : decode cX8_often 2 = .ok (.iload_n 2, 1) := by decide +kernel
theorem dX8_often_3 : decode cX8_often 3 = .ok (.invokevirtual 140, 3) := by decide +kernel
theorem dX8_often_6 : decode cX8_often 6 = .ok (.astore 4, 2) := by decide +kernel
theorem dX8_often_8 : decode cX8_often 8 = .ok (.aload 4, 2) := by decide +kernel
theorem dX8_often_10 : decode cX8_often 10 = .ok (.ifnull 10, 3) := by decide +kernel
theorem dX8_often_13 : decode cX8_often 13 = .ok (.iload_n 3, 1) := by decide +kernel
theorem dX8_often_14 : decode cX8_often 14 = .ok (.invokestatic 168, 3) := by decide +kernel
theorem dX8_often_17 : decode cX8_often 17 = .ok (.ifCond .ne 6, 3) := by decide +kernel
theorem dX8_often_20 : decode cX8_often 20 = .ok (.ldc 68, 2) := by decide +kernel
theorem dX8_often_22 : decode cX8_often 22 = .ok (.ireturn, 1) := by decide +kernel
theorem dX8_often_23 : decode cX8_often 23 = .ok (.aload 4, 2) := by decide +kernel
theorem dX8_often_25 : decode cX8_often 25 = .ok (.invokevirtual 144, 3) := by decide +kernel
theorem dX8_often_28 : decode cX8_often 28 = .ok (.istore 5, 2) := by decide +kernel
theorem dX8_often_30 : decode cX8_often 30 = .ok (.iload 5, 2) := by decide +kernel
theorem dX8_often_32 : decode cX8_often 32 = .ok (.invokestatic 155, 3) := by decide +kernel
theorem dX8_often_35 : decode cX8_often 35 = .ok (.ifCond .eq 18, 3) := by decide +kernel
theorem dX8_often_38 : decode cX8_often 38 = .ok (.aload_n 0, 1) := by decide +kernel
theorem dX8_often_39 : decode cX8_often 39 = .ok (.getfield 24, 3) := by decide +kernel
theorem dX8_often_42 : decode cX8_often 42 = .ok (.aload 4, 2) := by decide +kernel
theorem dX8_often_44 : decode cX8_often 44 = .ok (.iload 5, 2) := by decide +kernel
theorem dX8_often_46 : decode cX8_often 46 = .ok (.iload_n 3, 1) := by decide +kernel
theorem dX8_often_47 : decode cX8_often 47 = .ok (.invokevirtual 171, 3) := by decide +kernel
theorem dX8_often_50 : decode cX8_often 50 = .ok (.goto 5, 3) := by decide +kernel
theorem dX8_often_53 : decode cX8_often 53 = .ok (.ldc 167, 2) := by decide +kernel
theorem dX8_often_55 : decode cX8_often 55 = .ok (.ireturn, 1) := by decide +kernel
theorem dX8_blown_0 : decode cX8_blown 0 = .ok (.aload_n 0, 1) := by decide +kernel
theorem dX8_blown_1 : decode cX8_blown 1 = .ok (.iload_n 1, 1) := by decide +kernel
theorem dX8_blown_2 : decode cX8_blown 2 = .ok (.iload_n 2, 1) := by decide +kernel
theorem dX8_blown_3 : decode cX8_blown 3 = .ok (.invokevirtual 140, 3) := by decide +kernel
theorem dX8_blown_6 : decode cX8_blown 6 = .ok (.astore 5, 2) := by decide +kernel
theorem dX8_blown_8 : decode cX8_blown 8 = .ok (.aload 5, 2) := by decide +kernel
theorem dX8_blown_10 : decode cX8_blown 10 = .ok (.ifnull 25, 3) := by decide +kernel
theorem dX8_blown_13 : decode cX8_blown 13 = .ok (.iload_n 3, 1) := by decide +kernel
theorem dX8_blown_14 : decode cX8_blown 14 = .ok (.invokestatic 168, 3) := by decide +kernel
theorem dX8_blown_17 : decode cX8_blown 17 = .ok (.ifCond .eq 18, 3) := by decide +kernel
theorem dX8_blown_20 : decode cX8_blown 20 = .ok (.iload 4, 2) := by decide +kernel
theorem dX8_blown_22 : decode cX8_blown 22 = .ok (.bipush 6, 2) := by decide +kernel
theorem dX8_blown_24 : decode cX8_blown 24 = .ok (.if_icmp .eq 14, 3) := by decide +kernel
theorem dX8_blown_27 : decode cX8_blown 27 = .ok (.iload 4, 2) := by decide +kernel
theorem dX8_blown_29 : decode cX8_blown 29 = .ok (.invokestatic 168, 3) := by decide +kernel
theorem dX8_blown_32 : decode cX8_blown 32 = .ok (.ifCond .ne 6, 3) := by decide +kernel
theorem dX8_blown_35 : decode cX8_blown 35 = .ok (.ldc 68, 2) := by decide +kernel
theorem dX8_blown_37 : decode cX8_blown 37 = .ok (.ireturn, 1) := by decide +kernel
theorem dX8_blown_38 : decode cX8_blown 38 = .ok (.aload_n 0, 1) := by decide +kernel
theorem dX8_blown_39 : decode cX8_blown 39 = .ok (.getfield 24, 3) := by decide +kernel
theorem dX8_blown_42 : decode cX8_blown 42 = .ok (.iconst 1, 1) := by decide +kernel
theorem dX8_blown_43 : decode cX8_blown 43 = .ok (.iload_n 3, 1) := by decide +kernel
theorem dX8_blown_44 : decode cX8_blown 44 = .ok (.invokevirtual 175, 3) := by decide +kernel
theorem dX8_blown_47 : decode cX8_blown 47 = .ok (.astore 6, 2) := by decide +kernel
theorem dX8_blown_49 : decode cX8_blown 49 = .ok (.aload 6, 2) := by decide +kernel
theorem dX8_blown_51 : decode cX8_blown 51 = .ok (.ifnull 22, 3) := by decide +kernel
theorem dX8_blown_54 : decode cX8_blown 54 = .ok (.iload 4, 2) := by decide +kernel
theorem dX8_blown_56 : decode cX8_blown 56 = .ok (.bipush 6, 2) := by decide +kernel
theorem dX8_blown_58 : decode cX8_blown 58 = .ok (.if_icmp .eq 15, 3) := by decide +kernel
theorem dX8_blown_61 : decode cX8_blown 61 = .ok (.aload_n 0, 1) := by decide +kernel
theorem dX8_blown_62 : decode cX8_blown 62 = .ok (.getfield 24, 3) := by decide +kernel
theorem dX8_blown_65 : decode cX8_blown 65 = .ok (.iconst 2, 1) := by decide +kernel
theorem dX8_blown_66 : decode cX8_blown 66 = .ok (.iload 4, 2) := by decide +kernel
theorem dX8_blown_68 : decode cX8_blown 68 = .ok (.invokevirtual 175, 3) := by decide +kernel
theorem dX8_blown_71 : decode cX8_blown 71 = .ok (.astore 6, 2) := by decide +kernel
theorem dX8_blown_73 : decode cX8_blown 73 = .ok (.aload 6, 2) := by decide +kernel
theorem dX8_blown_75 : decode cX8_blown 75 = .ok (.ifnonnull 8, 3) := by decide +kernel
theorem dX8_blown_78 : decode cX8_blown 78 = .ok (.ldc 167, 2) := by decide +kernel
theorem dX8_blown_80 : decode cX8_blown 80 = .ok (.goto 8, 3) := by decide +kernel
theorem dX8_blown_83 : decode cX8_blown 83 = .ok (.aload 6, 2) := by decide +kernel
theorem dX8_blown_85 : decode cX8_blown 85 = .ok (.invokevirtual 144, 3) := by decide +kernel
theorem dX8_blown_88 : decode cX8_blown 88 = .ok (.ireturn, 1) := by decide +kernel
theorem dX8_tree_0 : decode cX8_tree 0 = .ok (.aload_n 0, 1) := by decide +kernel
theorem dX8_tree_1 : decode cX8_tree 1 = .ok (.iload_n 1, 1) := by decide +kernel
theorem dX8_tree_2 : decode cX8_tree 2 = .ok (.iload_n 2, 1) := by decide +kernel
theorem dX8_tree_3 : decode cX8_tree 3 = .ok (.invokevirtual 140, 3) := by decide +kernel
theorem dX8_tree_6 : decode cX8_tree 6 = .ok (.astore 5, 2) := by decide +kernel
theorem dX8_tree_8 : decode cX8_tree 8 = .ok (.aload 5, 2) := by decide +kernel
theorem dX8_tree_10 : decode cX8_tree 10 = .ok (.ifnull 24, 3) := by decide +kernel
theorem dX8_tree_13 : decode cX8_tree 13 = .ok (.iload_n 3, 1) := by decide +kernel
theorem dX8_tree_14 : decode cX8_tree 14 = .ok (.iconst 1, 1) := by decide +kernel
theorem dX8_tree_15 : decode cX8_tree 15 = .ok (.if_icmp .lt 19, 3) := by decide +kernel
theorem dX8_tree_18 : decode cX8_tree 18 = .ok (.iload_n 3, 1) := by decide +kernel
theorem dX8_tree_19 : decode cX8_tree 19 = .ok (.iconst 3, 1) := by decide +kernel
theorem dX8_tree_20 : decode cX8_tree 20 = .ok (.if_icmp .gt 14, 3) := by decide +kernel
theorem dX8_tree_23 : decode cX8_tree 23 = .ok (.iload 4, 2) := by decide +kernel
theorem dX8_tree_25 : decode cX8_tree 25 = .ok (.ifCond .lt 9, 3) := by decide +kernel
theorem dX8_tree_28 : decode cX8_tree 28 = .ok (.iload 4, 2) := by decide +kernel
theorem dX8_tree_30 : decode cX8_tree 30 = .ok (.iconst 2, 1) := by decide +kernel
theorem dX8_tree_31 : decode cX8_tree 31 = .ok (.if_icmp .le 6, 3) := by decide +kernel
theorem dX8_tree_34 : decode cX8_tree 34 = .ok (.ldc 68, 2) := by decide +kernel
theorem dX8_tree_36 : decode cX8_tree 36 = .ok (.ireturn, 1) := by decide +kernel
theorem dX8_tree_37 : decode cX8_tree 37 = .ok (.aload_n 0, 1) := by decide +kernel
theorem dX8_tree_38 : decode cX8_tree 38 = .ok (.getfield 24, 3) := by decide +kernel
theorem dX8_tree_41 : decode cX8_tree 41 = .ok (.iload_n 3, 1) := by decide +kernel
theorem dX8_tree_42 : decode cX8_tree 42 = .ok (.invokevirtual 178, 3) := by decide +kernel
theorem dX8_tree_45 : decode cX8_tree 45 = .ok (.iload 4, 2) := by decide +kernel
theorem dX8_tree_47 : decode cX8_tree 47 = .ok (.ifCond .ne 11, 3) := by decide +kernel
theorem dX8_tree_50 : decode cX8_tree 50 = .ok (.aload_n 0, 1) := by decide +kernel
theorem dX8_tree_51 : decode cX8_tree 51 = .ok (.getfield 24, 3) := by decide +kernel
theorem dX8_tree_54 : decode cX8_tree 54 = .ok (.getfield 182, 3) := by decide +kernel
theorem dX8_tree_57 : decode cX8_tree 57 = .ok (.ireturn, 1) := by decide +kernel
theorem dX8_tree_58 : decode cX8_tree 58 = .ok (.iload 4, 2) := by decide +kernel
theorem dX8_tree_60 : decode cX8_tree 60 = .ok (.iconst 1, 1) := by decide +kernel
theorem dX8_tree_61 : decode cX8_tree 61 = .ok (.if_icmp .ne 13, 3) := by decide +kernel
theorem dX8_tree_64 : decode cX8_tree 64 = .ok (.aload_n 0, 1) := by decide +kernel
theorem dX8_tree_65 : decode cX8_tree 65 = .ok (.getfield 24, 3) := by decide +kernel
theorem dX8_tree_68 : decode cX8_tree 68 = .ok (.getfield 185, 3) := by decide +kernel
theorem dX8_tree_71 : decode cX8_tree 71 = .ok (.goto 10, 3) := by decide +kernel
theorem dX8_tree_74 : decode cX8_tree 74 = .ok (.aload_n 0, 1) := by decide +kernel
theorem dX8_tree_75 : decode cX8_tree 75 = .ok (.getfield 24, 3) := by decide +kernel
theorem dX8_tree_78 : decode cX8_tree 78 = .ok (.getfield 188, 3) := by decide +kernel
theorem dX8_tree_81 : decode cX8_tree 81 = .ok (.ireturn, 1) := by decide +kernel
theorem dX8_corner_0 : decode cX8_corner 0 = .ok (.aload_n 0, 1) := by decide +kernel
theorem dX8_corner_1 : decode cX8_corner 1 = .ok (.iload_n 1, 1) := by decide +kernel
theorem dX8_corner_2 : decode cX8_corner 2 = .ok (.iload_n 2, 1) := by decide +kernel
theorem dX8_corner_3 : decode cX8_corner 3 = .ok (.invokevirtual 140, 3) := by decide +kernel
theorem dX8_corner_6 : decode cX8_corner 6 = .ok (.astore 4, 2) := by decide +kernel
theorem dX8_corner_8 : decode cX8_corner 8 = .ok (.aload 4, 2) := by decide +kernel
theorem dX8_corner_10 : decode cX8_corner 10 = .ok (.ifnull 12, 3) := by decide +kernel
theorem dX8_corner_13 : decode cX8_corner 13 = .ok (.iload_n 3, 1) := by decide +kernel
theorem dX8_corner_14 : decode cX8_corner 14 = .ok (.ifCond .lt 8, 3) := by decide +kernel
theorem dX8_corner_17 : decode cX8_corner 17 = .ok (.iload_n 3, 1) := by decide +kernel
theorem dX8_corner_18 : decode cX8_corner 18 = .ok (.iconst 4, 1) := by decide +kernel
theorem dX8_corner_19 : decode cX8_corner 19 = .ok (.if_icmp .le 6, 3) := by decide +kernel
theorem dX8_corner_22 : decode cX8_corner 22 = .ok (.ldc 68, 2) := by decide +kernel
theorem dX8_corner_24 : decode cX8_corner 24 = .ok (.ireturn, 1) := by decide +kernel
theorem dX8_corner_25 : decode cX8_corner 25 = .ok (.aload 4, 2) := by decide +kernel
theorem dX8_corner_27 : decode cX8_corner 27 = .ok (.iload_n 3, 1) := by decide +kernel
theorem dX8_corner_28 : decode cX8_corner 28 = .ok (.invokevirtual 191, 3) := by decide +kernel
theorem dX8_corner_31 : decode cX8_corner 31 = .ok (.istore 5, 2) := by decide +kernel
theorem dX8_corner_33 : decode cX8_corner 33 = .ok (.iload 5, 2) := by decide +kernel
theorem dX8_corner_35 : decode cX8_corner 35 = .ok (.bipush 17, 2) := by decide +kernel
theorem dX8_corner_37 : decode cX8_corner 37 = .ok (.if_icmp .ne 8, 3) := by decide +kernel
theorem dX8_corner_40 : decode cX8_corner 40 = .ok (.ldc 194, 2) := by decide +kernel
theorem dX8_corner_42 : decode cX8_corner 42 = .ok (.goto 5, 3) := by decide +kernel
theorem dX8_corner_45 : decode cX8_corner 45 = .ok (.iload 5, 2) := by decide +kernel
theorem dX8_corner_47 : decode cX8_corner 47 = .ok (.ireturn, 1) := by decide +kernel
theorem dX8_power_0 : decode cX8_power 0 = .ok (.aload_n 0, 1) := by decide +kernel
theorem dX8_power_1 : decode cX8_power 1 = .ok (.iload_n 1, 1) := by decide +kernel
theorem dX8_power_2 : decode cX8_power 2 = .ok (.iload_n 2, 1) := by decide +kernel
theorem dX8_power_3 : decode cX8_power 3 = .ok (.invokevirtual 140, 3) := by decide +kernel
theorem dX8_power_6 : decode cX8_power 6 = .ok (.astore 4, 2) := by decide +kernel
theorem dX8_power_8 : decode cX8_power 8 = .ok (.aload 4, 2) := by decide +kernel
theorem dX8_power_10 : decode cX8_power 10 = .ok (.ifnull 12, 3) := by decide +kernel
theorem dX8_power_13 : decode cX8_power 13 = .ok (.iload_n 3, 1) := by decide +kernel
theorem dX8_power_14 : decode cX8_power 14 = .ok (.ifCond .lt 8, 3) := by decide +kernel
theorem dX8_power_17 : decode cX8_power 17 = .ok (.iload_n 3, 1) := by decide +kernel
theorem dX8_power_18 : decode cX8_power 18 = .ok (.iconst 1, 1) := by decide +kernel
theorem dX8_power_19 : decode cX8_power 19 = .ok (.if_icmp .le 6, 3) := by decide +kernel
theorem dX8_power_22 : decode cX8_power 22 = .ok (.ldc 68, 2) := by decide +kernel
theorem dX8_power_24 : decode cX8_power 24 = .ok (.ireturn, 1) := by decide +kernel
theorem dX8_power_25 : decode cX8_power 25 = .ok (.aload 4, 2) := by decide +kernel
theorem dX8_power_27 : decode cX8_power 27 = .ok (.invokevirtual 195, 3) := by decide +kernel
theorem dX8_power_30 : decode cX8_power 30 = .ok (.istore 5, 2) := by decide +kernel
theorem dX8_power_32 : decode cX8_power 32 = .ok (.aload 4, 2) := by decide +kernel
theorem dX8_power_34 : decode cX8_power 34 = .ok (.iload 5, 2) := by decide +kernel
theorem dX8_power_36 : decode cX8_power 36 = .ok (.invokevirtual 198, 3) := by decide +kernel
theorem dX8_power_39 : decode cX8_power 39 = .ok (.istore 6, 2) := by decide +kernel
theorem dX8_power_41 : decode cX8_power 41 = .ok (.iload 6, 2) := by decide +kernel
theorem dX8_power_43 : decode cX8_power 43 = .ok (.ifCond .ge 6, 3) := by decide +kernel
theorem dX8_power_46 : decode cX8_power 46 = .ok (.ldc 194, 2) := by decide +kernel
theorem dX8_power_48 : decode cX8_power 48 = .ok (.ireturn, 1) := by decide +kernel
theorem dX8_power_49 : decode cX8_power 49 = .ok (.aload 4, 2) := by decide +kernel
theorem dX8_power_51 : decode cX8_power 51 = .ok (.iload 5, 2) := by decide +kernel
theorem dX8_power_53 : decode cX8_power 53 = .ok (.invokevirtual 191, 3) := by decide +kernel
theorem dX8_power_56 : decode cX8_power 56 = .ok (.aload 4, 2) := by decide +kernel
theorem dX8_power_58 : decode cX8_power 58 = .ok (.iload 6, 2) := by decide +kernel
theorem dX8_power_60 : decode cX8_power 60 = .ok (.invokevirtual 191, 3) := by decide +kernel
theorem dX8_power_63 : decode cX8_power 63 = .ok (.isub, 1) := by decide +kernel
theorem dX8_power_64 : decode cX8_power 64 = .ok (.istore 7, 2) := by decide +kernel
theorem dX8_power_66 : decode cX8_power 66 = .ok (.iload 6, 2) := by decide +kernel
theorem dX8_power_68 : decode cX8_power 68 = .ok (.iload 5, 2) := by decide +kernel
theorem dX8_power_70 : decode cX8_power 70 = .ok (.isub, 1) := by decide +kernel
theorem dX8_power_71 : decode cX8_power 71 = .ok (.istore 8, 2) := by decide +kernel
theorem dX8_power_73 : decode cX8_power 73 = .ok (.iload 7, 2) := by decide +kernel
theorem dX8_power_75 : decode cX8_power 75 = .ok (.invokestatic 201, 3) := by decide +kernel
theorem dX8_power_78 : decode cX8_power 78 = .ok (.iload 8, 2) := by decide +kernel
theorem dX8_power_80 : decode cX8_power 80 = .ok (.invokestatic 206, 3) := by decide +kernel
theorem dX8_power_83 : decode cX8_power 83 = .ok (.istore 9, 2) := by decide +kernel
theorem dX8_power_85 : decode cX8_power 85 = .ok (.iload 9, 2) := by decide +kernel
theorem dX8_power_87 : decode cX8_power 87 = .ok (.iconst 1, 1) := by decide +kernel
theorem dX8_power_88 : decode cX8_power 88 = .ok (.if_icmp .ge 6, 3) := by decide +kernel
theorem dX8_power_91 : decode cX8_power 91 = .ok (.ldc 194, 2) := by decide +kernel
theorem dX8_power_93 : decode cX8_power 93 = .ok (.ireturn, 1) := by decide +kernel
theorem dX8_power_94 : decode cX8_power 94 = .ok (.iload_n 3, 1) := by decide +kernel
theorem dX8_power_95 : decode cX8_power 95 = .ok (.ifCond .ne 11, 3) := by decide +kernel
theorem dX8_power_98 : decode cX8_power 98 = .ok (.iload 7, 2) := by decide +kernel
theorem dX8_power_100 : decode cX8_power 100 = .ok (.iload 9, 2) := by decide +kernel
theorem dX8_power_102 : decode cX8_power 102 = .ok (.idiv, 1) := by decide +kernel
theorem dX8_power_103 : decode cX8_power 103 = .ok (.goto 8, 3) := by decide +kernel
theorem dX8_power_106 : decode cX8_power 106 = .ok (.iload 8, 2) := by decide +kernel
theorem dX8_power_108 : decode cX8_power 108 = .ok (.iload 9, 2) := by decide +kernel
theorem dX8_power_110 : decode cX8_power 110 = .ok (.idiv, 1) := by decide +kernel
theorem dX8_power_111 : decode cX8_power 111 = .ok (.ireturn, 1) := by decide +kernel
theorem dX8_line_0 : decode cX8_line 0 = .ok (.aload_n 0, 1) := by decide +kernel
theorem dX8_line_1 : decode cX8_line 1 = .ok (.iload_n 1, 1) := by decide +kernel
theorem dX8_line_2 : decode cX8_line 2 = .ok (.iload_n 2, 1) := by decide +kernel
theorem dX8_line_3 : decode cX8_line 3 = .ok (.invokevirtual 140, 3) := by decide +kernel
theorem dX8_line_6 : decode cX8_line 6 = .ok (.astore 4, 2) := by decide +kernel
theorem dX8_line_8 : decode cX8_line 8 = .ok (.aload 4, 2) := by decide +kernel
theorem dX8_line_10 : decode cX8_line 10 = .ok (.ifnull 16, 3) := by decide +kernel
theorem dX8_line_13 : decode cX8_line 13 = .ok (.iload_n 3, 1) := by decide +kernel
theorem dX8_line_14 : decode cX8_line 14 = .ok (.bipush 6, 2) := by decide +kernel
theorem dX8_line_16 : decode cX8_line 16 = .ok (.if_icmp .eq 13, 3) := by decide +kernel
theorem dX8_line_19 : decode cX8_line 19 = .ok (.iload_n 3, 1) := by decide +kernel
theorem dX8_line_20 : decode cX8_line 20 = .ok (.invokestatic 168, 3) := by decide +kernel
theorem dX8_line_23 : decode cX8_line 23 = .ok (.ifCond .ne 6, 3) := by decide +kernel
theorem dX8_line_26 : decode cX8_line 26 = .ok (.ldc 68, 2) := by decide +kernel
theorem dX8_line_28 : decode cX8_line 28 = .ok (.ireturn, 1) := by decide +kernel
theorem dX8_line_29 : decode cX8_line 29 = .ok (.iload_n 3, 1) := by decide +kernel
theorem dX8_line_30 : decode cX8_line 30 = .ok (.bipush 6, 2) := by decide +kernel
theorem dX8_line_32 : decode cX8_line 32 = .ok (.if_icmp .ne 11, 3) := by decide +kernel
theorem dX8_line_35 : decode cX8_line 35 = .ok (.aload 4, 2) := by decide +kernel
theorem dX8_line_37 : decode cX8_line 37 = .ok (.invokevirtual 209, 3) := by decide +kernel
theorem dX8_line_40 : decode cX8_line 40 = .ok (.goto 9, 3) := by decide +kernel
theorem dX8_line_43 : decode cX8_line 43 = .ok (.aload 4, 2) := by decide +kernel
theorem dX8_line_45 : decode cX8_line 45 = .ok (.iload_n 3, 1) := by decide +kernel
theorem dX8_line_46 : decode cX8_line 46 = .ok (.invokevirtual 212, 3) := by decide +kernel
theorem dX8_line_49 : decode cX8_line 49 = .ok (.ireturn, 1) := by decide +kernel
theorem dX8_all_0 : decode cX8_all 0 = .ok (.aload_n 0, 1) := by decide +kernel
theorem dX8_all_1 : decode cX8_all 1 = .ok (.getfield 10, 3) := by decide +kernel
theorem dX8_all_4 : decode cX8_all 4 = .ok (.iload_n 1, 1) := by decide +kernel
theorem dX8_all_5 : decode cX8_all 5 = .ok (.invokevirtual 77, 3) := by decide +kernel
theorem dX8_all_8 : decode cX8_all 8 = .ok (.astore_n 3, 1) := by decide +kernel
theorem dX8_all_9 : decode cX8_all 9 = .ok (.aload_n 3, 1) := by decide +kernel
theorem dX8_all_10 : decode cX8_all 10 = .ok (.ifnull 12, 3) := by decide +kernel
theorem dX8_all_13 : decode cX8_all 13 = .ok (.iload_n 2, 1) := by decide +kernel
theorem dX8_all_14 : decode cX8_all 14 = .ok (.ifCond .lt 8, 3) := by decide +kernel
theorem dX8_all_17 : decode cX8_all 17 = .ok (.iload_n 2, 1) := by decide +kernel
theorem dX8_all_18 : decode cX8_all 18 = .ok (.iconst 2, 1) := by decide +kernel
theorem dX8_all_19 : decode cX8_all 19 = .ok (.if_icmp .le 6, 3) := by decide +kernel
theorem dX8_all_22 : decode cX8_all 22 = .ok (.ldc 68, 2) := by decide +kernel
theorem dX8_all_24 : decode cX8_all 24 = .ok (.ireturn, 1) := by decide +kernel
theorem dX8_all_25 : decode cX8_all 25 = .ok (.aload_n 0, 1) := by decide +kernel
theorem dX8_all_26 : decode cX8_all 26 = .ok (.getfield 24, 3) := by decide +kernel
theorem dX8_all_29 : decode cX8_all 29 = .ok (.aload_n 3, 1) := by decide +kernel
theorem dX8_all_30 : decode cX8_all 30 = .ok (.invokevirtual 215, 3) := by decide +kernel
theorem dX8_all_33 : decode cX8_all 33 = .ok (.iload_n 2, 1) := by decide +kernel
theorem dX8_all_34 : decode cX8_all 34 = .ok (.iconst 2, 1) := by decide +kernel
theorem dX8_all_35 : decode cX8_all 35 = .ok (.if_icmp .ne 13, 3) := by decide +kernel
theorem dX8_all_38 : decode cX8_all 38 = .ok (.aload_n 0, 1) := by decide +kernel
theorem dX8_all_39 : decode cX8_all 39 = .ok (.getfield 24, 3) := by decide +kernel
theorem dX8_all_42 : decode cX8_all 42 = .ok (.invokevirtual 218, 3) := by decide +kernel
theorem dX8_all_45 : decode cX8_all 45 = .ok (.goto 19, 3) := by decide +kernel
theorem dX8_all_48 : decode cX8_all 48 = .ok (.aload_n 0, 1) := by decide +kernel
theorem dX8_all_49 : decode cX8_all 49 = .ok (.getfield 24, 3) := by decide +kernel
theorem dX8_all_52 : decode cX8_all 52 = .ok (.iload_n 2, 1) := by decide +kernel
theorem dX8_all_53 : decode cX8_all 53 = .ok (.ifCond .ne 7, 3) := by decide +kernel
theorem dX8_all_56 : decode cX8_all 56 = .ok (.iconst 1, 1) := by decide +kernel
theorem dX8_all_57 : decode cX8_all 57 = .ok (.goto 4, 3) := by decide +kernel
theorem dX8_all_60 : decode cX8_all 60 = .ok (.iconst 2, 1) := by decide +kernel
theorem dX8_all_61 : decode cX8_all 61 = .ok (.invokevirtual 221, 3) := by decide +kernel
theorem dX8_all_64 : decode cX8_all 64 = .ok (.ireturn, 1) := by decide +kernel
theorem dX8_on_0 : decode cX8_on 0 = .ok (.aload_n 0, 1) := by decide +kernel
theorem dX8_on_1 : decode cX8_on 1 = .ok (.getfield 10, 3) := by decide +kernel
theorem dX8_on_4 : decode cX8_on 4 = .ok (.iload_n 1, 1) := by decide +kernel
theorem dX8_on_5 : decode cX8_on 5 = .ok (.invokevirtual 77, 3) := by decide +kernel
theorem dX8_on_8 : decode cX8_on 8 = .ok (.astore_n 3, 1) := by decide +kernel
theorem dX8_on_9 : decode cX8_on 9 = .ok (.aload_n 3, 1) := by decide +kernel
theorem dX8_on_10 : decode cX8_on 10 = .ok (.ifnull 7, 3) := by decide +kernel
theorem dX8_on_13 : decode cX8_on 13 = .ok (.iload_n 2, 1) := by decide +kernel
theorem dX8_on_14 : decode cX8_on 14 = .ok (.ifCond .ge 6, 3) := by decide +kernel
theorem dX8_on_17 : decode cX8_on 17 = .ok (.ldc 68, 2) := by decide +kernel
theorem dX8_on_19 : decode cX8_on 19 = .ok (.ireturn, 1) := by decide +kernel
theorem dX8_on_20 : decode cX8_on 20 = .ok (.aload_n 0, 1) := by decide +kernel
theorem dX8_on_21 : decode cX8_on 21 = .ok (.getfield 24, 3) := by decide +kernel
theorem dX8_on_24 : decode cX8_on 24 = .ok (.aload_n 3, 1) := by decide +kernel
theorem dX8_on_25 : decode cX8_on 25 = .ok (.invokevirtual 215, 3) := by decide +kernel
theorem dX8_on_28 : decode cX8_on 28 = .ok (.aload_n 0, 1) := by decide +kernel
theorem dX8_on_29 : decode cX8_on 29 = .ok (.getfield 24, 3) := by decide +kernel
theorem dX8_on_32 : decode cX8_on 32 = .ok (.iload_n 2, 1) := by decide +kernel
theorem dX8_on_33 : decode cX8_on 33 = .ok (.invokevirtual 224, 3) := by decide +kernel
theorem dX8_on_36 : decode cX8_on 36 = .ok (.ireturn, 1) := by decide +kernel
theorem dX8_genus_0 : decode cX8_genus 0 = .ok (.aload_n 0, 1) := by decide +kernel
theorem dX8_genus_1 : decode cX8_genus 1 = .ok (.getfield 10, 3) := by decide +kernel
theorem dX8_genus_4 : decode cX8_genus 4 = .ok (.iload_n 1, 1) := by decide +kernel
theorem dX8_genus_5 : decode cX8_genus 5 = .ok (.invokevirtual 77, 3) := by decide +kernel
theorem dX8_genus_8 : decode cX8_genus 8 = .ok (.astore_n 2, 1) := by decide +kernel
theorem dX8_genus_9 : decode cX8_genus 9 = .ok (.aload_n 2, 1) := by decide +kernel
theorem dX8_genus_10 : decode cX8_genus 10 = .ok (.ifnonnull 6, 3) := by decide +kernel
theorem dX8_genus_13 : decode cX8_genus 13 = .ok (.ldc 68, 2) := by decide +kernel
theorem dX8_genus_15 : decode cX8_genus 15 = .ok (.ireturn, 1) := by decide +kernel
theorem dX8_genus_16 : decode cX8_genus 16 = .ok (.aload_n 0, 1) := by decide +kernel
theorem dX8_genus_17 : decode cX8_genus 17 = .ok (.getfield 24, 3) := by decide +kernel
theorem dX8_genus_20 : decode cX8_genus 20 = .ok (.aload_n 2, 1) := by decide +kernel
theorem dX8_genus_21 : decode cX8_genus 21 = .ok (.invokevirtual 215, 3) := by decide +kernel
theorem dX8_genus_24 : decode cX8_genus 24 = .ok (.aload_n 0, 1) := by decide +kernel
theorem dX8_genus_25 : decode cX8_genus 25 = .ok (.getfield 24, 3) := by decide +kernel
theorem dX8_genus_28 : decode cX8_genus 28 = .ok (.invokevirtual 109, 3) := by decide +kernel
theorem dX8_genus_31 : decode cX8_genus 31 = .ok (.istore_n 3, 1) := by decide +kernel
theorem dX8_genus_32 : decode cX8_genus 32 = .ok (.iload_n 3, 1) := by decide +kernel
theorem dX8_genus_33 : decode cX8_genus 33 = .ok (.ifCond .ge 8, 3) := by decide +kernel
theorem dX8_genus_36 : decode cX8_genus 36 = .ok (.ldc 167, 2) := by decide +kernel
theorem dX8_genus_38 : decode cX8_genus 38 = .ok (.goto 20, 3) := by decide +kernel
theorem dX8_genus_41 : decode cX8_genus 41 = .ok (.iload_n 3, 1) := by decide +kernel
theorem dX8_genus_42 : decode cX8_genus 42 = .ok (.iconst 1, 1) := by decide +kernel
theorem dX8_genus_43 : decode cX8_genus 43 = .ok (.isub, 1) := by decide +kernel
theorem dX8_genus_44 : decode cX8_genus 44 = .ok (.iload_n 3, 1) := by decide +kernel
theorem dX8_genus_45 : decode cX8_genus 45 = .ok (.iconst 2, 1) := by decide +kernel
theorem dX8_genus_46 : decode cX8_genus 46 = .ok (.isub, 1) := by decide +kernel
theorem dX8_genus_47 : decode cX8_genus 47 = .ok (.imul, 1) := by decide +kernel
theorem dX8_genus_48 : decode cX8_genus 48 = .ok (.iconst 2, 1) := by decide +kernel
theorem dX8_genus_49 : decode cX8_genus 49 = .ok (.idiv, 1) := by decide +kernel
theorem dX8_genus_50 : decode cX8_genus 50 = .ok (.aload_n 0, 1) := by decide +kernel
theorem dX8_genus_51 : decode cX8_genus 51 = .ok (.getfield 24, 3) := by decide +kernel
theorem dX8_genus_54 : decode cX8_genus 54 = .ok (.invokevirtual 227, 3) := by decide +kernel
theorem dX8_genus_57 : decode cX8_genus 57 = .ok (.isub, 1) := by decide +kernel
theorem dX8_genus_58 : decode cX8_genus 58 = .ok (.ireturn, 1) := by decide +kernel
theorem dX8_both_0 : decode cX8_both 0 = .ok (.aload_n 0, 1) := by decide +kernel
theorem dX8_both_1 : decode cX8_both 1 = .ok (.getfield 10, 3) := by decide +kernel
theorem dX8_both_4 : decode cX8_both 4 = .ok (.iload_n 1, 1) := by decide +kernel
theorem dX8_both_5 : decode cX8_both 5 = .ok (.invokevirtual 77, 3) := by decide +kernel
theorem dX8_both_8 : decode cX8_both 8 = .ok (.astore_n 3, 1) := by decide +kernel
theorem dX8_both_9 : decode cX8_both 9 = .ok (.aload_n 0, 1) := by decide +kernel
theorem dX8_both_10 : decode cX8_both 10 = .ok (.getfield 10, 3) := by decide +kernel
theorem dX8_both_13 : decode cX8_both 13 = .ok (.iload_n 2, 1) := by decide +kernel
theorem dX8_both_14 : decode cX8_both 14 = .ok (.invokevirtual 77, 3) := by decide +kernel
theorem dX8_both_17 : decode cX8_both 17 = .ok (.astore 4, 2) := by decide +kernel
theorem dX8_both_19 : decode cX8_both 19 = .ok (.aload_n 3, 1) := by decide +kernel
theorem dX8_both_20 : decode cX8_both 20 = .ok (.ifnull 8, 3) := by decide +kernel
theorem dX8_both_23 : decode cX8_both 23 = .ok (.aload 4, 2) := by decide +kernel
theorem dX8_both_25 : decode cX8_both 25 = .ok (.ifnonnull 6, 3) := by decide +kernel
theorem dX8_both_28 : decode cX8_both 28 = .ok (.ldc 68, 2) := by decide +kernel
theorem dX8_both_30 : decode cX8_both 30 = .ok (.ireturn, 1) := by decide +kernel
theorem dX8_both_31 : decode cX8_both 31 = .ok (.aload_n 0, 1) := by decide +kernel
theorem dX8_both_32 : decode cX8_both 32 = .ok (.getfield 24, 3) := by decide +kernel
theorem dX8_both_35 : decode cX8_both 35 = .ok (.aload_n 3, 1) := by decide +kernel
theorem dX8_both_36 : decode cX8_both 36 = .ok (.invokevirtual 215, 3) := by decide +kernel
theorem dX8_both_39 : decode cX8_both 39 = .ok (.aload_n 0, 1) := by decide +kernel
theorem dX8_both_40 : decode cX8_both 40 = .ok (.getfield 24, 3) := by decide +kernel
theorem dX8_both_43 : decode cX8_both 43 = .ok (.invokevirtual 230, 3) := by decide +kernel
theorem dX8_both_46 : decode cX8_both 46 = .ok (.aload_n 0, 1) := by decide +kernel
theorem dX8_both_47 : decode cX8_both 47 = .ok (.getfield 24, 3) := by decide +kernel
theorem dX8_both_50 : decode cX8_both 50 = .ok (.aload 4, 2) := by decide +kernel
theorem dX8_both_52 : decode cX8_both 52 = .ok (.invokevirtual 215, 3) := by decide +kernel
theorem dX8_both_55 : decode cX8_both 55 = .ok (.aload_n 0, 1) := by decide +kernel
theorem dX8_both_56 : decode cX8_both 56 = .ok (.getfield 24, 3) := by decide +kernel
theorem dX8_both_59 : decode cX8_both 59 = .ok (.invokevirtual 233, 3) := by decide +kernel
theorem dX8_both_62 : decode cX8_both 62 = .ok (.ireturn, 1) := by decide +kernel
theorem dX8_feed_0 : decode cX8_feed 0 = .ok (.aload_n 0, 1) := by decide +kernel
theorem dX8_feed_1 : decode cX8_feed 1 = .ok (.getfield 34, 3) := by decide +kernel
theorem dX8_feed_4 : decode cX8_feed 4 = .ok (.getfield 236, 3) := by decide +kernel
theorem dX8_feed_7 : decode cX8_feed 7 = .ok (.bipush 84, 2) := by decide +kernel
theorem dX8_feed_9 : decode cX8_feed 9 = .ok (.if_icmp .le 6, 3) := by decide +kernel
theorem dX8_feed_12 : decode cX8_feed 12 = .ok (.ldc 73, 2) := by decide +kernel
theorem dX8_feed_14 : decode cX8_feed 14 = .ok (.ireturn, 1) := by decide +kernel
theorem dX8_feed_15 : decode cX8_feed 15 = .ok (.aload_n 0, 1) := by decide +kernel
theorem dX8_feed_16 : decode cX8_feed 16 = .ok (.getfield 34, 3) := by decide +kernel
theorem dX8_feed_19 : decode cX8_feed 19 = .ok (.iload_n 1, 1) := by decide +kernel
theorem dX8_feed_20 : decode cX8_feed 20 = .ok (.invokevirtual 239, 3) := by decide +kernel
theorem dX8_feed_23 : decode cX8_feed 23 = .ok (.aload_n 0, 1) := by decide +kernel
theorem dX8_feed_24 : decode cX8_feed 24 = .ok (.getfield 34, 3) := by decide +kernel
theorem dX8_feed_27 : decode cX8_feed 27 = .ok (.iload_n 2, 1) := by decide +kernel
theorem dX8_feed_28 : decode cX8_feed 28 = .ok (.invokevirtual 239, 3) := by decide +kernel
theorem dX8_feed_31 : decode cX8_feed 31 = .ok (.aload_n 0, 1) := by decide +kernel
theorem dX8_feed_32 : decode cX8_feed 32 = .ok (.getfield 34, 3) := by decide +kernel
theorem dX8_feed_35 : decode cX8_feed 35 = .ok (.iload_n 3, 1) := by decide +kernel
theorem dX8_feed_36 : decode cX8_feed 36 = .ok (.invokevirtual 239, 3) := by decide +kernel
theorem dX8_feed_39 : decode cX8_feed 39 = .ok (.aload_n 0, 1) := by decide +kernel
theorem dX8_feed_40 : decode cX8_feed 40 = .ok (.getfield 34, 3) := by decide +kernel
theorem dX8_feed_43 : decode cX8_feed 43 = .ok (.getfield 236, 3) := by decide +kernel
theorem dX8_feed_46 : decode cX8_feed 46 = .ok (.ireturn, 1) := by decide +kernel
theorem dX8_trim_0 : decode cX8_trim 0 = .ok (.iload_n 1, 1) := by decide +kernel
theorem dX8_trim_1 : decode cX8_trim 1 = .ok (.ifCond .lt 14, 3) := by decide +kernel
theorem dX8_trim_4 : decode cX8_trim 4 = .ok (.iload_n 1, 1) := by decide +kernel
theorem dX8_trim_5 : decode cX8_trim 5 = .ok (.aload_n 0, 1) := by decide +kernel
theorem dX8_trim_6 : decode cX8_trim 6 = .ok (.getfield 34, 3) := by decide +kernel
theorem dX8_trim_9 : decode cX8_trim 9 = .ok (.getfield 236, 3) := by decide +kernel
theorem dX8_trim_12 : decode cX8_trim 12 = .ok (.if_icmp .le 6, 3) := by decide +kernel
theorem dX8_trim_15 : decode cX8_trim 15 = .ok (.ldc 68, 2) := by decide +kernel
theorem dX8_trim_17 : decode cX8_trim 17 = .ok (.ireturn, 1) := by decide +kernel
theorem dX8_trim_18 : decode cX8_trim 18 = .ok (.aload_n 0, 1) := by decide +kernel
theorem dX8_trim_19 : decode cX8_trim 19 = .ok (.getfield 34, 3) := by decide +kernel
theorem dX8_trim_22 : decode cX8_trim 22 = .ok (.iload_n 1, 1) := by decide +kernel
theorem dX8_trim_23 : decode cX8_trim 23 = .ok (.putfield 236, 3) := by decide +kernel
theorem dX8_trim_26 : decode cX8_trim 26 = .ok (.iload_n 1, 1) := by decide +kernel
theorem dX8_trim_27 : decode cX8_trim 27 = .ok (.ireturn, 1) := by decide +kernel
theorem dX8_text_0 : decode cX8_text 0 = .ok (.aload_n 0, 1) := by decide +kernel
theorem dX8_text_1 : decode cX8_text 1 = .ok (.getfield 34, 3) := by decide +kernel
theorem dX8_text_4 : decode cX8_text 4 = .ok (.invokevirtual 242, 3) := by decide +kernel
theorem dX8_text_7 : decode cX8_text 7 = .ok (.istore_n 1, 1) := by decide +kernel
theorem dX8_text_8 : decode cX8_text 8 = .ok (.aload_n 0, 1) := by decide +kernel
theorem dX8_text_9 : decode cX8_text 9 = .ok (.getfield 34, 3) := by decide +kernel
theorem dX8_text_12 : decode cX8_text 12 = .ok (.iconst 0, 1) := by decide +kernel
theorem dX8_text_13 : decode cX8_text 13 = .ok (.putfield 236, 3) := by decide +kernel
theorem dX8_text_16 : decode cX8_text 16 = .ok (.iload_n 1, 1) := by decide +kernel
theorem dX8_text_17 : decode cX8_text 17 = .ok (.ifCond .lt 8, 3) := by decide +kernel
theorem dX8_text_20 : decode cX8_text 20 = .ok (.bipush (-100), 2) := by decide +kernel
theorem dX8_text_22 : decode cX8_text 22 = .ok (.iload_n 1, 1) := by decide +kernel
theorem dX8_text_23 : decode cX8_text 23 = .ok (.isub, 1) := by decide +kernel
theorem dX8_text_24 : decode cX8_text 24 = .ok (.ireturn, 1) := by decide +kernel
theorem dX8_text_25 : decode cX8_text 25 = .ok (.aload_n 0, 1) := by decide +kernel
theorem dX8_text_26 : decode cX8_text 26 = .ok (.getfield 10, 3) := by decide +kernel
theorem dX8_text_29 : decode cX8_text 29 = .ok (.getfield 245, 3) := by decide +kernel
theorem dX8_text_32 : decode cX8_text 32 = .ok (.bipush 14, 2) := by decide +kernel
theorem dX8_text_34 : decode cX8_text 34 = .ok (.if_icmp .lt 6, 3) := by decide +kernel
theorem dX8_text_37 : decode cX8_text 37 = .ok (.ldc 73, 2) := by decide +kernel
theorem dX8_text_39 : decode cX8_text 39 = .ok (.ireturn, 1) := by decide +kernel
theorem dX8_text_40 : decode cX8_text 40 = .ok (.aload_n 0, 1) := by decide +kernel
theorem dX8_text_41 : decode cX8_text 41 = .ok (.getfield 10, 3) := by decide +kernel
theorem dX8_text_44 : decode cX8_text 44 = .ok (.aload_n 0, 1) := by decide +kernel
theorem dX8_text_45 : decode cX8_text 45 = .ok (.getfield 34, 3) := by decide +kernel
theorem dX8_text_48 : decode cX8_text 48 = .ok (.invokevirtual 248, 3) := by decide +kernel
theorem dX8_text_51 : decode cX8_text 51 = .ok (.invokevirtual 252, 3) := by decide +kernel
theorem dX8_text_54 : decode cX8_text 54 = .ok (.ireturn, 1) := by decide +kernel
theorem dX8_textTold_0 : decode cX8_textTold 0 = .ok (.aload_n 0, 1) := by decide +kernel
theorem dX8_textTold_1 : decode cX8_textTold 1 = .ok (.getfield 10, 3) := by decide +kernel
theorem dX8_textTold_4 : decode cX8_textTold 4 = .ok (.iload_n 1, 1) := by decide +kernel
theorem dX8_textTold_5 : decode cX8_textTold 5 = .ok (.invokevirtual 256, 3) := by decide +kernel
theorem dX8_textTold_8 : decode cX8_textTold 8 = .ok (.astore_n 3, 1) := by decide +kernel
theorem dX8_textTold_9 : decode cX8_textTold 9 = .ok (.aload_n 3, 1) := by decide +kernel
theorem dX8_textTold_10 : decode cX8_textTold 10 = .ok (.ifnull 12, 3) := by decide +kernel
theorem dX8_textTold_13 : decode cX8_textTold 13 = .ok (.iload_n 2, 1) := by decide +kernel
theorem dX8_textTold_14 : decode cX8_textTold 14 = .ok (.ifCond .lt 8, 3) := by decide +kernel
theorem dX8_textTold_17 : decode cX8_textTold 17 = .ok (.iload_n 2, 1) := by decide +kernel
theorem dX8_textTold_18 : decode cX8_textTold 18 = .ok (.iconst 1, 1) := by decide +kernel
theorem dX8_textTold_19 : decode cX8_textTold 19 = .ok (.if_icmp .le 6, 3) := by decide +kernel
theorem dX8_textTold_22 : decode cX8_textTold 22 = .ok (.ldc 68, 2) := by decide +kernel
theorem dX8_textTold_24 : decode cX8_textTold 24 = .ok (.ireturn, 1) := by decide +kernel
theorem dX8_textTold_25 : decode cX8_textTold 25 = .ok (.iload_n 2, 1) := by decide +kernel
theorem dX8_textTold_26 : decode cX8_textTold 26 = .ok (.ifCond .ne 10, 3) := by decide +kernel
theorem dX8_textTold_29 : decode cX8_textTold 29 = .ok (.aload_n 3, 1) := by decide +kernel
theorem dX8_textTold_30 : decode cX8_textTold 30 = .ok (.getfield 260, 3) := by decide +kernel
theorem dX8_textTold_33 : decode cX8_textTold 33 = .ok (.goto 7, 3) := by decide +kernel
theorem dX8_textTold_36 : decode cX8_textTold 36 = .ok (.aload_n 3, 1) := by decide +kernel
theorem dX8_textTold_37 : decode cX8_textTold 37 = .ok (.getfield 265, 3) := by decide +kernel
theorem dX8_textTold_40 : decode cX8_textTold 40 = .ok (.ireturn, 1) := by decide +kernel
theorem dX8_why_0 : decode cX8_why 0 = .ok (.iload_n 1, 1) := by decide +kernel
theorem dX8_why_1 : decode cX8_why 1 = .ok (.ifCond .lt 8, 3) := by decide +kernel
theorem dX8_why_4 : decode cX8_why 4 = .ok (.iload_n 1, 1) := by decide +kernel
theorem dX8_why_5 : decode cX8_why 5 = .ok (.iconst 2, 1) := by decide +kernel
theorem dX8_why_6 : decode cX8_why 6 = .ok (.if_icmp .le 6, 3) := by decide +kernel
theorem dX8_why_9 : decode cX8_why 9 = .ok (.ldc 68, 2) := by decide +kernel
theorem dX8_why_11 : decode cX8_why 11 = .ok (.ireturn, 1) := by decide +kernel
theorem dX8_why_12 : decode cX8_why 12 = .ok (.aload_n 0, 1) := by decide +kernel
theorem dX8_why_13 : decode cX8_why 13 = .ok (.getfield 10, 3) := by decide +kernel
theorem dX8_why_16 : decode cX8_why 16 = .ok (.iload_n 1, 1) := by decide +kernel
theorem dX8_why_17 : decode cX8_why 17 = .ok (.invokevirtual 268, 3) := by decide +kernel
theorem dX8_why_20 : decode cX8_why 20 = .ok (.istore_n 2, 1) := by decide +kernel
theorem dX8_why_21 : decode cX8_why 21 = .ok (.iload_n 2, 1) := by decide +kernel
theorem dX8_why_22 : decode cX8_why 22 = .ok (.ifCond .ge 8, 3) := by decide +kernel
theorem dX8_why_25 : decode cX8_why 25 = .ok (.ldc 194, 2) := by decide +kernel
theorem dX8_why_27 : decode cX8_why 27 = .ok (.goto 4, 3) := by decide +kernel
theorem dX8_why_30 : decode cX8_why 30 = .ok (.iload_n 2, 1) := by decide +kernel
theorem dX8_why_31 : decode cX8_why 31 = .ok (.ireturn, 1) := by decide +kernel
theorem dX8_sheet_0 : decode cX8_sheet 0 = .ok (.aload_n 0, 1) := by decide +kernel
theorem dX8_sheet_1 : decode cX8_sheet 1 = .ok (.iload_n 1, 1) := by decide +kernel
theorem dX8_sheet_2 : decode cX8_sheet 2 = .ok (.invokevirtual 271, 3) := by decide +kernel
theorem dX8_sheet_5 : decode cX8_sheet 5 = .ok (.astore 4, 2) := by decide +kernel
theorem dX8_sheet_7 : decode cX8_sheet 7 = .ok (.aload 4, 2) := by decide +kernel
theorem dX8_sheet_9 : decode cX8_sheet 9 = .ok (.ifnull 13, 3) := by decide +kernel
theorem dX8_sheet_12 : decode cX8_sheet 12 = .ok (.iload_n 2, 1) := by decide +kernel
theorem dX8_sheet_13 : decode cX8_sheet 13 = .ok (.iconst (-1), 1) := by decide +kernel
theorem dX8_sheet_14 : decode cX8_sheet 14 = .ok (.if_icmp .lt 8, 3) := by decide +kernel
theorem dX8_sheet_17 : decode cX8_sheet 17 = .ok (.iload_n 2, 1) := by decide +kernel
theorem dX8_sheet_18 : decode cX8_sheet 18 = .ok (.iconst 1, 1) := by decide +kernel
theorem dX8_sheet_19 : decode cX8_sheet 19 = .ok (.if_icmp .le 6, 3) := by decide +kernel
theorem dX8_sheet_22 : decode cX8_sheet 22 = .ok (.ldc 68, 2) := by decide +kernel
theorem dX8_sheet_24 : decode cX8_sheet 24 = .ok (.ireturn, 1) := by decide +kernel
theorem dX8_sheet_25 : decode cX8_sheet 25 = .ok (.iload_n 2, 1) := by decide +kernel
theorem dX8_sheet_26 : decode cX8_sheet 26 = .ok (.iconst (-1), 1) := by decide +kernel
theorem dX8_sheet_27 : decode cX8_sheet 27 = .ok (.if_icmp .ne 12, 3) := by decide +kernel
theorem dX8_sheet_30 : decode cX8_sheet 30 = .ok (.aload 4, 2) := by decide +kernel
theorem dX8_sheet_32 : decode cX8_sheet 32 = .ok (.iconst (-1), 1) := by decide +kernel
theorem dX8_sheet_33 : decode cX8_sheet 33 = .ok (.iconst 0, 1) := by decide +kernel
theorem dX8_sheet_34 : decode cX8_sheet 34 = .ok (.invokevirtual 275, 3) := by decide +kernel
theorem dX8_sheet_37 : decode cX8_sheet 37 = .ok (.iconst 0, 1) := by decide +kernel
theorem dX8_sheet_38 : decode cX8_sheet 38 = .ok (.ireturn, 1) := by decide +kernel
theorem dX8_sheet_39 : decode cX8_sheet 39 = .ok (.iload_n 3, 1) := by decide +kernel
theorem dX8_sheet_40 : decode cX8_sheet 40 = .ok (.bipush 24, 2) := by decide +kernel
theorem dX8_sheet_42 : decode cX8_sheet 42 = .ok (.if_icmp .le 6, 3) := by decide +kernel
theorem dX8_sheet_45 : decode cX8_sheet 45 = .ok (.ldc 68, 2) := by decide +kernel
theorem dX8_sheet_47 : decode cX8_sheet 47 = .ok (.ireturn, 1) := by decide +kernel
theorem dX8_sheet_48 : decode cX8_sheet 48 = .ok (.iload_n 3, 1) := by decide +kernel
theorem dX8_sheet_49 : decode cX8_sheet 49 = .ok (.ifCond .ge 7, 3) := by decide +kernel
theorem dX8_sheet_52 : decode cX8_sheet 52 = .ok (.ldc_w 278, 3) := by decide +kernel
theorem dX8_sheet_55 : decode cX8_sheet 55 = .ok (.ireturn, 1) := by decide +kernel
theorem dX8_sheet_56 : decode cX8_sheet 56 = .ok (.aload 4, 2) := by decide +kernel
theorem dX8_sheet_58 : decode cX8_sheet 58 = .ok (.iload_n 2, 1) := by decide +kernel
theorem dX8_sheet_59 : decode cX8_sheet 59 = .ok (.iload_n 3, 1) := by decide +kernel
theorem dX8_sheet_60 : decode cX8_sheet 60 = .ok (.invokevirtual 275, 3) := by decide +kernel
theorem dX8_sheet_63 : decode cX8_sheet 63 = .ok (.iload_n 3, 1) := by decide +kernel
theorem dX8_sheet_64 : decode cX8_sheet 64 = .ok (.ireturn, 1) := by decide +kernel
theorem dX8_mark_0 : decode cX8_mark 0 = .ok (.aload_n 0, 1) := by decide +kernel
theorem dX8_mark_1 : decode cX8_mark 1 = .ok (.iload_n 1, 1) := by decide +kernel
theorem dX8_mark_2 : decode cX8_mark 2 = .ok (.invokevirtual 271, 3) := by decide +kernel
theorem dX8_mark_5 : decode cX8_mark 5 = .ok (.astore 4, 2) := by decide +kernel
theorem dX8_mark_7 : decode cX8_mark 7 = .ok (.aload 4, 2) := by decide +kernel
theorem dX8_mark_9 : decode cX8_mark 9 = .ok (.ifnonnull 6, 3) := by decide +kernel
theorem dX8_mark_12 : decode cX8_mark 12 = .ok (.ldc 68, 2) := by decide +kernel
theorem dX8_mark_14 : decode cX8_mark 14 = .ok (.ireturn, 1) := by decide +kernel
theorem dX8_mark_15 : decode cX8_mark 15 = .ok (.aload 4, 2) := by decide +kernel
theorem dX8_mark_17 : decode cX8_mark 17 = .ok (.getfield 279, 3) := by decide +kernel
theorem dX8_mark_20 : decode cX8_mark 20 = .ok (.iconst (-1), 1) := by decide +kernel
theorem dX8_mark_21 : decode cX8_mark 21 = .ok (.if_icmp .ne 7, 3) := by decide +kernel
theorem dX8_mark_24 : decode cX8_mark 24 = .ok (.ldc_w 282, 3) := by decide +kernel
theorem dX8_mark_27 : decode cX8_mark 27 = .ok (.ireturn, 1) := by decide +kernel
theorem dX8_mark_28 : decode cX8_mark 28 = .ok (.aload 4, 2) := by decide +kernel
theorem dX8_mark_30 : decode cX8_mark 30 = .ok (.iload_n 2, 1) := by decide +kernel
theorem dX8_mark_31 : decode cX8_mark 31 = .ok (.invokevirtual 283, 3) := by decide +kernel
theorem dX8_mark_34 : decode cX8_mark 34 = .ok (.ifCond .ne 7, 3) := by decide +kernel
theorem dX8_mark_37 : decode cX8_mark 37 = .ok (.ldc_w 286, 3) := by decide +kernel
theorem dX8_mark_40 : decode cX8_mark 40 = .ok (.ireturn, 1) := by decide +kernel
theorem dX8_mark_41 : decode cX8_mark 41 = .ok (.aload 4, 2) := by decide +kernel
theorem dX8_mark_43 : decode cX8_mark 43 = .ok (.getfield 279, 3) := by decide +kernel
theorem dX8_mark_46 : decode cX8_mark 46 = .ok (.ifCond .ne 22, 3) := by decide +kernel
theorem dX8_mark_49 : decode cX8_mark 49 = .ok (.iload_n 3, 1) := by decide +kernel
theorem dX8_mark_50 : decode cX8_mark 50 = .ok (.ldc 194, 2) := by decide +kernel
theorem dX8_mark_52 : decode cX8_mark 52 = .ok (.if_icmp .ne 6, 3) := by decide +kernel
theorem dX8_mark_55 : decode cX8_mark 55 = .ok (.ldc 121, 2) := by decide +kernel
theorem dX8_mark_57 : decode cX8_mark 57 = .ok (.ireturn, 1) := by decide +kernel
theorem dX8_mark_58 : decode cX8_mark 58 = .ok (.aload 4, 2) := by decide +kernel
theorem dX8_mark_60 : decode cX8_mark 60 = .ok (.iload_n 2, 1) := by decide +kernel
theorem dX8_mark_61 : decode cX8_mark 61 = .ok (.iload_n 3, 1) := by decide +kernel
theorem dX8_mark_62 : decode cX8_mark 62 = .ok (.i2s, 1) := by decide +kernel
theorem dX8_mark_63 : decode cX8_mark 63 = .ok (.invokevirtual 287, 3) := by decide +kernel
theorem dX8_mark_66 : decode cX8_mark 66 = .ok (.iconst 1, 1) := by decide +kernel
theorem dX8_mark_67 : decode cX8_mark 67 = .ok (.ireturn, 1) := by decide +kernel
theorem dX8_mark_68 : decode cX8_mark 68 = .ok (.iload_n 3, 1) := by decide +kernel
theorem dX8_mark_69 : decode cX8_mark 69 = .ok (.ldc 194, 2) := by decide +kernel
theorem dX8_mark_71 : decode cX8_mark 71 = .ok (.if_icmp .eq 20, 3) := by decide +kernel
theorem dX8_mark_74 : decode cX8_mark 74 = .ok (.iload_n 3, 1) := by decide +kernel
theorem dX8_mark_75 : decode cX8_mark 75 = .ok (.ldc_w 290, 3) := by decide +kernel
theorem dX8_mark_78 : decode cX8_mark 78 = .ok (.if_icmp .lt 10, 3) := by decide +kernel
theorem dX8_mark_81 : decode cX8_mark 81 = .ok (.iload_n 3, 1) := by decide +kernel
theorem dX8_mark_82 : decode cX8_mark 82 = .ok (.ldc_w 291, 3) := by decide +kernel
theorem dX8_mark_85 : decode cX8_mark 85 = .ok (.if_icmp .le 6, 3) := by decide +kernel
theorem dX8_mark_88 : decode cX8_mark 88 = .ok (.ldc 68, 2) := by decide +kernel
theorem dX8_mark_90 : decode cX8_mark 90 = .ok (.ireturn, 1) := by decide +kernel
theorem dX8_mark_91 : decode cX8_mark 91 = .ok (.aload 4, 2) := by decide +kernel
theorem dX8_mark_93 : decode cX8_mark 93 = .ok (.iload_n 2, 1) := by decide +kernel
theorem dX8_mark_94 : decode cX8_mark 94 = .ok (.iload_n 3, 1) := by decide +kernel
theorem dX8_mark_95 : decode cX8_mark 95 = .ok (.invokevirtual 287, 3) := by decide +kernel
theorem dX8_mark_98 : decode cX8_mark 98 = .ok (.iconst 1, 1) := by decide +kernel
theorem dX8_mark_99 : decode cX8_mark 99 = .ok (.ireturn, 1) := by decide +kernel
theorem dX8_pour_0 : decode cX8_pour 0 = .ok (.aload_n 0, 1) := by decide +kernel
theorem dX8_pour_1 : decode cX8_pour 1 = .ok (.iload_n 1, 1) := by decide +kernel
theorem dX8_pour_2 : decode cX8_pour 2 = .ok (.invokevirtual 271, 3) := by decide +kernel
theorem dX8_pour_5 : decode cX8_pour 5 = .ok (.astore_n 3, 1) := by decide +kernel
theorem dX8_pour_6 : decode cX8_pour 6 = .ok (.aload_n 0, 1) := by decide +kernel
theorem dX8_pour_7 : decode cX8_pour 7 = .ok (.getfield 10, 3) := by decide +kernel
theorem dX8_pour_10 : decode cX8_pour 10 = .ok (.iload_n 2, 1) := by decide +kernel
theorem dX8_pour_11 : decode cX8_pour 11 = .ok (.invokevirtual 77, 3) := by decide +kernel
theorem dX8_pour_14 : decode cX8_pour 14 = .ok (.astore 4, 2) := by decide +kernel
theorem dX8_pour_16 : decode cX8_pour 16 = .ok (.aload_n 3, 1) := by decide +kernel
theorem dX8_pour_17 : decode cX8_pour 17 = .ok (.ifnull 8, 3) := by decide +kernel
theorem dX8_pour_20 : decode cX8_pour 20 = .ok (.aload 4, 2) := by decide +kernel
theorem dX8_pour_22 : decode cX8_pour 22 = .ok (.ifnonnull 6, 3) := by decide +kernel
theorem dX8_pour_25 : decode cX8_pour 25 = .ok (.ldc 68, 2) := by decide +kernel
theorem dX8_pour_27 : decode cX8_pour 27 = .ok (.ireturn, 1) := by decide +kernel
theorem dX8_pour_28 : decode cX8_pour 28 = .ok (.aload_n 3, 1) := by decide +kernel
theorem dX8_pour_29 : decode cX8_pour 29 = .ok (.getfield 279, 3) := by decide +kernel
theorem dX8_pour_32 : decode cX8_pour 32 = .ok (.iconst (-1), 1) := by decide +kernel
theorem dX8_pour_33 : decode cX8_pour 33 = .ok (.if_icmp .ne 7, 3) := by decide +kernel
theorem dX8_pour_36 : decode cX8_pour 36 = .ok (.ldc_w 282, 3) := by decide +kernel
theorem dX8_pour_39 : decode cX8_pour 39 = .ok (.ireturn, 1) := by decide +kernel
theorem dX8_pour_40 : decode cX8_pour 40 = .ok (.iconst 0, 1) := by decide +kernel
theorem dX8_pour_41 : decode cX8_pour 41 = .ok (.istore 5, 2) := by decide +kernel
theorem dX8_pour_43 : decode cX8_pour 43 = .ok (.iconst 0, 1) := by decide +kernel
theorem dX8_pour_44 : decode cX8_pour 44 = .ok (.istore 6, 2) := by decide +kernel
theorem dX8_pour_46 : decode cX8_pour 46 = .ok (.iload 6, 2) := by decide +kernel
theorem dX8_pour_48 : decode cX8_pour 48 = .ok (.bipush 15, 2) := by decide +kernel
theorem dX8_pour_50 : decode cX8_pour 50 = .ok (.if_icmp .ge 63, 3) := by decide +kernel
theorem dX8_pour_53 : decode cX8_pour 53 = .ok (.iload 6, 2) := by decide +kernel
theorem dX8_pour_55 : decode cX8_pour 55 = .ok (.aload_n 3, 1) := by decide +kernel
theorem dX8_pour_56 : decode cX8_pour 56 = .ok (.getfield 292, 3) := by decide +kernel
theorem dX8_pour_59 : decode cX8_pour 59 = .ok (.if_icmp .ge 54, 3) := by decide +kernel
theorem dX8_pour_62 : decode cX8_pour 62 = .ok (.aload_n 3, 1) := by decide +kernel
theorem dX8_pour_63 : decode cX8_pour 63 = .ok (.iload 6, 2) := by decide +kernel
theorem dX8_pour_65 : decode cX8_pour 65 = .ok (.invokevirtual 295, 3) := by decide +kernel
theorem dX8_pour_68 : decode cX8_pour 68 = .ok (.istore 7, 2) := by decide +kernel
theorem dX8_pour_70 : decode cX8_pour 70 = .ok (.iload 7, 2) := by decide +kernel
theorem dX8_pour_72 : decode cX8_pour 72 = .ok (.ldc 194, 2) := by decide +kernel
theorem dX8_pour_74 : decode cX8_pour 74 = .ok (.if_icmp .eq 33, 3) := by decide +kernel
theorem dX8_pour_77 : decode cX8_pour 77 = .ok (.iload 7, 2) := by decide +kernel
theorem dX8_pour_79 : decode cX8_pour 79 = .ok (.invokestatic 122, 3) := by decide +kernel
theorem dX8_pour_82 : decode cX8_pour 82 = .ok (.aload 4, 2) := by decide +kernel
theorem dX8_pour_84 : decode cX8_pour 84 = .ok (.iload 6, 2) := by decide +kernel
theorem dX8_pour_86 : decode cX8_pour 86 = .ok (.invokevirtual 84, 3) := by decide +kernel
theorem dX8_pour_89 : decode cX8_pour 89 = .ok (.if_icmp .eq 18, 3) := by decide +kernel
theorem dX8_pour_92 : decode cX8_pour 92 = .ok (.aload 4, 2) := by decide +kernel
theorem dX8_pour_94 : decode cX8_pour 94 = .ok (.iload 6, 2) := by decide +kernel
theorem dX8_pour_96 : decode cX8_pour 96 = .ok (.iload 7, 2) := by decide +kernel
theorem dX8_pour_98 : decode cX8_pour 98 = .ok (.invokestatic 122, 3) := by decide +kernel
theorem dX8_pour_101 : decode cX8_pour 101 = .ok (.invokevirtual 90, 3) := by decide +kernel
theorem dX8_pour_104 : decode cX8_pour 104 = .ok (.iinc 5 1, 3) := by decide +kernel
theorem dX8_pour_107 : decode cX8_pour 107 = .ok (.iinc 6 1, 3) := by decide +kernel
theorem dX8_pour_110 : decode cX8_pour 110 = .ok (.goto (-64), 3) := by decide +kernel
theorem dX8_pour_113 : decode cX8_pour 113 = .ok (.iload 5, 2) := by decide +kernel
theorem dX8_pour_115 : decode cX8_pour 115 = .ok (.ireturn, 1) := by decide +kernel
theorem dX8_copy_0 : decode cX8_copy 0 = .ok (.aload_n 0, 1) := by decide +kernel
theorem dX8_copy_1 : decode cX8_copy 1 = .ok (.iload_n 1, 1) := by decide +kernel
theorem dX8_copy_2 : decode cX8_copy 2 = .ok (.invokevirtual 271, 3) := by decide +kernel
theorem dX8_copy_5 : decode cX8_copy 5 = .ok (.astore 6, 2) := by decide +kernel
theorem dX8_copy_7 : decode cX8_copy 7 = .ok (.aload_n 0, 1) := by decide +kernel
theorem dX8_copy_8 : decode cX8_copy 8 = .ok (.iload_n 3, 1) := by decide +kernel
theorem dX8_copy_9 : decode cX8_copy 9 = .ok (.invokevirtual 271, 3) := by decide +kernel
theorem dX8_copy_12 : decode cX8_copy 12 = .ok (.astore 7, 2) := by decide +kernel
theorem dX8_copy_14 : decode cX8_copy 14 = .ok (.aload 6, 2) := by decide +kernel
theorem dX8_copy_16 : decode cX8_copy 16 = .ok (.ifnull 8, 3) := by decide +kernel
theorem dX8_copy_19 : decode cX8_copy 19 = .ok (.aload 7, 2) := by decide +kernel
theorem dX8_copy_21 : decode cX8_copy 21 = .ok (.ifnonnull 6, 3) := by decide +kernel
theorem dX8_copy_24 : decode cX8_copy 24 = .ok (.ldc 68, 2) := by decide +kernel
theorem dX8_copy_26 : decode cX8_copy 26 = .ok (.ireturn, 1) := by decide +kernel
theorem dX8_copy_27 : decode cX8_copy 27 = .ok (.aload 6, 2) := by decide +kernel
theorem dX8_copy_29 : decode cX8_copy 29 = .ok (.getfield 279, 3) := by decide +kernel
theorem dX8_copy_32 : decode cX8_copy 32 = .ok (.iconst (-1), 1) := by decide +kernel
theorem dX8_copy_33 : decode cX8_copy 33 = .ok (.if_icmp .eq 12, 3) := by decide +kernel
theorem dX8_copy_36 : decode cX8_copy 36 = .ok (.aload 7, 2) := by decide +kernel
theorem dX8_copy_38 : decode cX8_copy 38 = .ok (.getfield 279, 3) := by decide +kernel
theorem dX8_copy_41 : decode cX8_copy 41 = .ok (.iconst (-1), 1) := by decide +kernel
theorem dX8_copy_42 : decode cX8_copy 42 = .ok (.if_icmp .ne 7, 3) := by decide +kernel
theorem dX8_copy_45 : decode cX8_copy 45 = .ok (.ldc_w 282, 3) := by decide +kernel
theorem dX8_copy_48 : decode cX8_copy 48 = .ok (.ireturn, 1) := by decide +kernel
theorem dX8_copy_49 : decode cX8_copy 49 = .ok (.aload 6, 2) := by decide +kernel
theorem dX8_copy_51 : decode cX8_copy 51 = .ok (.getfield 279, 3) := by decide +kernel
theorem dX8_copy_54 : decode cX8_copy 54 = .ok (.aload 7, 2) := by decide +kernel
theorem dX8_copy_56 : decode cX8_copy 56 = .ok (.getfield 279, 3) := by decide +kernel
theorem dX8_copy_59 : decode cX8_copy 59 = .ok (.if_icmp .eq 6, 3) := by decide +kernel
theorem dX8_copy_62 : decode cX8_copy 62 = .ok (.ldc 121, 2) := by decide +kernel
theorem dX8_copy_64 : decode cX8_copy 64 = .ok (.ireturn, 1) := by decide +kernel
theorem dX8_copy_65 : decode cX8_copy 65 = .ok (.aload 6, 2) := by decide +kernel
theorem dX8_copy_67 : decode cX8_copy 67 = .ok (.iload_n 2, 1) := by decide +kernel
theorem dX8_copy_68 : decode cX8_copy 68 = .ok (.iload 5, 2) := by decide +kernel
theorem dX8_copy_70 : decode cX8_copy 70 = .ok (.invokevirtual 298, 3) := by decide +kernel
theorem dX8_copy_73 : decode cX8_copy 73 = .ok (.ifCond .eq 15, 3) := by decide +kernel
theorem dX8_copy_76 : decode cX8_copy 76 = .ok (.aload 7, 2) := by decide +kernel
theorem dX8_copy_78 : decode cX8_copy 78 = .ok (.iload 4, 2) := by decide +kernel
theorem dX8_copy_80 : decode cX8_copy 80 = .ok (.iload 5, 2) := by decide +kernel
theorem dX8_copy_82 : decode cX8_copy 82 = .ok (.invokevirtual 298, 3) := by decide +kernel
theorem dX8_copy_85 : decode cX8_copy 85 = .ok (.ifCond .ne 7, 3) := by decide +kernel
theorem dX8_copy_88 : decode cX8_copy 88 = .ok (.ldc_w 286, 3) := by decide +kernel
theorem dX8_copy_91 : decode cX8_copy 91 = .ok (.ireturn, 1) := by decide +kernel
theorem dX8_copy_92 : decode cX8_copy 92 = .ok (.aload 6, 2) := by decide +kernel
theorem dX8_copy_94 : decode cX8_copy 94 = .ok (.getfield 301, 3) := by decide +kernel
theorem dX8_copy_97 : decode cX8_copy 97 = .ok (.iload_n 2, 1) := by decide +kernel
theorem dX8_copy_98 : decode cX8_copy 98 = .ok (.aload 7, 2) := by decide +kernel
theorem dX8_copy_100 : decode cX8_copy 100 = .ok (.getfield 301, 3) := by decide +kernel
theorem dX8_copy_103 : decode cX8_copy 103 = .ok (.iload 4, 2) := by decide +kernel
theorem dX8_copy_105 : decode cX8_copy 105 = .ok (.iload 5, 2) := by decide +kernel
theorem dX8_copy_107 : decode cX8_copy 107 = .ok (.invokestatic 304, 3) := by decide +kernel
theorem dX8_copy_110 : decode cX8_copy 110 = .ok (.iload 5, 2) := by decide +kernel
theorem dX8_copy_112 : decode cX8_copy 112 = .ok (.ireturn, 1) := by decide +kernel
theorem dX8_lay_0 : decode cX8_lay 0 = .ok (.aload_n 0, 1) := by decide +kernel
theorem dX8_lay_1 : decode cX8_lay 1 = .ok (.iload_n 1, 1) := by decide +kernel
theorem dX8_lay_2 : decode cX8_lay 2 = .ok (.invokevirtual 310, 3) := by decide +kernel
theorem dX8_lay_5 : decode cX8_lay 5 = .ok (.astore 4, 2) := by decide +kernel
theorem dX8_lay_7 : decode cX8_lay 7 = .ok (.aload 4, 2) := by decide +kernel
theorem dX8_lay_9 : decode cX8_lay 9 = .ok (.ifnull 12, 3) := by decide +kernel
theorem dX8_lay_12 : decode cX8_lay 12 = .ok (.iload_n 2, 1) := by decide +kernel
theorem dX8_lay_13 : decode cX8_lay 13 = .ok (.ifCond .lt 8, 3) := by decide +kernel
theorem dX8_lay_16 : decode cX8_lay 16 = .ok (.iload_n 2, 1) := by decide +kernel
theorem dX8_lay_17 : decode cX8_lay 17 = .ok (.iconst 3, 1) := by decide +kernel
theorem dX8_lay_18 : decode cX8_lay 18 = .ok (.if_icmp .le 6, 3) := by decide +kernel
theorem dX8_lay_21 : decode cX8_lay 21 = .ok (.ldc 68, 2) := by decide +kernel
theorem dX8_lay_23 : decode cX8_lay 23 = .ok (.ireturn, 1) := by decide +kernel
theorem dX8_lay_24 : decode cX8_lay 24 = .ok (.iload_n 2, 1) := by decide +kernel
theorem dX8_lay_25 : decode cX8_lay 25 = .ok (.iconst 1, 1) := by decide +kernel
theorem dX8_lay_26 : decode cX8_lay 26 = .ok (.if_icmp .ne 34, 3) := by decide +kernel
theorem dX8_lay_29 : decode cX8_lay 29 = .ok (.aload_n 0, 1) := by decide +kernel
theorem dX8_lay_30 : decode cX8_lay 30 = .ok (.getfield 10, 3) := by decide +kernel
theorem dX8_lay_33 : decode cX8_lay 33 = .ok (.iload_n 3, 1) := by decide +kernel
theorem dX8_lay_34 : decode cX8_lay 34 = .ok (.invokevirtual 77, 3) := by decide +kernel
theorem dX8_lay_37 : decode cX8_lay 37 = .ok (.astore 5, 2) := by decide +kernel
theorem dX8_lay_39 : decode cX8_lay 39 = .ok (.aload 5, 2) := by decide +kernel
theorem dX8_lay_41 : decode cX8_lay 41 = .ok (.ifnonnull 6, 3) := by decide +kernel
theorem dX8_lay_44 : decode cX8_lay 44 = .ok (.ldc 68, 2) := by decide +kernel
theorem dX8_lay_46 : decode cX8_lay 46 = .ok (.ireturn, 1) := by decide +kernel
theorem dX8_lay_47 : decode cX8_lay 47 = .ok (.aload 4, 2) := by decide +kernel
theorem dX8_lay_49 : decode cX8_lay 49 = .ok (.getfield 314, 3) := by decide +kernel
theorem dX8_lay_52 : decode cX8_lay 52 = .ok (.aload 5, 2) := by decide +kernel
theorem dX8_lay_54 : decode cX8_lay 54 = .ok (.invokevirtual 318, 3) := by decide +kernel
theorem dX8_lay_57 : decode cX8_lay 57 = .ok (.goto 60, 3) := by decide +kernel
theorem dX8_lay_60 : decode cX8_lay 60 = .ok (.iload_n 2, 1) := by decide +kernel
theorem dX8_lay_61 : decode cX8_lay 61 = .ok (.iconst 2, 1) := by decide +kernel
theorem dX8_lay_62 : decode cX8_lay 62 = .ok (.if_icmp .ne 44, 3) := by decide +kernel
theorem dX8_lay_65 : decode cX8_lay 65 = .ok (.aload_n 0, 1) := by decide +kernel
theorem dX8_lay_66 : decode cX8_lay 66 = .ok (.iload_n 3, 1) := by decide +kernel
theorem dX8_lay_67 : decode cX8_lay 67 = .ok (.invokevirtual 271, 3) := by decide +kernel
theorem dX8_lay_70 : decode cX8_lay 70 = .ok (.astore 5, 2) := by decide +kernel
theorem dX8_lay_72 : decode cX8_lay 72 = .ok (.aload 5, 2) := by decide +kernel
theorem dX8_lay_74 : decode cX8_lay 74 = .ok (.ifnonnull 6, 3) := by decide +kernel
theorem dX8_lay_77 : decode cX8_lay 77 = .ok (.ldc 68, 2) := by decide +kernel
theorem dX8_lay_79 : decode cX8_lay 79 = .ok (.ireturn, 1) := by decide +kernel
theorem dX8_lay_80 : decode cX8_lay 80 = .ok (.aload 5, 2) := by decide +kernel
theorem dX8_lay_82 : decode cX8_lay 82 = .ok (.getfield 279, 3) := by decide +kernel
theorem dX8_lay_85 : decode cX8_lay 85 = .ok (.iconst (-1), 1) := by decide +kernel
theorem dX8_lay_86 : decode cX8_lay 86 = .ok (.if_icmp .ne 7, 3) := by decide +kernel
theorem dX8_lay_89 : decode cX8_lay 89 = .ok (.ldc_w 282, 3) := by decide +kernel
theorem dX8_lay_92 : decode cX8_lay 92 = .ok (.ireturn, 1) := by decide +kernel
theorem dX8_lay_93 : decode cX8_lay 93 = .ok (.aload 4, 2) := by decide +kernel
theorem dX8_lay_95 : decode cX8_lay 95 = .ok (.getfield 321, 3) := by decide +kernel
theorem dX8_lay_98 : decode cX8_lay 98 = .ok (.aload 5, 2) := by decide +kernel
theorem dX8_lay_100 : decode cX8_lay 100 = .ok (.invokevirtual 325, 3) := by decide +kernel
theorem dX8_lay_103 : decode cX8_lay 103 = .ok (.goto 14, 3) := by decide +kernel
theorem dX8_lay_106 : decode cX8_lay 106 = .ok (.iload_n 2, 1) := by decide +kernel
theorem dX8_lay_107 : decode cX8_lay 107 = .ok (.iconst 3, 1) := by decide +kernel
theorem dX8_lay_108 : decode cX8_lay 108 = .ok (.if_icmp .ne 9, 3) := by decide +kernel
theorem dX8_lay_111 : decode cX8_lay 111 = .ok (.aload 4, 2) := by decide +kernel
theorem dX8_lay_113 : decode cX8_lay 113 = .ok (.iload_n 3, 1) := by decide +kernel
theorem dX8_lay_114 : decode cX8_lay 114 = .ok (.putfield 328, 3) := by decide +kernel
theorem dX8_lay_117 : decode cX8_lay 117 = .ok (.aload 4, 2) := by decide +kernel
theorem dX8_lay_119 : decode cX8_lay 119 = .ok (.getfield 330, 3) := by decide +kernel
theorem dX8_lay_122 : decode cX8_lay 122 = .ok (.istore 5, 2) := by decide +kernel
theorem dX8_lay_124 : decode cX8_lay 124 = .ok (.aload 4, 2) := by decide +kernel
theorem dX8_lay_126 : decode cX8_lay 126 = .ok (.iload_n 2, 1) := by decide +kernel
theorem dX8_lay_127 : decode cX8_lay 127 = .ok (.putfield 330, 3) := by decide +kernel
theorem dX8_lay_130 : decode cX8_lay 130 = .ok (.iload 5, 2) := by decide +kernel
theorem dX8_lay_132 : decode cX8_lay 132 = .ok (.ireturn, 1) := by decide +kernel
theorem dX8_ask_0 : decode cX8_ask 0 = .ok (.aload_n 0, 1) := by decide +kernel
theorem dX8_ask_1 : decode cX8_ask 1 = .ok (.iload_n 1, 1) := by decide +kernel
theorem dX8_ask_2 : decode cX8_ask 2 = .ok (.invokevirtual 310, 3) := by decide +kernel
theorem dX8_ask_5 : decode cX8_ask 5 = .ok (.astore_n 3, 1) := by decide +kernel
theorem dX8_ask_6 : decode cX8_ask 6 = .ok (.aload_n 3, 1) := by decide +kernel
theorem dX8_ask_7 : decode cX8_ask 7 = .ok (.ifnull 10, 3) := by decide +kernel
theorem dX8_ask_10 : decode cX8_ask 10 = .ok (.iload_n 2, 1) := by decide +kernel
theorem dX8_ask_11 : decode cX8_ask 11 = .ok (.invokestatic 64, 3) := by decide +kernel
theorem dX8_ask_14 : decode cX8_ask 14 = .ok (.ifCond .ne 6, 3) := by decide +kernel
theorem dX8_ask_17 : decode cX8_ask 17 = .ok (.ldc 68, 2) := by decide +kernel
theorem dX8_ask_19 : decode cX8_ask 19 = .ok (.ireturn, 1) := by decide +kernel
theorem dX8_ask_20 : decode cX8_ask 20 = .ok (.aload_n 3, 1) := by decide +kernel
theorem dX8_ask_21 : decode cX8_ask 21 = .ok (.getfield 330, 3) := by decide +kernel
theorem dX8_ask_24 : decode cX8_ask 24 = .ok (.ifCond .ne 7, 3) := by decide +kernel
theorem dX8_ask_27 : decode cX8_ask 27 = .ok (.ldc_w 282, 3) := by decide +kernel
theorem dX8_ask_30 : decode cX8_ask 30 = .ok (.ireturn, 1) := by decide +kernel
theorem dX8_ask_31 : decode cX8_ask 31 = .ok (.aload_n 3, 1) := by decide +kernel
theorem dX8_ask_32 : decode cX8_ask 32 = .ok (.getfield 330, 3) := by decide +kernel
theorem dX8_ask_35 : decode cX8_ask 35 = .ok (.iconst 1, 1) := by decide +kernel
theorem dX8_ask_36 : decode cX8_ask 36 = .ok (.if_icmp .ne 24, 3) := by decide +kernel
theorem dX8_ask_39 : decode cX8_ask 39 = .ok (.aload_n 3, 1) := by decide +kernel
theorem dX8_ask_40 : decode cX8_ask 40 = .ok (.getfield 314, 3) := by decide +kernel
theorem dX8_ask_43 : decode cX8_ask 43 = .ok (.iload_n 2, 1) := by decide +kernel
theorem dX8_ask_44 : decode cX8_ask 44 = .ok (.invokevirtual 115, 3) := by decide +kernel
theorem dX8_ask_47 : decode cX8_ask 47 = .ok (.ifCond .eq 13, 3) := by decide +kernel
theorem dX8_ask_50 : decode cX8_ask 50 = .ok (.aload_n 3, 1) := by decide +kernel
theorem dX8_ask_51 : decode cX8_ask 51 = .ok (.getfield 314, 3) := by decide +kernel
theorem dX8_ask_54 : decode cX8_ask 54 = .ok (.invokevirtual 101, 3) := by decide +kernel
theorem dX8_ask_57 : decode cX8_ask 57 = .ok (.goto 5, 3) := by decide +kernel
theorem dX8_ask_60 : decode cX8_ask 60 = .ok (.ldc 121, 2) := by decide +kernel
theorem dX8_ask_62 : decode cX8_ask 62 = .ok (.ireturn, 1) := by decide +kernel
theorem dX8_item_0 : decode cX8_item 0 = .ok (.aload_n 0, 1) := by decide +kernel
theorem dX8_item_1 : decode cX8_item 1 = .ok (.iload_n 1, 1) := by decide +kernel
theorem dX8_item_2 : decode cX8_item 2 = .ok (.invokevirtual 310, 3) := by decide +kernel
theorem dX8_item_5 : decode cX8_item 5 = .ok (.astore_n 3, 1) := by decide +kernel
theorem dX8_item_6 : decode cX8_item 6 = .ok (.aload_n 3, 1) := by decide +kernel
theorem dX8_item_7 : decode cX8_item 7 = .ok (.ifnonnull 6, 3) := by decide +kernel
theorem dX8_item_10 : decode cX8_item 10 = .ok (.ldc 68, 2) := by decide +kernel
theorem dX8_item_12 : decode cX8_item 12 = .ok (.ireturn, 1) := by decide +kernel
theorem dX8_item_13 : decode cX8_item 13 = .ok (.aload_n 3, 1) := by decide +kernel
theorem dX8_item_14 : decode cX8_item 14 = .ok (.getfield 330, 3) := by decide +kernel
theorem dX8_item_17 : decode cX8_item 17 = .ok (.ifCond .ne 7, 3) := by decide +kernel
theorem dX8_item_20 : decode cX8_item 20 = .ok (.ldc_w 282, 3) := by decide +kernel
theorem dX8_item_23 : decode cX8_item 23 = .ok (.ireturn, 1) := by decide +kernel
theorem dX8_item_24 : decode cX8_item 24 = .ok (.aload_n 3, 1) := by decide +kernel
theorem dX8_item_25 : decode cX8_item 25 = .ok (.getfield 330, 3) := by decide +kernel
theorem dX8_item_28 : decode cX8_item 28 = .ok (.iconst 2, 1) := by decide +kernel
theorem dX8_item_29 : decode cX8_item 29 = .ok (.if_icmp .eq 6, 3) := by decide +kernel
theorem dX8_item_32 : decode cX8_item 32 = .ok (.ldc 121, 2) := by decide +kernel
theorem dX8_item_34 : decode cX8_item 34 = .ok (.ireturn, 1) := by decide +kernel
theorem dX8_item_35 : decode cX8_item 35 = .ok (.aload_n 3, 1) := by decide +kernel
theorem dX8_item_36 : decode cX8_item 36 = .ok (.getfield 321, 3) := by decide +kernel
theorem dX8_item_39 : decode cX8_item 39 = .ok (.iload_n 2, 1) := by decide +kernel
theorem dX8_item_40 : decode cX8_item 40 = .ok (.invokevirtual 283, 3) := by decide +kernel
theorem dX8_item_43 : decode cX8_item 43 = .ok (.ifCond .ne 7, 3) := by decide +kernel
theorem dX8_item_46 : decode cX8_item 46 = .ok (.ldc_w 286, 3) := by decide +kernel
theorem dX8_item_49 : decode cX8_item 49 = .ok (.ireturn, 1) := by decide +kernel
theorem dX8_item_50 : decode cX8_item 50 = .ok (.aload_n 3, 1) := by decide +kernel
theorem dX8_item_51 : decode cX8_item 51 = .ok (.getfield 321, 3) := by decide +kernel
theorem dX8_item_54 : decode cX8_item 54 = .ok (.iload_n 2, 1) := by decide +kernel
theorem dX8_item_55 : decode cX8_item 55 = .ok (.invokevirtual 295, 3) := by decide +kernel
theorem dX8_item_58 : decode cX8_item 58 = .ok (.istore 4, 2) := by decide +kernel
theorem dX8_item_60 : decode cX8_item 60 = .ok (.iload 4, 2) := by decide +kernel
theorem dX8_item_62 : decode cX8_item 62 = .ok (.ldc 194, 2) := by decide +kernel
theorem dX8_item_64 : decode cX8_item 64 = .ok (.if_icmp .ne 8, 3) := by decide +kernel
theorem dX8_item_67 : decode cX8_item 67 = .ok (.ldc 121, 2) := by decide +kernel
theorem dX8_item_69 : decode cX8_item 69 = .ok (.goto 5, 3) := by decide +kernel
theorem dX8_item_72 : decode cX8_item 72 = .ok (.iload 4, 2) := by decide +kernel
theorem dX8_item_74 : decode cX8_item 74 = .ok (.ireturn, 1) := by decide +kernel
theorem dX8_rest_0 : decode cX8_rest 0 = .ok (.aload_n 0, 1) := by decide +kernel
theorem dX8_rest_1 : decode cX8_rest 1 = .ok (.iload_n 1, 1) := by decide +kernel
theorem dX8_rest_2 : decode cX8_rest 2 = .ok (.invokevirtual 310, 3) := by decide +kernel
theorem dX8_rest_5 : decode cX8_rest 5 = .ok (.astore_n 3, 1) := by decide +kernel
theorem dX8_rest_6 : decode cX8_rest 6 = .ok (.aload_n 3, 1) := by decide +kernel
theorem dX8_rest_7 : decode cX8_rest 7 = .ok (.ifnonnull 6, 3) := by decide +kernel
theorem dX8_rest_10 : decode cX8_rest 10 = .ok (.ldc 68, 2) := by decide +kernel
theorem dX8_rest_12 : decode cX8_rest 12 = .ok (.ireturn, 1) := by decide +kernel
theorem dX8_rest_13 : decode cX8_rest 13 = .ok (.aload_n 3, 1) := by decide +kernel
theorem dX8_rest_14 : decode cX8_rest 14 = .ok (.getfield 330, 3) := by decide +kernel
theorem dX8_rest_17 : decode cX8_rest 17 = .ok (.ifCond .ne 7, 3) := by decide +kernel
theorem dX8_rest_20 : decode cX8_rest 20 = .ok (.ldc_w 282, 3) := by decide +kernel
theorem dX8_rest_23 : decode cX8_rest 23 = .ok (.ireturn, 1) := by decide +kernel
theorem dX8_rest_24 : decode cX8_rest 24 = .ok (.aload_n 3, 1) := by decide +kernel
theorem dX8_rest_25 : decode cX8_rest 25 = .ok (.getfield 330, 3) := by decide +kernel
theorem dX8_rest_28 : decode cX8_rest 28 = .ok (.iconst 3, 1) := by decide +kernel
theorem dX8_rest_29 : decode cX8_rest 29 = .ok (.if_icmp .eq 6, 3) := by decide +kernel
theorem dX8_rest_32 : decode cX8_rest 32 = .ok (.ldc 121, 2) := by decide +kernel
theorem dX8_rest_34 : decode cX8_rest 34 = .ok (.ireturn, 1) := by decide +kernel
theorem dX8_rest_35 : decode cX8_rest 35 = .ok (.iload_n 2, 1) := by decide +kernel
theorem dX8_rest_36 : decode cX8_rest 36 = .ok (.ifCond .ne 8, 3) := by decide +kernel
theorem dX8_rest_39 : decode cX8_rest 39 = .ok (.ldc 167, 2) := by decide +kernel
theorem dX8_rest_41 : decode cX8_rest 41 = .ok (.goto 9, 3) := by decide +kernel
theorem dX8_rest_44 : decode cX8_rest 44 = .ok (.aload_n 3, 1) := by decide +kernel
theorem dX8_rest_45 : decode cX8_rest 45 = .ok (.getfield 328, 3) := by decide +kernel
theorem dX8_rest_48 : decode cX8_rest 48 = .ok (.iload_n 2, 1) := by decide +kernel
theorem dX8_rest_49 : decode cX8_rest 49 = .ok (.irem, 1) := by decide +kernel
theorem dX8_rest_50 : decode cX8_rest 50 = .ok (.ireturn, 1) := by decide +kernel
theorem dX8_tell_0 : decode cX8_tell 0 = .ok (.aload_n 0, 1) := by decide +kernel
theorem dX8_tell_1 : decode cX8_tell 1 = .ok (.getfield 54, 3) := by decide +kernel
theorem dX8_tell_4 : decode cX8_tell 4 = .ok (.ifCond .lt 15, 3) := by decide +kernel
theorem dX8_tell_7 : decode cX8_tell 7 = .ok (.aload_n 0, 1) := by decide +kernel
theorem dX8_tell_8 : decode cX8_tell 8 = .ok (.getfield 54, 3) := by decide +kernel
theorem dX8_tell_11 : decode cX8_tell 11 = .ok (.aload_n 0, 1) := by decide +kernel
theorem dX8_tell_12 : decode cX8_tell 12 = .ok (.getfield 50, 3) := by decide +kernel
theorem dX8_tell_15 : decode cX8_tell 15 = .ok (.arraylength, 1) := by decide +kernel
theorem dX8_tell_16 : decode cX8_tell 16 = .ok (.if_icmp .lt 6, 3) := by decide +kernel
theorem dX8_tell_19 : decode cX8_tell 19 = .ok (.ldc 73, 2) := by decide +kernel
theorem dX8_tell_21 : decode cX8_tell 21 = .ok (.ireturn, 1) := by decide +kernel
theorem dX8_tell_22 : decode cX8_tell 22 = .ok (.aload_n 0, 1) := by decide +kernel
theorem dX8_tell_23 : decode cX8_tell 23 = .ok (.getfield 50, 3) := by decide +kernel
theorem dX8_tell_26 : decode cX8_tell 26 = .ok (.aload_n 0, 1) := by decide +kernel
theorem dX8_tell_27 : decode cX8_tell 27 = .ok (.getfield 54, 3) := by decide +kernel
theorem dX8_tell_30 : decode cX8_tell 30 = .ok (.iload_n 1, 1) := by decide +kernel
theorem dX8_tell_31 : decode cX8_tell 31 = .ok (.iastore, 1) := by decide +kernel
theorem dX8_tell_32 : decode cX8_tell 32 = .ok (.aload_n 0, 1) := by decide +kernel
theorem dX8_tell_33 : decode cX8_tell 33 = .ok (.dup, 1) := by decide +kernel
theorem dX8_tell_34 : decode cX8_tell 34 = .ok (.getfield 54, 3) := by decide +kernel
theorem dX8_tell_37 : decode cX8_tell 37 = .ok (.iconst 1, 1) := by decide +kernel
theorem dX8_tell_38 : decode cX8_tell 38 = .ok (.iadd, 1) := by decide +kernel
theorem dX8_tell_39 : decode cX8_tell 39 = .ok (.putfield 54, 3) := by decide +kernel
theorem dX8_tell_42 : decode cX8_tell 42 = .ok (.aload_n 0, 1) := by decide +kernel
theorem dX8_tell_43 : decode cX8_tell 43 = .ok (.getfield 54, 3) := by decide +kernel
theorem dX8_tell_46 : decode cX8_tell 46 = .ok (.ireturn, 1) := by decide +kernel
theorem dX8_check_0 : decode cX8_check 0 = .ok (.aload_n 0, 1) := by decide +kernel
theorem dX8_check_1 : decode cX8_check 1 = .ok (.getfield 54, 3) := by decide +kernel
theorem dX8_check_4 : decode cX8_check 4 = .ok (.istore_n 3, 1) := by decide +kernel
theorem dX8_check_5 : decode cX8_check 5 = .ok (.aload_n 0, 1) := by decide +kernel
theorem dX8_check_6 : decode cX8_check 6 = .ok (.iconst 0, 1) := by decide +kernel
theorem dX8_check_7 : decode cX8_check 7 = .ok (.putfield 54, 3) := by decide +kernel
theorem dX8_check_10 : decode cX8_check 10 = .ok (.iload_n 2, 1) := by decide +kernel
theorem dX8_check_11 : decode cX8_check 11 = .ok (.iconst 1, 1) := by decide +kernel
theorem dX8_check_12 : decode cX8_check 12 = .ok (.if_icmp .lt 9, 3) := by decide +kernel
theorem dX8_check_15 : decode cX8_check 15 = .ok (.iload_n 2, 1) := by decide +kernel
theorem dX8_check_16 : decode cX8_check 16 = .ok (.bipush 30, 2) := by decide +kernel
theorem dX8_check_18 : decode cX8_check 18 = .ok (.if_icmp .le 6, 3) := by decide +kernel
theorem dX8_check_21 : decode cX8_check 21 = .ok (.ldc 68, 2) := by decide +kernel
theorem dX8_check_23 : decode cX8_check 23 = .ok (.ireturn, 1) := by decide +kernel
theorem dX8_check_24 : decode cX8_check 24 = .ok (.aload_n 0, 1) := by decide +kernel
theorem dX8_check_25 : decode cX8_check 25 = .ok (.getfield 58, 3) := by decide +kernel
theorem dX8_check_28 : decode cX8_check 28 = .ok (.ifCond .ne 6, 3) := by decide +kernel
theorem dX8_check_31 : decode cX8_check 31 = .ok (.ldc 167, 2) := by decide +kernel
theorem dX8_check_33 : decode cX8_check 33 = .ok (.ireturn, 1) := by decide +kernel
theorem dX8_check_34 : decode cX8_check 34 = .ok (.aload_n 0, 1) := by decide +kernel
theorem dX8_check_35 : decode cX8_check 35 = .ok (.getfield 16, 3) := by decide +kernel
theorem dX8_check_38 : decode cX8_check 38 = .ok (.iload_n 1, 1) := by decide +kernel
theorem dX8_check_39 : decode cX8_check 39 = .ok (.invokevirtual 77, 3) := by decide +kernel
theorem dX8_check_42 : decode cX8_check 42 = .ok (.astore 4, 2) := by decide +kernel
theorem dX8_check_44 : decode cX8_check 44 = .ok (.aload 4, 2) := by decide +kernel
theorem dX8_check_46 : decode cX8_check 46 = .ok (.ifnonnull 6, 3) := by decide +kernel
theorem dX8_check_49 : decode cX8_check 49 = .ok (.ldc 68, 2) := by decide +kernel
theorem dX8_check_51 : decode cX8_check 51 = .ok (.ireturn, 1) := by decide +kernel
theorem dX8_check_52 : decode cX8_check 52 = .ok (.aload_n 0, 1) := by decide +kernel
theorem dX8_check_53 : decode cX8_check 53 = .ok (.getfield 28, 3) := by decide +kernel
theorem dX8_check_56 : decode cX8_check 56 = .ok (.aload 4, 2) := by decide +kernel
theorem dX8_check_58 : decode cX8_check 58 = .ok (.invokevirtual 215, 3) := by decide +kernel
theorem dX8_check_61 : decode cX8_check 61 = .ok (.aload_n 0, 1) := by decide +kernel
theorem dX8_check_62 : decode cX8_check 62 = .ok (.getfield 28, 3) := by decide +kernel
theorem dX8_check_65 : decode cX8_check 65 = .ok (.aload_n 0, 1) := by decide +kernel
theorem dX8_check_66 : decode cX8_check 66 = .ok (.getfield 50, 3) := by decide +kernel
theorem dX8_check_69 : decode cX8_check 69 = .ok (.iload_n 3, 1) := by decide +kernel
theorem dX8_check_70 : decode cX8_check 70 = .ok (.iload_n 2, 1) := by decide +kernel
theorem dX8_check_71 : decode cX8_check 71 = .ok (.invokevirtual 333, 3) := by decide +kernel
theorem dX8_check_74 : decode cX8_check 74 = .ok (.ireturn, 1) := by decide +kernel
theorem dX8_keep_0 : decode cX8_keep 0 = .ok (.aload_n 0, 1) := by decide +kernel
theorem dX8_keep_1 : decode cX8_keep 1 = .ok (.getfield 16, 3) := by decide +kernel
theorem dX8_keep_4 : decode cX8_keep 4 = .ok (.aload_n 0, 1) := by decide +kernel
theorem dX8_keep_5 : decode cX8_keep 5 = .ok (.getfield 10, 3) := by decide +kernel
theorem dX8_keep_8 : decode cX8_keep 8 = .ok (.invokevirtual 337, 3) := by decide +kernel
theorem dX8_keep_11 : decode cX8_keep 11 = .ok (.aload_n 0, 1) := by decide +kernel
theorem dX8_keep_12 : decode cX8_keep 12 = .ok (.iconst 1, 1) := by decide +kernel
theorem dX8_keep_13 : decode cX8_keep 13 = .ok (.putfield 58, 3) := by decide +kernel
theorem dX8_keep_16 : decode cX8_keep 16 = .ok (.aload_n 0, 1) := by decide +kernel
theorem dX8_keep_17 : decode cX8_keep 17 = .ok (.getfield 16, 3) := by decide +kernel
theorem dX8_keep_20 : decode cX8_keep 20 = .ok (.getfield 74, 3) := by decide +kernel
theorem dX8_keep_23 : decode cX8_keep 23 = .ok (.ireturn, 1) := by decide +kernel
theorem dX8_back_0 : decode cX8_back 0 = .ok (.aload_n 0, 1) := by decide +kernel
theorem dX8_back_1 : decode cX8_back 1 = .ok (.getfield 58, 3) := by decide +kernel
theorem dX8_back_4 : decode cX8_back 4 = .ok (.ifCond .ne 6, 3) := by decide +kernel
theorem dX8_back_7 : decode cX8_back 7 = .ok (.ldc 167, 2) := by decide +kernel
theorem dX8_back_9 : decode cX8_back 9 = .ok (.ireturn, 1) := by decide +kernel
theorem dX8_back_10 : decode cX8_back 10 = .ok (.aload_n 0, 1) := by decide +kernel
theorem dX8_back_11 : decode cX8_back 11 = .ok (.getfield 10, 3) := by decide +kernel
theorem dX8_back_14 : decode cX8_back 14 = .ok (.aload_n 0, 1) := by decide +kernel
theorem dX8_back_15 : decode cX8_back 15 = .ok (.getfield 16, 3) := by decide +kernel
theorem dX8_back_18 : decode cX8_back 18 = .ok (.invokevirtual 337, 3) := by decide +kernel
theorem dX8_back_21 : decode cX8_back 21 = .ok (.aload_n 0, 1) := by decide +kernel
theorem dX8_back_22 : decode cX8_back 22 = .ok (.getfield 10, 3) := by decide +kernel
theorem dX8_back_25 : decode cX8_back 25 = .ok (.getfield 74, 3) := by decide +kernel
theorem dX8_back_28 : decode cX8_back 28 = .ok (.ireturn, 1) := by decide +kernel
theorem dX8_count_0 : decode cX8_count 0 = .ok (.iload_n 1, 1) := by decide +kernel
theorem dX8_count_1 : decode cX8_count 1 = .ok (.tableswitch 72 0 4 #[35, 43, 51, 56, 64], 35) := by decide +kernel
theorem dX8_count_36 : decode cX8_count 36 = .ok (.aload_n 0, 1) := by decide +kernel
theorem dX8_count_37 : decode cX8_count 37 = .ok (.getfield 10, 3) := by decide +kernel
theorem dX8_count_40 : decode cX8_count 40 = .ok (.getfield 74, 3) := by decide +kernel
theorem dX8_count_43 : decode cX8_count 43 = .ok (.ireturn, 1) := by decide +kernel
theorem dX8_count_44 : decode cX8_count 44 = .ok (.aload_n 0, 1) := by decide +kernel
theorem dX8_count_45 : decode cX8_count 45 = .ok (.getfield 10, 3) := by decide +kernel
theorem dX8_count_48 : decode cX8_count 48 = .ok (.getfield 245, 3) := by decide +kernel
theorem dX8_count_51 : decode cX8_count 51 = .ok (.ireturn, 1) := by decide +kernel
theorem dX8_count_52 : decode cX8_count 52 = .ok (.aload_n 0, 1) := by decide +kernel
theorem dX8_count_53 : decode cX8_count 53 = .ok (.getfield 54, 3) := by decide +kernel
theorem dX8_count_56 : decode cX8_count 56 = .ok (.ireturn, 1) := by decide +kernel
theorem dX8_count_57 : decode cX8_count 57 = .ok (.aload_n 0, 1) := by decide +kernel
theorem dX8_count_58 : decode cX8_count 58 = .ok (.getfield 34, 3) := by decide +kernel
theorem dX8_count_61 : decode cX8_count 61 = .ok (.getfield 236, 3) := by decide +kernel
theorem dX8_count_64 : decode cX8_count 64 = .ok (.ireturn, 1) := by decide +kernel
theorem dX8_count_65 : decode cX8_count 65 = .ok (.aload_n 0, 1) := by decide +kernel
theorem dX8_count_66 : decode cX8_count 66 = .ok (.getfield 10, 3) := by decide +kernel
theorem dX8_count_69 : decode cX8_count 69 = .ok (.getfield 131, 3) := by decide +kernel
theorem dX8_count_72 : decode cX8_count 72 = .ok (.ireturn, 1) := by decide +kernel
theorem dX8_count_73 : decode cX8_count 73 = .ok (.ldc 68, 2) := by decide +kernel
theorem dX8_count_75 : decode cX8_count 75 = .ok (.ireturn, 1) := by decide +kernel
theorem dX8_shapeAt_0 : decode cX8_shapeAt 0 = .ok (.aload_n 0, 1) := by decide +kernel
theorem dX8_shapeAt_1 : decode cX8_shapeAt 1 = .ok (.getfield 10, 3) := by decide +kernel
theorem dX8_shapeAt_4 : decode cX8_shapeAt 4 = .ok (.iload_n 1, 1) := by decide +kernel
theorem dX8_shapeAt_5 : decode cX8_shapeAt 5 = .ok (.invokevirtual 77, 3) := by decide +kernel
theorem dX8_shapeAt_8 : decode cX8_shapeAt 8 = .ok (.astore_n 3, 1) := by decide +kernel
theorem dX8_shapeAt_9 : decode cX8_shapeAt 9 = .ok (.aload_n 3, 1) := by decide +kernel
theorem dX8_shapeAt_10 : decode cX8_shapeAt 10 = .ok (.ifnull 25, 3) := by decide +kernel
theorem dX8_shapeAt_13 : decode cX8_shapeAt 13 = .ok (.iload_n 2, 1) := by decide +kernel
theorem dX8_shapeAt_14 : decode cX8_shapeAt 14 = .ok (.ifCond .lt 21, 3) := by decide +kernel
theorem dX8_shapeAt_17 : decode cX8_shapeAt 17 = .ok (.iload_n 2, 1) := by decide +kernel
theorem dX8_shapeAt_18 : decode cX8_shapeAt 18 = .ok (.bipush 100, 2) := by decide +kernel
theorem dX8_shapeAt_20 : decode cX8_shapeAt 20 = .ok (.idiv, 1) := by decide +kernel
theorem dX8_shapeAt_21 : decode cX8_shapeAt 21 = .ok (.bipush 11, 2) := by decide +kernel
theorem dX8_shapeAt_23 : decode cX8_shapeAt 23 = .ok (.if_icmp .ge 12, 3) := by decide +kernel
theorem dX8_shapeAt_26 : decode cX8_shapeAt 26 = .ok (.iload_n 2, 1) := by decide +kernel
theorem dX8_shapeAt_27 : decode cX8_shapeAt 27 = .ok (.bipush 100, 2) := by decide +kernel
theorem dX8_shapeAt_29 : decode cX8_shapeAt 29 = .ok (.irem, 1) := by decide +kernel
theorem dX8_shapeAt_30 : decode cX8_shapeAt 30 = .ok (.bipush 11, 2) := by decide +kernel
theorem dX8_shapeAt_32 : decode cX8_shapeAt 32 = .ok (.if_icmp .lt 5, 3) := by decide +kernel
theorem dX8_shapeAt_35 : decode cX8_shapeAt 35 = .ok (.aconst_null, 1) := by decide +kernel
theorem dX8_shapeAt_36 : decode cX8_shapeAt 36 = .ok (.areturn, 1) := by decide +kernel
theorem dX8_shapeAt_37 : decode cX8_shapeAt 37 = .ok (.aload_n 0, 1) := by decide +kernel
theorem dX8_shapeAt_38 : decode cX8_shapeAt 38 = .ok (.getfield 24, 3) := by decide +kernel
theorem dX8_shapeAt_41 : decode cX8_shapeAt 41 = .ok (.aload_n 3, 1) := by decide +kernel
theorem dX8_shapeAt_42 : decode cX8_shapeAt 42 = .ok (.invokevirtual 105, 3) := by decide +kernel
theorem dX8_shapeAt_45 : decode cX8_shapeAt 45 = .ok (.aload_n 0, 1) := by decide +kernel
theorem dX8_shapeAt_46 : decode cX8_shapeAt 46 = .ok (.getfield 24, 3) := by decide +kernel
theorem dX8_shapeAt_49 : decode cX8_shapeAt 49 = .ok (.iload_n 2, 1) := by decide +kernel
theorem dX8_shapeAt_50 : decode cX8_shapeAt 50 = .ok (.bipush 100, 2) := by decide +kernel
theorem dX8_shapeAt_52 : decode cX8_shapeAt 52 = .ok (.idiv, 1) := by decide +kernel
theorem dX8_shapeAt_53 : decode cX8_shapeAt 53 = .ok (.iconst 5, 1) := by decide +kernel
theorem dX8_shapeAt_54 : decode cX8_shapeAt 54 = .ok (.isub, 1) := by decide +kernel
theorem dX8_shapeAt_55 : decode cX8_shapeAt 55 = .ok (.iload_n 2, 1) := by decide +kernel
theorem dX8_shapeAt_56 : decode cX8_shapeAt 56 = .ok (.bipush 100, 2) := by decide +kernel
theorem dX8_shapeAt_58 : decode cX8_shapeAt 58 = .ok (.irem, 1) := by decide +kernel
theorem dX8_shapeAt_59 : decode cX8_shapeAt 59 = .ok (.iconst 5, 1) := by decide +kernel
theorem dX8_shapeAt_60 : decode cX8_shapeAt 60 = .ok (.isub, 1) := by decide +kernel
theorem dX8_shapeAt_61 : decode cX8_shapeAt 61 = .ok (.invokevirtual 339, 3) := by decide +kernel
theorem dX8_shapeAt_64 : decode cX8_shapeAt 64 = .ok (.areturn, 1) := by decide +kernel
theorem dX8_sheetOf_0 : decode cX8_sheetOf 0 = .ok (.iload_n 1, 1) := by decide +kernel
theorem dX8_sheetOf_1 : decode cX8_sheetOf 1 = .ok (.ifCond .lt 12, 3) := by decide +kernel
theorem dX8_sheetOf_4 : decode cX8_sheetOf 4 = .ok (.iload_n 1, 1) := by decide +kernel
theorem dX8_sheetOf_5 : decode cX8_sheetOf 5 = .ok (.aload_n 0, 1) := by decide +kernel
theorem dX8_sheetOf_6 : decode cX8_sheetOf 6 = .ok (.getfield 40, 3) := by decide +kernel
theorem dX8_sheetOf_9 : decode cX8_sheetOf 9 = .ok (.arraylength, 1) := by decide +kernel
theorem dX8_sheetOf_10 : decode cX8_sheetOf 10 = .ok (.if_icmp .lt 7, 3) := by decide +kernel
theorem dX8_sheetOf_13 : decode cX8_sheetOf 13 = .ok (.aconst_null, 1) := by decide +kernel
theorem dX8_sheetOf_14 : decode cX8_sheetOf 14 = .ok (.goto 9, 3) := by decide +kernel
theorem dX8_sheetOf_17 : decode cX8_sheetOf 17 = .ok (.aload_n 0, 1) := by decide +kernel
theorem dX8_sheetOf_18 : decode cX8_sheetOf 18 = .ok (.getfield 40, 3) := by decide +kernel
theorem dX8_sheetOf_21 : decode cX8_sheetOf 21 = .ok (.iload_n 1, 1) := by decide +kernel
theorem dX8_sheetOf_22 : decode cX8_sheetOf 22 = .ok (.aaload, 1) := by decide +kernel
theorem dX8_sheetOf_23 : decode cX8_sheetOf 23 = .ok (.areturn, 1) := by decide +kernel
theorem dX8_slotOf_0 : decode cX8_slotOf 0 = .ok (.iload_n 1, 1) := by decide +kernel
theorem dX8_slotOf_1 : decode cX8_slotOf 1 = .ok (.ifCond .lt 12, 3) := by decide +kernel
theorem dX8_slotOf_4 : decode cX8_slotOf 4 = .ok (.iload_n 1, 1) := by decide +kernel
theorem dX8_slotOf_5 : decode cX8_slotOf 5 = .ok (.aload_n 0, 1) := by decide +kernel
theorem dX8_slotOf_6 : decode cX8_slotOf 6 = .ok (.getfield 46, 3) := by decide +kernel
theorem dX8_slotOf_9 : decode cX8_slotOf 9 = .ok (.arraylength, 1) := by decide +kernel
theorem dX8_slotOf_10 : decode cX8_slotOf 10 = .ok (.if_icmp .lt 7, 3) := by decide +kernel
theorem dX8_slotOf_13 : decode cX8_slotOf 13 = .ok (.aconst_null, 1) := by decide +kernel
theorem dX8_slotOf_14 : decode cX8_slotOf 14 = .ok (.goto 9, 3) := by decide +kernel
theorem dX8_slotOf_17 : decode cX8_slotOf 17 = .ok (.aload_n 0, 1) := by decide +kernel
theorem dX8_slotOf_18 : decode cX8_slotOf 18 = .ok (.getfield 46, 3) := by decide +kernel
theorem dX8_slotOf_21 : decode cX8_slotOf 21 = .ok (.iload_n 1, 1) := by decide +kernel
theorem dX8_slotOf_22 : decode cX8_slotOf 22 = .ok (.aaload, 1) := by decide +kernel
theorem dX8_slotOf_23 : decode cX8_slotOf 23 = .ok (.areturn, 1) := by decide +kernel
theorem dX8_isKind_0 : decode cX8_isKind 0 = .ok (.iload_n 0, 1) := by decide +kernel
theorem dX8_isKind_1 : decode cX8_isKind 1 = .ok (.ifCond .lt 12, 3) := by decide +kernel
theorem dX8_isKind_4 : decode cX8_isKind 4 = .ok (.iload_n 0, 1) := by decide +kernel
theorem dX8_isKind_5 : decode cX8_isKind 5 = .ok (.iconst 5, 1) := by decide +kernel
theorem dX8_isKind_6 : decode cX8_isKind 6 = .ok (.if_icmp .gt 7, 3) := by decide +kernel
theorem dX8_isKind_9 : decode cX8_isKind 9 = .ok (.iconst 1, 1) := by decide +kernel
theorem dX8_isKind_10 : decode cX8_isKind 10 = .ok (.goto 4, 3) := by decide +kernel
theorem dX8_isKind_13 : decode cX8_isKind 13 = .ok (.iconst 0, 1) := by decide +kernel
theorem dX8_isKind_14 : decode cX8_isKind 14 = .ok (.ireturn, 1) := by decide +kernel
theorem dX8_isSlope_0 : decode cX8_isSlope 0 = .ok (.iload_n 0, 1) := by decide +kernel
theorem dX8_isSlope_1 : decode cX8_isSlope 1 = .ok (.bipush (-5), 2) := by decide +kernel
theorem dX8_isSlope_3 : decode cX8_isSlope 3 = .ok (.if_icmp .lt 12, 3) := by decide +kernel
theorem dX8_isSlope_6 : decode cX8_isSlope 6 = .ok (.iload_n 0, 1) := by decide +kernel
theorem dX8_isSlope_7 : decode cX8_isSlope 7 = .ok (.iconst 5, 1) := by decide +kernel
theorem dX8_isSlope_8 : decode cX8_isSlope 8 = .ok (.if_icmp .gt 7, 3) := by decide +kernel
theorem dX8_isSlope_11 : decode cX8_isSlope 11 = .ok (.iconst 1, 1) := by decide +kernel
theorem dX8_isSlope_12 : decode cX8_isSlope 12 = .ok (.goto 4, 3) := by decide +kernel
theorem dX8_isSlope_15 : decode cX8_isSlope 15 = .ok (.iconst 0, 1) := by decide +kernel
theorem dX8_isSlope_16 : decode cX8_isSlope 16 = .ok (.ireturn, 1) := by decide +kernel
theorem dX8_held_0 : decode cX8_held 0 = .ok (.bipush (-99), 2) := by decide +kernel
theorem dX8_held_2 : decode cX8_held 2 = .ok (.bipush 99, 2) := by decide +kernel
theorem dX8_held_4 : decode cX8_held 4 = .ok (.iload_n 0, 1) := by decide +kernel
theorem dX8_held_5 : decode cX8_held 5 = .ok (.invokestatic 342, 3) := by decide +kernel
theorem dX8_held_8 : decode cX8_held 8 = .ok (.invokestatic 345, 3) := by decide +kernel
theorem dX8_held_11 : decode cX8_held 11 = .ok (.ireturn, 1) := by decide +kernel
theorem dX8_indexOf_0 : decode cX8_indexOf 0 = .ok (.iload_n 0, 1) := by decide +kernel
theorem dX8_indexOf_1 : decode cX8_indexOf 1 = .ok (.ifCond .lt 22, 3) := by decide +kernel
theorem dX8_indexOf_4 : decode cX8_indexOf 4 = .ok (.iload_n 0, 1) := by decide +kernel
theorem dX8_indexOf_5 : decode cX8_indexOf 5 = .ok (.getstatic 348, 3) := by decide +kernel
theorem dX8_indexOf_8 : decode cX8_indexOf 8 = .ok (.arraylength, 1) := by decide +kernel
theorem dX8_indexOf_9 : decode cX8_indexOf 9 = .ok (.if_icmp .ge 14, 3) := by decide +kernel
theorem dX8_indexOf_12 : decode cX8_indexOf 12 = .ok (.iload_n 1, 1) := by decide +kernel
theorem dX8_indexOf_13 : decode cX8_indexOf 13 = .ok (.ifCond .lt 10, 3) := by decide +kernel
theorem dX8_indexOf_16 : decode cX8_indexOf 16 = .ok (.iload_n 1, 1) := by decide +kernel
theorem dX8_indexOf_17 : decode cX8_indexOf 17 = .ok (.iconst 4, 1) := by decide +kernel
theorem dX8_indexOf_18 : decode cX8_indexOf 18 = .ok (.iload_n 0, 1) := by decide +kernel
theorem dX8_indexOf_19 : decode cX8_indexOf 19 = .ok (.isub, 1) := by decide +kernel
theorem dX8_indexOf_20 : decode cX8_indexOf 20 = .ok (.if_icmp .le 5, 3) := by decide +kernel
theorem dX8_indexOf_23 : decode cX8_indexOf 23 = .ok (.iconst (-1), 1) := by decide +kernel
theorem dX8_indexOf_24 : decode cX8_indexOf 24 = .ok (.ireturn, 1) := by decide +kernel
theorem dX8_indexOf_25 : decode cX8_indexOf 25 = .ok (.getstatic 348, 3) := by decide +kernel
theorem dX8_indexOf_28 : decode cX8_indexOf 28 = .ok (.iload_n 0, 1) := by decide +kernel
theorem dX8_indexOf_29 : decode cX8_indexOf 29 = .ok (.iaload, 1) := by decide +kernel
theorem dX8_indexOf_30 : decode cX8_indexOf 30 = .ok (.iload_n 1, 1) := by decide +kernel
theorem dX8_indexOf_31 : decode cX8_indexOf 31 = .ok (.iadd, 1) := by decide +kernel
theorem dX8_indexOf_32 : decode cX8_indexOf 32 = .ok (.ireturn, 1) := by decide +kernel
theorem dX8_greatestShared_0 : decode cX8_greatestShared 0 = .ok (.iload_n 0, 1) := by decide +kernel
theorem dX8_greatestShared_1 : decode cX8_greatestShared 1 = .ok (.istore_n 2, 1) := by decide +kernel
theorem dX8_greatestShared_2 : decode cX8_greatestShared 2 = .ok (.iload_n 1, 1) := by decide +kernel
theorem dX8_greatestShared_3 : decode cX8_greatestShared 3 = .ok (.istore_n 3, 1) := by decide +kernel
theorem dX8_greatestShared_4 : decode cX8_greatestShared 4 = .ok (.iconst 0, 1) := by decide +kernel
theorem dX8_greatestShared_5 : decode cX8_greatestShared 5 = .ok (.istore 4, 2) := by decide +kernel
theorem dX8_greatestShared_7 : decode cX8_greatestShared 7 = .ok (.iload 4, 2) := by decide +kernel
theorem dX8_greatestShared_9 : decode cX8_greatestShared 9 = .ok (.bipush 100, 2) := by decide +kernel
theorem dX8_greatestShared_11 : decode cX8_greatestShared 11 = .ok (.if_icmp .ge 23, 3) := by decide +kernel
theorem dX8_greatestShared_14 : decode cX8_greatestShared 14 = .ok (.iload_n 3, 1) := by decide +kernel
theorem dX8_greatestShared_15 : decode cX8_greatestShared 15 = .ok (.ifCond .eq 19, 3) := by decide +kernel
theorem dX8_greatestShared_18 : decode cX8_greatestShared 18 = .ok (.iload_n 2, 1) := by decide +kernel
theorem dX8_greatestShared_19 : decode cX8_greatestShared 19 = .ok (.iload_n 3, 1) := by decide +kernel
theorem dX8_greatestShared_20 : decode cX8_greatestShared 20 = .ok (.irem, 1) := by decide +kernel
theorem dX8_greatestShared_21 : decode cX8_greatestShared 21 = .ok (.istore 5, 2) := by decide +kernel
theorem dX8_greatestShared_23 : decode cX8_greatestShared 23 = .ok (.iload_n 3, 1) := by decide +kernel
theorem dX8_greatestShared_24 : decode cX8_greatestShared 24 = .ok (.istore_n 2, 1) := by decide +kernel
theorem dX8_greatestShared_25 : decode cX8_greatestShared 25 = .ok (.iload 5, 2) := by decide +kernel
theorem dX8_greatestShared_27 : decode cX8_greatestShared 27 = .ok (.istore_n 3, 1) := by decide +kernel
theorem dX8_greatestShared_28 : decode cX8_greatestShared 28 = .ok (.iinc 4 1, 3) := by decide +kernel
theorem dX8_greatestShared_31 : decode cX8_greatestShared 31 = .ok (.goto (-24), 3) := by decide +kernel
theorem dX8_greatestShared_34 : decode cX8_greatestShared 34 = .ok (.iload_n 2, 1) := by decide +kernel
theorem dX8_greatestShared_35 : decode cX8_greatestShared 35 = .ok (.ireturn, 1) := by decide +kernel
