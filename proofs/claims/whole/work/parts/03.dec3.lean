theorem dX0_init_0 : decode cX0_init 0 = .ok (.aload_n 0, 1) := by decide +kernel
theorem dX0_init_1 : decode cX0_init 1 = .ok (.invokespecial 3, 3) := by decide +kernel
theorem dX0_init_4 : decode cX0_init 4 = .ok (.aload_n 0, 1) := by decide +kernel
theorem dX0_init_5 : decode cX0_init 5 = .ok (.ldc 9, 2) := by decide +kernel
theorem dX0_init_7 : decode cX0_init 7 = .ok (.putfield 10, 3) := by decide +kernel
theorem dX0_init_10 : decode cX0_init 10 = .ok (.return_, 1) := by decide +kernel
theorem dX0_allows_0 : decode cX0_allows 0 = .ok (.iload_n 1, 1) := by decide +kernel
theorem dX0_allows_1 : decode cX0_allows 1 = .ok (.aload_n 0, 1) := by decide +kernel
theorem dX0_allows_2 : decode cX0_allows 2 = .ok (.getfield 16, 3) := by decide +kernel
theorem dX0_allows_5 : decode cX0_allows 5 = .ok (.if_icmp .lt 15, 3) := by decide +kernel
theorem dX0_allows_8 : decode cX0_allows 8 = .ok (.iload_n 1, 1) := by decide +kernel
theorem dX0_allows_9 : decode cX0_allows 9 = .ok (.aload_n 0, 1) := by decide +kernel
theorem dX0_allows_10 : decode cX0_allows 10 = .ok (.getfield 19, 3) := by decide +kernel
theorem dX0_allows_13 : decode cX0_allows 13 = .ok (.if_icmp .gt 7, 3) := by decide +kernel
theorem dX0_allows_16 : decode cX0_allows 16 = .ok (.iconst 1, 1) := by decide +kernel
theorem dX0_allows_17 : decode cX0_allows 17 = .ok (.goto 4, 3) := by decide +kernel
theorem dX0_allows_20 : decode cX0_allows 20 = .ok (.iconst 0, 1) := by decide +kernel
theorem dX0_allows_21 : decode cX0_allows 21 = .ok (.ireturn, 1) := by decide +kernel
theorem dX0_countSettings_0 : decode cX0_countSettings 0 = .ok (.aload_n 0, 1) := by decide +kernel
theorem dX0_countSettings_1 : decode cX0_countSettings 1 = .ok (.getfield 19, 3) := by decide +kernel
theorem dX0_countSettings_4 : decode cX0_countSettings 4 = .ok (.aload_n 0, 1) := by decide +kernel
theorem dX0_countSettings_5 : decode cX0_countSettings 5 = .ok (.getfield 16, 3) := by decide +kernel
theorem dX0_countSettings_8 : decode cX0_countSettings 8 = .ok (.isub, 1) := by decide +kernel
theorem dX0_countSettings_9 : decode cX0_countSettings 9 = .ok (.iconst 1, 1) := by decide +kernel
theorem dX0_countSettings_10 : decode cX0_countSettings 10 = .ok (.iadd, 1) := by decide +kernel
theorem dX0_countSettings_11 : decode cX0_countSettings 11 = .ok (.ireturn, 1) := by decide +kernel
theorem dX0_isOf_0 : decode cX0_isOf 0 = .ok (.aload_n 0, 1) := by decide +kernel
theorem dX0_isOf_1 : decode cX0_isOf 1 = .ok (.getfield 22, 3) := by decide +kernel
theorem dX0_isOf_4 : decode cX0_isOf 4 = .ok (.iload_n 1, 1) := by decide +kernel
theorem dX0_isOf_5 : decode cX0_isOf 5 = .ok (.if_icmp .eq 16, 3) := by decide +kernel
theorem dX0_isOf_8 : decode cX0_isOf 8 = .ok (.aload_n 0, 1) := by decide +kernel
theorem dX0_isOf_9 : decode cX0_isOf 9 = .ok (.getfield 22, 3) := by decide +kernel
theorem dX0_isOf_12 : decode cX0_isOf 12 = .ok (.iconst 4, 1) := by decide +kernel
theorem dX0_isOf_13 : decode cX0_isOf 13 = .ok (.if_icmp .ne 12, 3) := by decide +kernel
theorem dX0_isOf_16 : decode cX0_isOf 16 = .ok (.iload_n 1, 1) := by decide +kernel
theorem dX0_isOf_17 : decode cX0_isOf 17 = .ok (.iconst 3, 1) := by decide +kernel
theorem dX0_isOf_18 : decode cX0_isOf 18 = .ok (.if_icmp .ne 7, 3) := by decide +kernel
theorem dX0_isOf_21 : decode cX0_isOf 21 = .ok (.iconst 1, 1) := by decide +kernel
theorem dX0_isOf_22 : decode cX0_isOf 22 = .ok (.goto 4, 3) := by decide +kernel
theorem dX0_isOf_25 : decode cX0_isOf 25 = .ok (.iconst 0, 1) := by decide +kernel
theorem dX0_isOf_26 : decode cX0_isOf 26 = .ok (.ireturn, 1) := by decide +kernel
theorem dX1_init_0 : decode cX1_init 0 = .ok (.aload_n 0, 1) := by decide +kernel
theorem dX1_init_1 : decode cX1_init 1 = .ok (.invokespecial 3, 3) := by decide +kernel
theorem dX1_init_4 : decode cX1_init 4 = .ok (.aload_n 0, 1) := by decide +kernel
theorem dX1_init_5 : decode cX1_init 5 = .ok (.bipush 16, 2) := by decide +kernel
theorem dX1_init_7 : decode cX1_init 7 = .ok (.newarray .int, 2) := by decide +kernel
theorem dX1_init_9 : decode cX1_init 9 = .ok (.putfield 9, 3) := by decide +kernel
theorem dX1_init_12 : decode cX1_init 12 = .ok (.aload_n 0, 1) := by decide +kernel
theorem dX1_init_13 : decode cX1_init 13 = .ok (.bipush (-9), 2) := by decide +kernel
theorem dX1_init_15 : decode cX1_init 15 = .ok (.putfield 15, 3) := by decide +kernel
theorem dX1_init_18 : decode cX1_init 18 = .ok (.return_, 1) := by decide +kernel
theorem dX1_isThere_0 : decode cX1_isThere 0 = .ok (.aload_n 0, 1) := by decide +kernel
theorem dX1_isThere_1 : decode cX1_isThere 1 = .ok (.getfield 15, 3) := by decide +kernel
theorem dX1_isThere_4 : decode cX1_isThere 4 = .ok (.ifCond .lt 7, 3) := by decide +kernel
theorem dX1_isThere_7 : decode cX1_isThere 7 = .ok (.iconst 1, 1) := by decide +kernel
theorem dX1_isThere_8 : decode cX1_isThere 8 = .ok (.goto 4, 3) := by decide +kernel
theorem dX1_isThere_11 : decode cX1_isThere 11 = .ok (.iconst 0, 1) := by decide +kernel
theorem dX1_isThere_12 : decode cX1_isThere 12 = .ok (.ireturn, 1) := by decide +kernel
theorem dX1_drop_0 : decode cX1_drop 0 = .ok (.aload_n 0, 1) := by decide +kernel
theorem dX1_drop_1 : decode cX1_drop 1 = .ok (.bipush (-9), 2) := by decide +kernel
theorem dX1_drop_3 : decode cX1_drop 3 = .ok (.putfield 15, 3) := by decide +kernel
theorem dX1_drop_6 : decode cX1_drop 6 = .ok (.return_, 1) := by decide +kernel
theorem dX1_take_0 : decode cX1_take 0 = .ok (.aload_n 1, 1) := by decide +kernel
theorem dX1_take_1 : decode cX1_take 1 = .ok (.iload_n 2, 1) := by decide +kernel
theorem dX1_take_2 : decode cX1_take 2 = .ok (.aload_n 0, 1) := by decide +kernel
theorem dX1_take_3 : decode cX1_take 3 = .ok (.getfield 9, 3) := by decide +kernel
theorem dX1_take_6 : decode cX1_take 6 = .ok (.iconst 0, 1) := by decide +kernel
theorem dX1_take_7 : decode cX1_take 7 = .ok (.iload_n 3, 1) := by decide +kernel
theorem dX1_take_8 : decode cX1_take 8 = .ok (.invokestatic 19, 3) := by decide +kernel
theorem dX1_take_11 : decode cX1_take 11 = .ok (.aload_n 0, 1) := by decide +kernel
theorem dX1_take_12 : decode cX1_take 12 = .ok (.iload_n 3, 1) := by decide +kernel
theorem dX1_take_13 : decode cX1_take 13 = .ok (.putfield 15, 3) := by decide +kernel
theorem dX1_take_16 : decode cX1_take 16 = .ok (.return_, 1) := by decide +kernel
theorem dX2_init_0 : decode cX2_init 0 = .ok (.aload_n 0, 1) := by decide +kernel
theorem dX2_init_1 : decode cX2_init 1 = .ok (.invokespecial 3, 3) := by decide +kernel
theorem dX2_init_4 : decode cX2_init 4 = .ok (.aload_n 0, 1) := by decide +kernel
theorem dX2_init_5 : decode cX2_init 5 = .ok (.bipush 16, 2) := by decide +kernel
theorem dX2_init_7 : decode cX2_init 7 = .ok (.newarray .long, 2) := by decide +kernel
theorem dX2_init_9 : decode cX2_init 9 = .ok (.putfield 9, 3) := by decide +kernel
theorem dX2_init_12 : decode cX2_init 12 = .ok (.aload_n 0, 1) := by decide +kernel
theorem dX2_init_13 : decode cX2_init 13 = .ok (.bipush 16, 2) := by decide +kernel
theorem dX2_init_15 : decode cX2_init 15 = .ok (.newarray .long, 2) := by decide +kernel
theorem dX2_init_17 : decode cX2_init 17 = .ok (.putfield 15, 3) := by decide +kernel
theorem dX2_init_20 : decode cX2_init 20 = .ok (.return_, 1) := by decide +kernel
theorem dX2_workAll_0 : decode cX2_workAll 0 = .ok (.iconst 0, 1) := by decide +kernel
theorem dX2_workAll_1 : decode cX2_workAll 1 = .ok (.istore_n 3, 1) := by decide +kernel
theorem dX2_workAll_2 : decode cX2_workAll 2 = .ok (.iload_n 3, 1) := by decide +kernel
theorem dX2_workAll_3 : decode cX2_workAll 3 = .ok (.aload_n 1, 1) := by decide +kernel
theorem dX2_workAll_4 : decode cX2_workAll 4 = .ok (.getfield 18, 3) := by decide +kernel
theorem dX2_workAll_7 : decode cX2_workAll 7 = .ok (.if_icmp .ge 23, 3) := by decide +kernel
theorem dX2_workAll_10 : decode cX2_workAll 10 = .ok (.aload_n 0, 1) := by decide +kernel
theorem dX2_workAll_11 : decode cX2_workAll 11 = .ok (.aload_n 1, 1) := by decide +kernel
theorem dX2_workAll_12 : decode cX2_workAll 12 = .ok (.getfield 24, 3) := by decide +kernel
theorem dX2_workAll_15 : decode cX2_workAll 15 = .ok (.iload_n 3, 1) := by decide +kernel
theorem dX2_workAll_16 : decode cX2_workAll 16 = .ok (.aaload, 1) := by decide +kernel
theorem dX2_workAll_17 : decode cX2_workAll 17 = .ok (.iload_n 3, 1) := by decide +kernel
theorem dX2_workAll_18 : decode cX2_workAll 18 = .ok (.aload_n 2, 1) := by decide +kernel
theorem dX2_workAll_19 : decode cX2_workAll 19 = .ok (.iload_n 3, 1) := by decide +kernel
theorem dX2_workAll_20 : decode cX2_workAll 20 = .ok (.iaload, 1) := by decide +kernel
theorem dX2_workAll_21 : decode cX2_workAll 21 = .ok (.invokevirtual 28, 3) := by decide +kernel
theorem dX2_workAll_24 : decode cX2_workAll 24 = .ok (.iinc 3 1, 3) := by decide +kernel
theorem dX2_workAll_27 : decode cX2_workAll 27 = .ok (.goto (-25), 3) := by decide +kernel
theorem dX2_workAll_30 : decode cX2_workAll 30 = .ok (.return_, 1) := by decide +kernel
theorem dX2_areSound_0 : decode cX2_areSound 0 = .ok (.iconst 0, 1) := by decide +kernel
theorem dX2_areSound_1 : decode cX2_areSound 1 = .ok (.istore_n 3, 1) := by decide +kernel
theorem dX2_areSound_2 : decode cX2_areSound 2 = .ok (.iload_n 3, 1) := by decide +kernel
theorem dX2_areSound_3 : decode cX2_areSound 3 = .ok (.aload_n 1, 1) := by decide +kernel
theorem dX2_areSound_4 : decode cX2_areSound 4 = .ok (.getfield 18, 3) := by decide +kernel
theorem dX2_areSound_7 : decode cX2_areSound 7 = .ok (.if_icmp .ge 39, 3) := by decide +kernel
theorem dX2_areSound_10 : decode cX2_areSound 10 = .ok (.aload_n 0, 1) := by decide +kernel
theorem dX2_areSound_11 : decode cX2_areSound 11 = .ok (.aload_n 1, 1) := by decide +kernel
theorem dX2_areSound_12 : decode cX2_areSound 12 = .ok (.getfield 24, 3) := by decide +kernel
theorem dX2_areSound_15 : decode cX2_areSound 15 = .ok (.iload_n 3, 1) := by decide +kernel
theorem dX2_areSound_16 : decode cX2_areSound 16 = .ok (.aaload, 1) := by decide +kernel
theorem dX2_areSound_17 : decode cX2_areSound 17 = .ok (.iload_n 3, 1) := by decide +kernel
theorem dX2_areSound_18 : decode cX2_areSound 18 = .ok (.aload_n 2, 1) := by decide +kernel
theorem dX2_areSound_19 : decode cX2_areSound 19 = .ok (.iload_n 3, 1) := by decide +kernel
theorem dX2_areSound_20 : decode cX2_areSound 20 = .ok (.iaload, 1) := by decide +kernel
theorem dX2_areSound_21 : decode cX2_areSound 21 = .ok (.invokevirtual 28, 3) := by decide +kernel
theorem dX2_areSound_24 : decode cX2_areSound 24 = .ok (.aload_n 0, 1) := by decide +kernel
theorem dX2_areSound_25 : decode cX2_areSound 25 = .ok (.aload_n 1, 1) := by decide +kernel
theorem dX2_areSound_26 : decode cX2_areSound 26 = .ok (.getfield 24, 3) := by decide +kernel
theorem dX2_areSound_29 : decode cX2_areSound 29 = .ok (.iload_n 3, 1) := by decide +kernel
theorem dX2_areSound_30 : decode cX2_areSound 30 = .ok (.aaload, 1) := by decide +kernel
theorem dX2_areSound_31 : decode cX2_areSound 31 = .ok (.iload_n 3, 1) := by decide +kernel
theorem dX2_areSound_32 : decode cX2_areSound 32 = .ok (.invokevirtual 32, 3) := by decide +kernel
theorem dX2_areSound_35 : decode cX2_areSound 35 = .ok (.ifCond .ne 5, 3) := by decide +kernel
theorem dX2_areSound_38 : decode cX2_areSound 38 = .ok (.iconst 0, 1) := by decide +kernel
theorem dX2_areSound_39 : decode cX2_areSound 39 = .ok (.ireturn, 1) := by decide +kernel
theorem dX2_areSound_40 : decode cX2_areSound 40 = .ok (.iinc 3 1, 3) := by decide +kernel
theorem dX2_areSound_43 : decode cX2_areSound 43 = .ok (.goto (-41), 3) := by decide +kernel
theorem dX2_areSound_46 : decode cX2_areSound 46 = .ok (.iconst 1, 1) := by decide +kernel
theorem dX2_areSound_47 : decode cX2_areSound 47 = .ok (.ireturn, 1) := by decide +kernel
theorem dX2_work_0 : decode cX2_work 0 = .ok (.aload_n 1, 1) := by decide +kernel
theorem dX2_work_1 : decode cX2_work 1 = .ok (.getfield 36, 3) := by decide +kernel
theorem dX2_work_4 : decode cX2_work 4 = .ok (.tableswitch 107 1 4 #[32, 45, 58, 81], 32) := by decide +kernel
theorem dX2_work_36 : decode cX2_work 36 = .ok (.aload_n 0, 1) := by decide +kernel
theorem dX2_work_37 : decode cX2_work 37 = .ok (.iload_n 2, 1) := by decide +kernel
theorem dX2_work_38 : decode cX2_work 38 = .ok (.aload_n 1, 1) := by decide +kernel
theorem dX2_work_39 : decode cX2_work 39 = .ok (.getfield 41, 3) := by decide +kernel
theorem dX2_work_42 : decode cX2_work 42 = .ok (.iload_n 3, 1) := by decide +kernel
theorem dX2_work_43 : decode cX2_work 43 = .ok (.invokevirtual 44, 3) := by decide +kernel
theorem dX2_work_46 : decode cX2_work 46 = .ok (.goto 76, 3) := by decide +kernel
theorem dX2_work_49 : decode cX2_work 49 = .ok (.aload_n 0, 1) := by decide +kernel
theorem dX2_work_50 : decode cX2_work 50 = .ok (.iload_n 2, 1) := by decide +kernel
theorem dX2_work_51 : decode cX2_work 51 = .ok (.aload_n 1, 1) := by decide +kernel
theorem dX2_work_52 : decode cX2_work 52 = .ok (.getfield 41, 3) := by decide +kernel
theorem dX2_work_55 : decode cX2_work 55 = .ok (.iload_n 3, 1) := by decide +kernel
theorem dX2_work_56 : decode cX2_work 56 = .ok (.invokevirtual 48, 3) := by decide +kernel
theorem dX2_work_59 : decode cX2_work 59 = .ok (.goto 63, 3) := by decide +kernel
theorem dX2_work_62 : decode cX2_work 62 = .ok (.aload_n 0, 1) := by decide +kernel
theorem dX2_work_63 : decode cX2_work 63 = .ok (.iload_n 2, 1) := by decide +kernel
theorem dX2_work_64 : decode cX2_work 64 = .ok (.iload_n 3, 1) := by decide +kernel
theorem dX2_work_65 : decode cX2_work 65 = .ok (.ifCond .ne 10, 3) := by decide +kernel
theorem dX2_work_68 : decode cX2_work 68 = .ok (.aload_n 1, 1) := by decide +kernel
theorem dX2_work_69 : decode cX2_work 69 = .ok (.getfield 41, 3) := by decide +kernel
theorem dX2_work_72 : decode cX2_work 72 = .ok (.goto 7, 3) := by decide +kernel
theorem dX2_work_75 : decode cX2_work 75 = .ok (.aload_n 1, 1) := by decide +kernel
theorem dX2_work_76 : decode cX2_work 76 = .ok (.getfield 51, 3) := by decide +kernel
theorem dX2_work_79 : decode cX2_work 79 = .ok (.invokevirtual 54, 3) := by decide +kernel
theorem dX2_work_82 : decode cX2_work 82 = .ok (.goto 40, 3) := by decide +kernel
theorem dX2_work_85 : decode cX2_work 85 = .ok (.iload_n 3, 1) := by decide +kernel
theorem dX2_work_86 : decode cX2_work 86 = .ok (.ifCond .ne 13, 3) := by decide +kernel
theorem dX2_work_89 : decode cX2_work 89 = .ok (.aload_n 0, 1) := by decide +kernel
theorem dX2_work_90 : decode cX2_work 90 = .ok (.iload_n 2, 1) := by decide +kernel
theorem dX2_work_91 : decode cX2_work 91 = .ok (.lconst 0, 1) := by decide +kernel
theorem dX2_work_92 : decode cX2_work 92 = .ok (.lconst 1, 1) := by decide +kernel
theorem dX2_work_93 : decode cX2_work 93 = .ok (.invokevirtual 58, 3) := by decide +kernel
theorem dX2_work_96 : decode cX2_work 96 = .ok (.goto 26, 3) := by decide +kernel
theorem dX2_work_99 : decode cX2_work 99 = .ok (.aload_n 0, 1) := by decide +kernel
theorem dX2_work_100 : decode cX2_work 100 = .ok (.iload_n 2, 1) := by decide +kernel
theorem dX2_work_101 : decode cX2_work 101 = .ok (.aload_n 1, 1) := by decide +kernel
theorem dX2_work_102 : decode cX2_work 102 = .ok (.getfield 41, 3) := by decide +kernel
theorem dX2_work_105 : decode cX2_work 105 = .ok (.invokevirtual 54, 3) := by decide +kernel
theorem dX2_work_108 : decode cX2_work 108 = .ok (.goto 14, 3) := by decide +kernel
theorem dX2_work_111 : decode cX2_work 111 = .ok (.aload_n 0, 1) := by decide +kernel
theorem dX2_work_112 : decode cX2_work 112 = .ok (.iload_n 2, 1) := by decide +kernel
theorem dX2_work_113 : decode cX2_work 113 = .ok (.aload_n 1, 1) := by decide +kernel
theorem dX2_work_114 : decode cX2_work 114 = .ok (.getfield 62, 3) := by decide +kernel
theorem dX2_work_117 : decode cX2_work 117 = .ok (.i2l, 1) := by decide +kernel
theorem dX2_work_118 : decode cX2_work 118 = .ok (.lconst 1, 1) := by decide +kernel
theorem dX2_work_119 : decode cX2_work 119 = .ok (.invokevirtual 58, 3) := by decide +kernel
theorem dX2_work_122 : decode cX2_work 122 = .ok (.return_, 1) := by decide +kernel
theorem dX2_multiply_0 : decode cX2_multiply 0 = .ok (.aload_n 0, 1) := by decide +kernel
theorem dX2_multiply_1 : decode cX2_multiply 1 = .ok (.getfield 15, 3) := by decide +kernel
theorem dX2_multiply_4 : decode cX2_multiply 4 = .ok (.iload_n 2, 1) := by decide +kernel
theorem dX2_multiply_5 : decode cX2_multiply 5 = .ok (.laload, 1) := by decide +kernel
theorem dX2_multiply_6 : decode cX2_multiply 6 = .ok (.iload_n 3, 1) := by decide +kernel
theorem dX2_multiply_7 : decode cX2_multiply 7 = .ok (.i2l, 1) := by decide +kernel
theorem dX2_multiply_8 : decode cX2_multiply 8 = .ok (.invokestatic 65, 3) := by decide +kernel
theorem dX2_multiply_11 : decode cX2_multiply 11 = .ok (.lstore 4, 2) := by decide +kernel
theorem dX2_multiply_13 : decode cX2_multiply 13 = .ok (.aload_n 0, 1) := by decide +kernel
theorem dX2_multiply_14 : decode cX2_multiply 14 = .ok (.iload_n 1, 1) := by decide +kernel
theorem dX2_multiply_15 : decode cX2_multiply 15 = .ok (.aload_n 0, 1) := by decide +kernel
theorem dX2_multiply_16 : decode cX2_multiply 16 = .ok (.getfield 9, 3) := by decide +kernel
theorem dX2_multiply_19 : decode cX2_multiply 19 = .ok (.iload_n 2, 1) := by decide +kernel
theorem dX2_multiply_20 : decode cX2_multiply 20 = .ok (.laload, 1) := by decide +kernel
theorem dX2_multiply_21 : decode cX2_multiply 21 = .ok (.iload_n 3, 1) := by decide +kernel
theorem dX2_multiply_22 : decode cX2_multiply 22 = .ok (.i2l, 1) := by decide +kernel
theorem dX2_multiply_23 : decode cX2_multiply 23 = .ok (.lload 4, 2) := by decide +kernel
theorem dX2_multiply_25 : decode cX2_multiply 25 = .ok (.ldiv, 1) := by decide +kernel
theorem dX2_multiply_26 : decode cX2_multiply 26 = .ok (.lmul, 1) := by decide +kernel
theorem dX2_multiply_27 : decode cX2_multiply 27 = .ok (.aload_n 0, 1) := by decide +kernel
theorem dX2_multiply_28 : decode cX2_multiply 28 = .ok (.getfield 15, 3) := by decide +kernel
theorem dX2_multiply_31 : decode cX2_multiply 31 = .ok (.iload_n 2, 1) := by decide +kernel
theorem dX2_multiply_32 : decode cX2_multiply 32 = .ok (.laload, 1) := by decide +kernel
theorem dX2_multiply_33 : decode cX2_multiply 33 = .ok (.lload 4, 2) := by decide +kernel
theorem dX2_multiply_35 : decode cX2_multiply 35 = .ok (.ldiv, 1) := by decide +kernel
theorem dX2_multiply_36 : decode cX2_multiply 36 = .ok (.invokevirtual 58, 3) := by decide +kernel
theorem dX2_multiply_39 : decode cX2_multiply 39 = .ok (.return_, 1) := by decide +kernel
theorem dX2_divide_0 : decode cX2_divide 0 = .ok (.aload_n 0, 1) := by decide +kernel
theorem dX2_divide_1 : decode cX2_divide 1 = .ok (.getfield 9, 3) := by decide +kernel
theorem dX2_divide_4 : decode cX2_divide 4 = .ok (.iload_n 2, 1) := by decide +kernel
theorem dX2_divide_5 : decode cX2_divide 5 = .ok (.laload, 1) := by decide +kernel
theorem dX2_divide_6 : decode cX2_divide 6 = .ok (.iload_n 3, 1) := by decide +kernel
theorem dX2_divide_7 : decode cX2_divide 7 = .ok (.i2l, 1) := by decide +kernel
theorem dX2_divide_8 : decode cX2_divide 8 = .ok (.invokestatic 65, 3) := by decide +kernel
theorem dX2_divide_11 : decode cX2_divide 11 = .ok (.lstore 4, 2) := by decide +kernel
theorem dX2_divide_13 : decode cX2_divide 13 = .ok (.aload_n 0, 1) := by decide +kernel
theorem dX2_divide_14 : decode cX2_divide 14 = .ok (.iload_n 1, 1) := by decide +kernel
theorem dX2_divide_15 : decode cX2_divide 15 = .ok (.aload_n 0, 1) := by decide +kernel
theorem dX2_divide_16 : decode cX2_divide 16 = .ok (.getfield 9, 3) := by decide +kernel
theorem dX2_divide_19 : decode cX2_divide 19 = .ok (.iload_n 2, 1) := by decide +kernel
theorem dX2_divide_20 : decode cX2_divide 20 = .ok (.laload, 1) := by decide +kernel
theorem dX2_divide_21 : decode cX2_divide 21 = .ok (.lload 4, 2) := by decide +kernel
theorem dX2_divide_23 : decode cX2_divide 23 = .ok (.ldiv, 1) := by decide +kernel
theorem dX2_divide_24 : decode cX2_divide 24 = .ok (.aload_n 0, 1) := by decide +kernel
theorem dX2_divide_25 : decode cX2_divide 25 = .ok (.getfield 15, 3) := by decide +kernel
theorem dX2_divide_28 : decode cX2_divide 28 = .ok (.iload_n 2, 1) := by decide +kernel
theorem dX2_divide_29 : decode cX2_divide 29 = .ok (.laload, 1) := by decide +kernel
theorem dX2_divide_30 : decode cX2_divide 30 = .ok (.iload_n 3, 1) := by decide +kernel
theorem dX2_divide_31 : decode cX2_divide 31 = .ok (.i2l, 1) := by decide +kernel
theorem dX2_divide_32 : decode cX2_divide 32 = .ok (.lload 4, 2) := by decide +kernel
theorem dX2_divide_34 : decode cX2_divide 34 = .ok (.ldiv, 1) := by decide +kernel
theorem dX2_divide_35 : decode cX2_divide 35 = .ok (.lmul, 1) := by decide +kernel
theorem dX2_divide_36 : decode cX2_divide 36 = .ok (.invokevirtual 58, 3) := by decide +kernel
theorem dX2_divide_39 : decode cX2_divide 39 = .ok (.return_, 1) := by decide +kernel
theorem dX2_pass_0 : decode cX2_pass 0 = .ok (.aload_n 0, 1) := by decide +kernel
theorem dX2_pass_1 : decode cX2_pass 1 = .ok (.iload_n 1, 1) := by decide +kernel
theorem dX2_pass_2 : decode cX2_pass 2 = .ok (.aload_n 0, 1) := by decide +kernel
theorem dX2_pass_3 : decode cX2_pass 3 = .ok (.getfield 9, 3) := by decide +kernel
theorem dX2_pass_6 : decode cX2_pass 6 = .ok (.iload_n 2, 1) := by decide +kernel
theorem dX2_pass_7 : decode cX2_pass 7 = .ok (.laload, 1) := by decide +kernel
theorem dX2_pass_8 : decode cX2_pass 8 = .ok (.aload_n 0, 1) := by decide +kernel
theorem dX2_pass_9 : decode cX2_pass 9 = .ok (.getfield 15, 3) := by decide +kernel
theorem dX2_pass_12 : decode cX2_pass 12 = .ok (.iload_n 2, 1) := by decide +kernel
theorem dX2_pass_13 : decode cX2_pass 13 = .ok (.laload, 1) := by decide +kernel
theorem dX2_pass_14 : decode cX2_pass 14 = .ok (.invokevirtual 58, 3) := by decide +kernel
theorem dX2_pass_17 : decode cX2_pass 17 = .ok (.return_, 1) := by decide +kernel
theorem dX2_keep_0 : decode cX2_keep 0 = .ok (.lload_n 2, 1) := by decide +kernel
theorem dX2_keep_1 : decode cX2_keep 1 = .ok (.ldc2_w 69, 3) := by decide +kernel
theorem dX2_keep_4 : decode cX2_keep 4 = .ok (.lcmp, 1) := by decide +kernel
theorem dX2_keep_5 : decode cX2_keep 5 = .ok (.ifCond .gt 12, 3) := by decide +kernel
theorem dX2_keep_8 : decode cX2_keep 8 = .ok (.lload 4, 2) := by decide +kernel
theorem dX2_keep_10 : decode cX2_keep 10 = .ok (.ldc2_w 69, 3) := by decide +kernel
theorem dX2_keep_13 : decode cX2_keep 13 = .ok (.lcmp, 1) := by decide +kernel
theorem dX2_keep_14 : decode cX2_keep 14 = .ok (.ifCond .le 7, 3) := by decide +kernel
theorem dX2_keep_17 : decode cX2_keep 17 = .ok (.iconst 1, 1) := by decide +kernel
theorem dX2_keep_18 : decode cX2_keep 18 = .ok (.goto 4, 3) := by decide +kernel
theorem dX2_keep_21 : decode cX2_keep 21 = .ok (.iconst 0, 1) := by decide +kernel
theorem dX2_keep_22 : decode cX2_keep 22 = .ok (.istore 6, 2) := by decide +kernel
theorem dX2_keep_24 : decode cX2_keep 24 = .ok (.aload_n 0, 1) := by decide +kernel
theorem dX2_keep_25 : decode cX2_keep 25 = .ok (.getfield 9, 3) := by decide +kernel
theorem dX2_keep_28 : decode cX2_keep 28 = .ok (.iload_n 1, 1) := by decide +kernel
theorem dX2_keep_29 : decode cX2_keep 29 = .ok (.iload 6, 2) := by decide +kernel
theorem dX2_keep_31 : decode cX2_keep 31 = .ok (.ifCond .eq 7, 3) := by decide +kernel
theorem dX2_keep_34 : decode cX2_keep 34 = .ok (.lconst 0, 1) := by decide +kernel
theorem dX2_keep_35 : decode cX2_keep 35 = .ok (.goto 4, 3) := by decide +kernel
theorem dX2_keep_38 : decode cX2_keep 38 = .ok (.lload_n 2, 1) := by decide +kernel
theorem dX2_keep_39 : decode cX2_keep 39 = .ok (.lastore, 1) := by decide +kernel
theorem dX2_keep_40 : decode cX2_keep 40 = .ok (.aload_n 0, 1) := by decide +kernel
theorem dX2_keep_41 : decode cX2_keep 41 = .ok (.getfield 15, 3) := by decide +kernel
theorem dX2_keep_44 : decode cX2_keep 44 = .ok (.iload_n 1, 1) := by decide +kernel
theorem dX2_keep_45 : decode cX2_keep 45 = .ok (.iload 6, 2) := by decide +kernel
theorem dX2_keep_47 : decode cX2_keep 47 = .ok (.ifCond .eq 7, 3) := by decide +kernel
theorem dX2_keep_50 : decode cX2_keep 50 = .ok (.lconst 0, 1) := by decide +kernel
theorem dX2_keep_51 : decode cX2_keep 51 = .ok (.goto 5, 3) := by decide +kernel
theorem dX2_keep_54 : decode cX2_keep 54 = .ok (.lload 4, 2) := by decide +kernel
theorem dX2_keep_56 : decode cX2_keep 56 = .ok (.lastore, 1) := by decide +kernel
theorem dX2_keep_57 : decode cX2_keep 57 = .ok (.return_, 1) := by decide +kernel
theorem dX2_isBeyond_0 : decode cX2_isBeyond 0 = .ok (.aload_n 0, 1) := by decide +kernel
theorem dX2_isBeyond_1 : decode cX2_isBeyond 1 = .ok (.getfield 15, 3) := by decide +kernel
theorem dX2_isBeyond_4 : decode cX2_isBeyond 4 = .ok (.iload_n 1, 1) := by decide +kernel
theorem dX2_isBeyond_5 : decode cX2_isBeyond 5 = .ok (.laload, 1) := by decide +kernel
theorem dX2_isBeyond_6 : decode cX2_isBeyond 6 = .ok (.lconst 0, 1) := by decide +kernel
theorem dX2_isBeyond_7 : decode cX2_isBeyond 7 = .ok (.lcmp, 1) := by decide +kernel
theorem dX2_isBeyond_8 : decode cX2_isBeyond 8 = .ok (.ifCond .ne 7, 3) := by decide +kernel
theorem dX2_isBeyond_11 : decode cX2_isBeyond 11 = .ok (.iconst 1, 1) := by decide +kernel
theorem dX2_isBeyond_12 : decode cX2_isBeyond 12 = .ok (.goto 4, 3) := by decide +kernel
theorem dX2_isBeyond_15 : decode cX2_isBeyond 15 = .ok (.iconst 0, 1) := by decide +kernel
theorem dX2_isBeyond_16 : decode cX2_isBeyond 16 = .ok (.ireturn, 1) := by decide +kernel
theorem dX2_isWell_0 : decode cX2_isWell 0 = .ok (.aload_n 0, 1) := by decide +kernel
theorem dX2_isWell_1 : decode cX2_isWell 1 = .ok (.iload_n 2, 1) := by decide +kernel
theorem dX2_isWell_2 : decode cX2_isWell 2 = .ok (.invokevirtual 71, 3) := by decide +kernel
theorem dX2_isWell_5 : decode cX2_isWell 5 = .ok (.ifCond .eq 5, 3) := by decide +kernel
theorem dX2_isWell_8 : decode cX2_isWell 8 = .ok (.iconst 0, 1) := by decide +kernel
theorem dX2_isWell_9 : decode cX2_isWell 9 = .ok (.ireturn, 1) := by decide +kernel
theorem dX2_isWell_10 : decode cX2_isWell 10 = .ok (.aload_n 0, 1) := by decide +kernel
theorem dX2_isWell_11 : decode cX2_isWell 11 = .ok (.getfield 9, 3) := by decide +kernel
theorem dX2_isWell_14 : decode cX2_isWell 14 = .ok (.iload_n 2, 1) := by decide +kernel
theorem dX2_isWell_15 : decode cX2_isWell 15 = .ok (.laload, 1) := by decide +kernel
theorem dX2_isWell_16 : decode cX2_isWell 16 = .ok (.lconst 0, 1) := by decide +kernel
theorem dX2_isWell_17 : decode cX2_isWell 17 = .ok (.lcmp, 1) := by decide +kernel
theorem dX2_isWell_18 : decode cX2_isWell 18 = .ok (.ifCond .eq 47, 3) := by decide +kernel
theorem dX2_isWell_21 : decode cX2_isWell 21 = .ok (.aload_n 0, 1) := by decide +kernel
theorem dX2_isWell_22 : decode cX2_isWell 22 = .ok (.getfield 9, 3) := by decide +kernel
theorem dX2_isWell_25 : decode cX2_isWell 25 = .ok (.iload_n 2, 1) := by decide +kernel
theorem dX2_isWell_26 : decode cX2_isWell 26 = .ok (.laload, 1) := by decide +kernel
theorem dX2_isWell_27 : decode cX2_isWell 27 = .ok (.aload_n 1, 1) := by decide +kernel
theorem dX2_isWell_28 : decode cX2_isWell 28 = .ok (.getfield 75, 3) := by decide +kernel
theorem dX2_isWell_31 : decode cX2_isWell 31 = .ok (.i2l, 1) := by decide +kernel
theorem dX2_isWell_32 : decode cX2_isWell 32 = .ok (.aload_n 0, 1) := by decide +kernel
theorem dX2_isWell_33 : decode cX2_isWell 33 = .ok (.getfield 15, 3) := by decide +kernel
theorem dX2_isWell_36 : decode cX2_isWell 36 = .ok (.iload_n 2, 1) := by decide +kernel
theorem dX2_isWell_37 : decode cX2_isWell 37 = .ok (.laload, 1) := by decide +kernel
theorem dX2_isWell_38 : decode cX2_isWell 38 = .ok (.lmul, 1) := by decide +kernel
theorem dX2_isWell_39 : decode cX2_isWell 39 = .ok (.lcmp, 1) := by decide +kernel
theorem dX2_isWell_40 : decode cX2_isWell 40 = .ok (.ifCond .lt 29, 3) := by decide +kernel
theorem dX2_isWell_43 : decode cX2_isWell 43 = .ok (.aload_n 0, 1) := by decide +kernel
theorem dX2_isWell_44 : decode cX2_isWell 44 = .ok (.getfield 9, 3) := by decide +kernel
theorem dX2_isWell_47 : decode cX2_isWell 47 = .ok (.iload_n 2, 1) := by decide +kernel
theorem dX2_isWell_48 : decode cX2_isWell 48 = .ok (.laload, 1) := by decide +kernel
theorem dX2_isWell_49 : decode cX2_isWell 49 = .ok (.aload_n 1, 1) := by decide +kernel
theorem dX2_isWell_50 : decode cX2_isWell 50 = .ok (.getfield 78, 3) := by decide +kernel
theorem dX2_isWell_53 : decode cX2_isWell 53 = .ok (.i2l, 1) := by decide +kernel
theorem dX2_isWell_54 : decode cX2_isWell 54 = .ok (.aload_n 0, 1) := by decide +kernel
theorem dX2_isWell_55 : decode cX2_isWell 55 = .ok (.getfield 15, 3) := by decide +kernel
theorem dX2_isWell_58 : decode cX2_isWell 58 = .ok (.iload_n 2, 1) := by decide +kernel
theorem dX2_isWell_59 : decode cX2_isWell 59 = .ok (.laload, 1) := by decide +kernel
theorem dX2_isWell_60 : decode cX2_isWell 60 = .ok (.lmul, 1) := by decide +kernel
theorem dX2_isWell_61 : decode cX2_isWell 61 = .ok (.lcmp, 1) := by decide +kernel
theorem dX2_isWell_62 : decode cX2_isWell 62 = .ok (.ifCond .gt 7, 3) := by decide +kernel
theorem dX2_isWell_65 : decode cX2_isWell 65 = .ok (.iconst 1, 1) := by decide +kernel
theorem dX2_isWell_66 : decode cX2_isWell 66 = .ok (.goto 4, 3) := by decide +kernel
theorem dX2_isWell_69 : decode cX2_isWell 69 = .ok (.iconst 0, 1) := by decide +kernel
theorem dX2_isWell_70 : decode cX2_isWell 70 = .ok (.ireturn, 1) := by decide +kernel
theorem dX2_cut_0 : decode cX2_cut 0 = .ok (.aload_n 0, 1) := by decide +kernel
theorem dX2_cut_1 : decode cX2_cut 1 = .ok (.getfield 15, 3) := by decide +kernel
theorem dX2_cut_4 : decode cX2_cut 4 = .ok (.iload_n 1, 1) := by decide +kernel
theorem dX2_cut_5 : decode cX2_cut 5 = .ok (.laload, 1) := by decide +kernel
theorem dX2_cut_6 : decode cX2_cut 6 = .ok (.lconst 0, 1) := by decide +kernel
theorem dX2_cut_7 : decode cX2_cut 7 = .ok (.lcmp, 1) := by decide +kernel
theorem dX2_cut_8 : decode cX2_cut 8 = .ok (.ifCond .ne 7, 3) := by decide +kernel
theorem dX2_cut_11 : decode cX2_cut 11 = .ok (.lconst 0, 1) := by decide +kernel
theorem dX2_cut_12 : decode cX2_cut 12 = .ok (.goto 16, 3) := by decide +kernel
theorem dX2_cut_15 : decode cX2_cut 15 = .ok (.aload_n 0, 1) := by decide +kernel
theorem dX2_cut_16 : decode cX2_cut 16 = .ok (.getfield 9, 3) := by decide +kernel
theorem dX2_cut_19 : decode cX2_cut 19 = .ok (.iload_n 1, 1) := by decide +kernel
theorem dX2_cut_20 : decode cX2_cut 20 = .ok (.laload, 1) := by decide +kernel
theorem dX2_cut_21 : decode cX2_cut 21 = .ok (.aload_n 0, 1) := by decide +kernel
theorem dX2_cut_22 : decode cX2_cut 22 = .ok (.getfield 15, 3) := by decide +kernel
theorem dX2_cut_25 : decode cX2_cut 25 = .ok (.iload_n 1, 1) := by decide +kernel
theorem dX2_cut_26 : decode cX2_cut 26 = .ok (.laload, 1) := by decide +kernel
theorem dX2_cut_27 : decode cX2_cut 27 = .ok (.ldiv, 1) := by decide +kernel
theorem dX2_cut_28 : decode cX2_cut 28 = .ok (.lreturn, 1) := by decide +kernel
theorem dX2_isMultiple_0 : decode cX2_isMultiple 0 = .ok (.aload_n 0, 1) := by decide +kernel
theorem dX2_isMultiple_1 : decode cX2_isMultiple 1 = .ok (.iload_n 1, 1) := by decide +kernel
theorem dX2_isMultiple_2 : decode cX2_isMultiple 2 = .ok (.invokevirtual 71, 3) := by decide +kernel
theorem dX2_isMultiple_5 : decode cX2_isMultiple 5 = .ok (.ifCond .ne 11, 3) := by decide +kernel
theorem dX2_isMultiple_8 : decode cX2_isMultiple 8 = .ok (.aload_n 0, 1) := by decide +kernel
theorem dX2_isMultiple_9 : decode cX2_isMultiple 9 = .ok (.iload_n 2, 1) := by decide +kernel
theorem dX2_isMultiple_10 : decode cX2_isMultiple 10 = .ok (.invokevirtual 71, 3) := by decide +kernel
theorem dX2_isMultiple_13 : decode cX2_isMultiple 13 = .ok (.ifCond .eq 5, 3) := by decide +kernel
theorem dX2_isMultiple_16 : decode cX2_isMultiple 16 = .ok (.iconst 0, 1) := by decide +kernel
theorem dX2_isMultiple_17 : decode cX2_isMultiple 17 = .ok (.ireturn, 1) := by decide +kernel
theorem dX2_isMultiple_18 : decode cX2_isMultiple 18 = .ok (.aload_n 0, 1) := by decide +kernel
theorem dX2_isMultiple_19 : decode cX2_isMultiple 19 = .ok (.getfield 15, 3) := by decide +kernel
theorem dX2_isMultiple_22 : decode cX2_isMultiple 22 = .ok (.iload_n 2, 1) := by decide +kernel
theorem dX2_isMultiple_23 : decode cX2_isMultiple 23 = .ok (.laload, 1) := by decide +kernel
theorem dX2_isMultiple_24 : decode cX2_isMultiple 24 = .ok (.iload_n 3, 1) := by decide +kernel
theorem dX2_isMultiple_25 : decode cX2_isMultiple 25 = .ok (.i2l, 1) := by decide +kernel
theorem dX2_isMultiple_26 : decode cX2_isMultiple 26 = .ok (.invokestatic 65, 3) := by decide +kernel
theorem dX2_isMultiple_29 : decode cX2_isMultiple 29 = .ok (.lstore 4, 2) := by decide +kernel
theorem dX2_isMultiple_31 : decode cX2_isMultiple 31 = .ok (.aload_n 0, 1) := by decide +kernel
theorem dX2_isMultiple_32 : decode cX2_isMultiple 32 = .ok (.getfield 9, 3) := by decide +kernel
theorem dX2_isMultiple_35 : decode cX2_isMultiple 35 = .ok (.iload_n 1, 1) := by decide +kernel
theorem dX2_isMultiple_36 : decode cX2_isMultiple 36 = .ok (.laload, 1) := by decide +kernel
theorem dX2_isMultiple_37 : decode cX2_isMultiple 37 = .ok (.aload_n 0, 1) := by decide +kernel
theorem dX2_isMultiple_38 : decode cX2_isMultiple 38 = .ok (.getfield 9, 3) := by decide +kernel
theorem dX2_isMultiple_41 : decode cX2_isMultiple 41 = .ok (.iload_n 2, 1) := by decide +kernel
theorem dX2_isMultiple_42 : decode cX2_isMultiple 42 = .ok (.laload, 1) := by decide +kernel
theorem dX2_isMultiple_43 : decode cX2_isMultiple 43 = .ok (.iload_n 3, 1) := by decide +kernel
theorem dX2_isMultiple_44 : decode cX2_isMultiple 44 = .ok (.i2l, 1) := by decide +kernel
theorem dX2_isMultiple_45 : decode cX2_isMultiple 45 = .ok (.lload 4, 2) := by decide +kernel
theorem dX2_isMultiple_47 : decode cX2_isMultiple 47 = .ok (.ldiv, 1) := by decide +kernel
theorem dX2_isMultiple_48 : decode cX2_isMultiple 48 = .ok (.lmul, 1) := by decide +kernel
theorem dX2_isMultiple_49 : decode cX2_isMultiple 49 = .ok (.lcmp, 1) := by decide +kernel
theorem dX2_isMultiple_50 : decode cX2_isMultiple 50 = .ok (.ifCond .ne 26, 3) := by decide +kernel
theorem dX2_isMultiple_53 : decode cX2_isMultiple 53 = .ok (.aload_n 0, 1) := by decide +kernel
theorem dX2_isMultiple_54 : decode cX2_isMultiple 54 = .ok (.getfield 15, 3) := by decide +kernel
theorem dX2_isMultiple_57 : decode cX2_isMultiple 57 = .ok (.iload_n 1, 1) := by decide +kernel
theorem dX2_isMultiple_58 : decode cX2_isMultiple 58 = .ok (.laload, 1) := by decide +kernel
theorem dX2_isMultiple_59 : decode cX2_isMultiple 59 = .ok (.aload_n 0, 1) := by decide +kernel
theorem dX2_isMultiple_60 : decode cX2_isMultiple 60 = .ok (.getfield 15, 3) := by decide +kernel
theorem dX2_isMultiple_63 : decode cX2_isMultiple 63 = .ok (.iload_n 2, 1) := by decide +kernel
theorem dX2_isMultiple_64 : decode cX2_isMultiple 64 = .ok (.laload, 1) := by decide +kernel
theorem dX2_isMultiple_65 : decode cX2_isMultiple 65 = .ok (.lload 4, 2) := by decide +kernel
theorem dX2_isMultiple_67 : decode cX2_isMultiple 67 = .ok (.ldiv, 1) := by decide +kernel
theorem dX2_isMultiple_68 : decode cX2_isMultiple 68 = .ok (.lcmp, 1) := by decide +kernel
theorem dX2_isMultiple_69 : decode cX2_isMultiple 69 = .ok (.ifCond .ne 7, 3) := by decide +kernel
theorem dX2_isMultiple_72 : decode cX2_isMultiple 72 = .ok (.iconst 1, 1) := by decide +kernel
theorem dX2_isMultiple_73 : decode cX2_isMultiple 73 = .ok (.goto 4, 3) := by decide +kernel
theorem dX2_isMultiple_76 : decode cX2_isMultiple 76 = .ok (.iconst 0, 1) := by decide +kernel
theorem dX2_isMultiple_77 : decode cX2_isMultiple 77 = .ok (.ireturn, 1) := by decide +kernel
theorem dX2_sharedBy_0 : decode cX2_sharedBy 0 = .ok (.lload_n 0, 1) := by decide +kernel
theorem dX2_sharedBy_1 : decode cX2_sharedBy 1 = .ok (.lstore 4, 2) := by decide +kernel
theorem dX2_sharedBy_3 : decode cX2_sharedBy 3 = .ok (.lload_n 2, 1) := by decide +kernel
theorem dX2_sharedBy_4 : decode cX2_sharedBy 4 = .ok (.lstore 6, 2) := by decide +kernel
theorem dX2_sharedBy_6 : decode cX2_sharedBy 6 = .ok (.iconst 0, 1) := by decide +kernel
theorem dX2_sharedBy_7 : decode cX2_sharedBy 7 = .ok (.istore 8, 2) := by decide +kernel
theorem dX2_sharedBy_9 : decode cX2_sharedBy 9 = .ok (.iload 8, 2) := by decide +kernel
theorem dX2_sharedBy_11 : decode cX2_sharedBy 11 = .ok (.bipush 100, 2) := by decide +kernel
theorem dX2_sharedBy_13 : decode cX2_sharedBy 13 = .ok (.if_icmp .ge 31, 3) := by decide +kernel
theorem dX2_sharedBy_16 : decode cX2_sharedBy 16 = .ok (.lload 6, 2) := by decide +kernel
theorem dX2_sharedBy_18 : decode cX2_sharedBy 18 = .ok (.lconst 0, 1) := by decide +kernel
theorem dX2_sharedBy_19 : decode cX2_sharedBy 19 = .ok (.lcmp, 1) := by decide +kernel
theorem dX2_sharedBy_20 : decode cX2_sharedBy 20 = .ok (.ifCond .eq 24, 3) := by decide +kernel
theorem dX2_sharedBy_23 : decode cX2_sharedBy 23 = .ok (.lload 4, 2) := by decide +kernel
theorem dX2_sharedBy_25 : decode cX2_sharedBy 25 = .ok (.lload 6, 2) := by decide +kernel
theorem dX2_sharedBy_27 : decode cX2_sharedBy 27 = .ok (.lrem, 1) := by decide +kernel
theorem dX2_sharedBy_28 : decode cX2_sharedBy 28 = .ok (.lstore 9, 2) := by decide +kernel
theorem dX2_sharedBy_30 : decode cX2_sharedBy 30 = .ok (.lload 6, 2) := by decide +kernel
theorem dX2_sharedBy_32 : decode cX2_sharedBy 32 = .ok (.lstore 4, 2) := by decide +kernel
theorem dX2_sharedBy_34 : decode cX2_sharedBy 34 = .ok (.lload 9, 2) := by decide +kernel
theorem dX2_sharedBy_36 : decode cX2_sharedBy 36 = .ok (.lstore 6, 2) := by decide +kernel
theorem dX2_sharedBy_38 : decode cX2_sharedBy 38 = .ok (.iinc 8 1, 3) := by decide +kernel
theorem dX2_sharedBy_41 : decode cX2_sharedBy 41 = .ok (.goto (-32), 3) := by decide +kernel
theorem dX2_sharedBy_44 : decode cX2_sharedBy 44 = .ok (.lload 4, 2) := by decide +kernel
theorem dX2_sharedBy_46 : decode cX2_sharedBy 46 = .ok (.lconst 0, 1) := by decide +kernel
theorem dX2_sharedBy_47 : decode cX2_sharedBy 47 = .ok (.lcmp, 1) := by decide +kernel
theorem dX2_sharedBy_48 : decode cX2_sharedBy 48 = .ok (.ifCond .le 8, 3) := by decide +kernel
theorem dX2_sharedBy_51 : decode cX2_sharedBy 51 = .ok (.lload 4, 2) := by decide +kernel
theorem dX2_sharedBy_53 : decode cX2_sharedBy 53 = .ok (.goto 4, 3) := by decide +kernel
theorem dX2_sharedBy_56 : decode cX2_sharedBy 56 = .ok (.lconst 1, 1) := by decide +kernel
theorem dX2_sharedBy_57 : decode cX2_sharedBy 57 = .ok (.lreturn, 1) := by decide +kernel
theorem dX3_init_0 : decode cX3_init 0 = .ok (.aload_n 0, 1) := by decide +kernel
theorem dX3_init_1 : decode cX3_init 1 = .ok (.invokespecial 3, 3) := by decide +kernel
theorem dX3_init_4 : decode cX3_init 4 = .ok (.aload_n 0, 1) := by decide +kernel
theorem dX3_init_5 : decode cX3_init 5 = .ok (.bipush 16, 2) := by decide +kernel
theorem dX3_init_7 : decode cX3_init 7 = .ok (.newarray .int, 2) := by decide +kernel
theorem dX3_init_9 : decode cX3_init 9 = .ok (.putfield 9, 3) := by decide +kernel
theorem dX3_init_12 : decode cX3_init 12 = .ok (.aload_n 0, 1) := by decide +kernel
theorem dX3_init_13 : decode cX3_init 13 = .ok (.new 15, 3) := by decide +kernel
theorem dX3_init_16 : decode cX3_init 16 = .ok (.dup, 1) := by decide +kernel
theorem dX3_init_17 : decode cX3_init 17 = .ok (.invokespecial 17, 3) := by decide +kernel
theorem dX3_init_20 : decode cX3_init 20 = .ok (.putfield 18, 3) := by decide +kernel
theorem dX3_init_23 : decode cX3_init 23 = .ok (.aload_n 0, 1) := by decide +kernel
theorem dX3_init_24 : decode cX3_init 24 = .ok (.bipush 16, 2) := by decide +kernel
theorem dX3_init_26 : decode cX3_init 26 = .ok (.newarray .int, 2) := by decide +kernel
theorem dX3_init_28 : decode cX3_init 28 = .ok (.putfield 22, 3) := by decide +kernel
theorem dX3_init_31 : decode cX3_init 31 = .ok (.aload_n 0, 1) := by decide +kernel
theorem dX3_init_32 : decode cX3_init 32 = .ok (.bipush 12, 2) := by decide +kernel
theorem dX3_init_34 : decode cX3_init 34 = .ok (.newarray .int, 2) := by decide +kernel
theorem dX3_init_36 : decode cX3_init 36 = .ok (.putfield 25, 3) := by decide +kernel
theorem dX3_init_39 : decode cX3_init 39 = .ok (.aload_n 0, 1) := by decide +kernel
theorem dX3_init_40 : decode cX3_init 40 = .ok (.bipush 17, 2) := by decide +kernel
theorem dX3_init_42 : decode cX3_init 42 = .ok (.newarray .int, 2) := by decide +kernel
theorem dX3_init_44 : decode cX3_init 44 = .ok (.putfield 28, 3) := by decide +kernel
theorem dX3_init_47 : decode cX3_init 47 = .ok (.aload_n 0, 1) := by decide +kernel
theorem dX3_init_48 : decode cX3_init 48 = .ok (.bipush 17, 2) := by decide +kernel
theorem dX3_init_50 : decode cX3_init 50 = .ok (.newarray .int, 2) := by decide +kernel
theorem dX3_init_52 : decode cX3_init 52 = .ok (.putfield 31, 3) := by decide +kernel
theorem dX3_init_55 : decode cX3_init 55 = .ok (.aload_n 0, 1) := by decide +kernel
theorem dX3_init_56 : decode cX3_init 56 = .ok (.bipush 17, 2) := by decide +kernel
theorem dX3_init_58 : decode cX3_init 58 = .ok (.newarray .int, 2) := by decide +kernel
theorem dX3_init_60 : decode cX3_init 60 = .ok (.putfield 34, 3) := by decide +kernel
theorem dX3_init_63 : decode cX3_init 63 = .ok (.aload_n 0, 1) := by decide +kernel
theorem dX3_init_64 : decode cX3_init 64 = .ok (.bipush 17, 2) := by decide +kernel
theorem dX3_init_66 : decode cX3_init 66 = .ok (.newarray .int, 2) := by decide +kernel
theorem dX3_init_68 : decode cX3_init 68 = .ok (.putfield 37, 3) := by decide +kernel
theorem dX3_init_71 : decode cX3_init 71 = .ok (.aload_n 0, 1) := by decide +kernel
theorem dX3_init_72 : decode cX3_init 72 = .ok (.bipush 17, 2) := by decide +kernel
theorem dX3_init_74 : decode cX3_init 74 = .ok (.newarray .long, 2) := by decide +kernel
theorem dX3_init_76 : decode cX3_init 76 = .ok (.putfield 40, 3) := by decide +kernel
theorem dX3_init_79 : decode cX3_init 79 = .ok (.return_, 1) := by decide +kernel
theorem dX3_findBest_0 : decode cX3_findBest 0 = .ok (.aload_n 0, 1) := by decide +kernel
theorem dX3_findBest_1 : decode cX3_findBest 1 = .ok (.aload_n 1, 1) := by decide +kernel
theorem dX3_findBest_2 : decode cX3_findBest 2 = .ok (.aload_n 2, 1) := by decide +kernel
theorem dX3_findBest_3 : decode cX3_findBest 3 = .ok (.iload_n 3, 1) := by decide +kernel
theorem dX3_findBest_4 : decode cX3_findBest 4 = .ok (.invokevirtual 44, 3) := by decide +kernel
theorem dX3_findBest_7 : decode cX3_findBest 7 = .ok (.aload_n 0, 1) := by decide +kernel
theorem dX3_findBest_8 : decode cX3_findBest 8 = .ok (.iconst 1, 1) := by decide +kernel
theorem dX3_findBest_9 : decode cX3_findBest 9 = .ok (.putfield 48, 3) := by decide +kernel
theorem dX3_findBest_12 : decode cX3_findBest 12 = .ok (.aload_n 0, 1) := by decide +kernel
theorem dX3_findBest_13 : decode cX3_findBest 13 = .ok (.iconst 0, 1) := by decide +kernel
theorem dX3_findBest_14 : decode cX3_findBest 14 = .ok (.putfield 52, 3) := by decide +kernel
theorem dX3_findBest_17 : decode cX3_findBest 17 = .ok (.aload_n 0, 1) := by decide +kernel
theorem dX3_findBest_18 : decode cX3_findBest 18 = .ok (.ldc 55, 2) := by decide +kernel
theorem dX3_findBest_20 : decode cX3_findBest 20 = .ok (.putfield 56, 3) := by decide +kernel
theorem dX3_findBest_23 : decode cX3_findBest 23 = .ok (.aload_n 0, 1) := by decide +kernel
theorem dX3_findBest_24 : decode cX3_findBest 24 = .ok (.aload_n 1, 1) := by decide +kernel
theorem dX3_findBest_25 : decode cX3_findBest 25 = .ok (.aload_n 2, 1) := by decide +kernel
theorem dX3_findBest_26 : decode cX3_findBest 26 = .ok (.iconst 0, 1) := by decide +kernel
theorem dX3_findBest_27 : decode cX3_findBest 27 = .ok (.invokevirtual 60, 3) := by decide +kernel
theorem dX3_findBest_30 : decode cX3_findBest 30 = .ok (.aload_n 0, 1) := by decide +kernel
theorem dX3_findBest_31 : decode cX3_findBest 31 = .ok (.getfield 52, 3) := by decide +kernel
theorem dX3_findBest_34 : decode cX3_findBest 34 = .ok (.ireturn, 1) := by decide +kernel
theorem dX3_findHopeless_0 : decode cX3_findHopeless 0 = .ok (.aload_n 0, 1) := by decide +kernel
theorem dX3_findHopeless_1 : decode cX3_findHopeless 1 = .ok (.aload_n 1, 1) := by decide +kernel
theorem dX3_findHopeless_2 : decode cX3_findHopeless 2 = .ok (.aload_n 2, 1) := by decide +kernel
theorem dX3_findHopeless_3 : decode cX3_findHopeless 3 = .ok (.iload_n 3, 1) := by decide +kernel
theorem dX3_findHopeless_4 : decode cX3_findHopeless 4 = .ok (.invokevirtual 44, 3) := by decide +kernel
theorem dX3_findHopeless_7 : decode cX3_findHopeless 7 = .ok (.aload_n 0, 1) := by decide +kernel
theorem dX3_findHopeless_8 : decode cX3_findHopeless 8 = .ok (.iconst 0, 1) := by decide +kernel
theorem dX3_findHopeless_9 : decode cX3_findHopeless 9 = .ok (.putfield 48, 3) := by decide +kernel
theorem dX3_findHopeless_12 : decode cX3_findHopeless 12 = .ok (.aload_n 0, 1) := by decide +kernel
theorem dX3_findHopeless_13 : decode cX3_findHopeless 13 = .ok (.aload_n 1, 1) := by decide +kernel
theorem dX3_findHopeless_14 : decode cX3_findHopeless 14 = .ok (.aload_n 2, 1) := by decide +kernel
theorem dX3_findHopeless_15 : decode cX3_findHopeless 15 = .ok (.iconst 0, 1) := by decide +kernel
theorem dX3_findHopeless_16 : decode cX3_findHopeless 16 = .ok (.invokevirtual 60, 3) := by decide +kernel
theorem dX3_findHopeless_19 : decode cX3_findHopeless 19 = .ok (.aload_n 0, 1) := by decide +kernel
theorem dX3_findHopeless_20 : decode cX3_findHopeless 20 = .ok (.getfield 63, 3) := by decide +kernel
theorem dX3_findHopeless_23 : decode cX3_findHopeless 23 = .ok (.ireturn, 1) := by decide +kernel
theorem dX3_begin_0 : decode cX3_begin 0 = .ok (.aload_n 0, 1) := by decide +kernel
theorem dX3_begin_1 : decode cX3_begin 1 = .ok (.aload_n 1, 1) := by decide +kernel
theorem dX3_begin_2 : decode cX3_begin 2 = .ok (.invokevirtual 66, 3) := by decide +kernel
theorem dX3_begin_5 : decode cX3_begin 5 = .ok (.putfield 72, 3) := by decide +kernel
theorem dX3_begin_8 : decode cX3_begin 8 = .ok (.aload_n 0, 1) := by decide +kernel
theorem dX3_begin_9 : decode cX3_begin 9 = .ok (.iconst 0, 1) := by decide +kernel
theorem dX3_begin_10 : decode cX3_begin 10 = .ok (.putfield 63, 3) := by decide +kernel
theorem dX3_begin_13 : decode cX3_begin 13 = .ok (.iconst 0, 1) := by decide +kernel
theorem dX3_begin_14 : decode cX3_begin 14 = .ok (.istore 4, 2) := by decide +kernel
theorem dX3_begin_16 : decode cX3_begin 16 = .ok (.iconst 0, 1) := by decide +kernel
theorem dX3_begin_17 : decode cX3_begin 17 = .ok (.istore 5, 2) := by decide +kernel
theorem dX3_begin_19 : decode cX3_begin 19 = .ok (.iload 5, 2) := by decide +kernel
theorem dX3_begin_21 : decode cX3_begin 21 = .ok (.aload_n 1, 1) := by decide +kernel
theorem dX3_begin_22 : decode cX3_begin 22 = .ok (.getfield 75, 3) := by decide +kernel
theorem dX3_begin_25 : decode cX3_begin 25 = .ok (.if_icmp .ge 89, 3) := by decide +kernel
theorem dX3_begin_28 : decode cX3_begin 28 = .ok (.aload_n 0, 1) := by decide +kernel
theorem dX3_begin_29 : decode cX3_begin 29 = .ok (.getfield 28, 3) := by decide +kernel
theorem dX3_begin_32 : decode cX3_begin 32 = .ok (.iload 5, 2) := by decide +kernel
theorem dX3_begin_34 : decode cX3_begin 34 = .ok (.iload 4, 2) := by decide +kernel
theorem dX3_begin_36 : decode cX3_begin 36 = .ok (.iastore, 1) := by decide +kernel
theorem dX3_begin_37 : decode cX3_begin 37 = .ok (.iconst 0, 1) := by decide +kernel
theorem dX3_begin_38 : decode cX3_begin 38 = .ok (.istore 6, 2) := by decide +kernel
theorem dX3_begin_40 : decode cX3_begin 40 = .ok (.iload 6, 2) := by decide +kernel
theorem dX3_begin_42 : decode cX3_begin 42 = .ok (.aload_n 2, 1) := by decide +kernel
theorem dX3_begin_43 : decode cX3_begin 43 = .ok (.getfield 78, 3) := by decide +kernel
theorem dX3_begin_46 : decode cX3_begin 46 = .ok (.if_icmp .ge 62, 3) := by decide +kernel
theorem dX3_begin_49 : decode cX3_begin 49 = .ok (.aload_n 2, 1) := by decide +kernel
theorem dX3_begin_50 : decode cX3_begin 50 = .ok (.getfield 81, 3) := by decide +kernel
theorem dX3_begin_53 : decode cX3_begin 53 = .ok (.iload 6, 2) := by decide +kernel
theorem dX3_begin_55 : decode cX3_begin 55 = .ok (.aaload, 1) := by decide +kernel
theorem dX3_begin_56 : decode cX3_begin 56 = .ok (.astore 7, 2) := by decide +kernel
theorem dX3_begin_58 : decode cX3_begin 58 = .ok (.aload 7, 2) := by decide +kernel
theorem dX3_begin_60 : decode cX3_begin 60 = .ok (.getfield 85, 3) := by decide +kernel
theorem dX3_begin_63 : decode cX3_begin 63 = .ok (.iload_n 3, 1) := by decide +kernel
theorem dX3_begin_64 : decode cX3_begin 64 = .ok (.if_icmp .ne 38, 3) := by decide +kernel
theorem dX3_begin_67 : decode cX3_begin 67 = .ok (.aload 7, 2) := by decide +kernel
theorem dX3_begin_69 : decode cX3_begin 69 = .ok (.invokevirtual 90, 3) := by decide +kernel
theorem dX3_begin_72 : decode cX3_begin 72 = .ok (.iload 5, 2) := by decide +kernel
theorem dX3_begin_74 : decode cX3_begin 74 = .ok (.if_icmp .ne 28, 3) := by decide +kernel
theorem dX3_begin_77 : decode cX3_begin 77 = .ok (.aload_n 0, 1) := by decide +kernel
theorem dX3_begin_78 : decode cX3_begin 78 = .ok (.getfield 25, 3) := by decide +kernel
theorem dX3_begin_81 : decode cX3_begin 81 = .ok (.iload 4, 2) := by decide +kernel
theorem dX3_begin_83 : decode cX3_begin 83 = .ok (.iinc 4 1, 3) := by decide +kernel
theorem dX3_begin_86 : decode cX3_begin 86 = .ok (.iload 6, 2) := by decide +kernel
theorem dX3_begin_88 : decode cX3_begin 88 = .ok (.iastore, 1) := by decide +kernel
theorem dX3_begin_89 : decode cX3_begin 89 = .ok (.aload_n 0, 1) := by decide +kernel
theorem dX3_begin_90 : decode cX3_begin 90 = .ok (.dup, 1) := by decide +kernel
theorem dX3_begin_91 : decode cX3_begin 91 = .ok (.getfield 63, 3) := by decide +kernel
theorem dX3_begin_94 : decode cX3_begin 94 = .ok (.iconst 1, 1) := by decide +kernel
theorem dX3_begin_95 : decode cX3_begin 95 = .ok (.iload 6, 2) := by decide +kernel
theorem dX3_begin_97 : decode cX3_begin 97 = .ok (.ishl, 1) := by decide +kernel
theorem dX3_begin_98 : decode cX3_begin 98 = .ok (.ior, 1) := by decide +kernel
theorem dX3_begin_99 : decode cX3_begin 99 = .ok (.putfield 63, 3) := by decide +kernel
theorem dX3_begin_102 : decode cX3_begin 102 = .ok (.iinc 6 1, 3) := by decide +kernel
theorem dX3_begin_105 : decode cX3_begin 105 = .ok (.goto (-65), 3) := by decide +kernel
theorem dX3_begin_108 : decode cX3_begin 108 = .ok (.iinc 5 1, 3) := by decide +kernel
theorem dX3_begin_111 : decode cX3_begin 111 = .ok (.goto (-92), 3) := by decide +kernel
theorem dX3_begin_114 : decode cX3_begin 114 = .ok (.aload_n 0, 1) := by decide +kernel
theorem dX3_begin_115 : decode cX3_begin 115 = .ok (.getfield 28, 3) := by decide +kernel
theorem dX3_begin_118 : decode cX3_begin 118 = .ok (.aload_n 1, 1) := by decide +kernel
theorem dX3_begin_119 : decode cX3_begin 119 = .ok (.getfield 75, 3) := by decide +kernel
theorem dX3_begin_122 : decode cX3_begin 122 = .ok (.iload 4, 2) := by decide +kernel
theorem dX3_begin_124 : decode cX3_begin 124 = .ok (.iastore, 1) := by decide +kernel
theorem dX3_begin_125 : decode cX3_begin 125 = .ok (.return_, 1) := by decide +kernel
theorem dX3_tryFrom_0 : decode cX3_tryFrom 0 = .ok (.iload_n 3, 1) := by decide +kernel
theorem dX3_tryFrom_1 : decode cX3_tryFrom 1 = .ok (.aload_n 1, 1) := by decide +kernel
theorem dX3_tryFrom_2 : decode cX3_tryFrom 2 = .ok (.getfield 75, 3) := by decide +kernel
theorem dX3_tryFrom_5 : decode cX3_tryFrom 5 = .ok (.if_icmp .lt 9, 3) := by decide +kernel
theorem dX3_tryFrom_8 : decode cX3_tryFrom 8 = .ok (.aload_n 0, 1) := by decide +kernel
theorem dX3_tryFrom_9 : decode cX3_tryFrom 9 = .ok (.iload_n 3, 1) := by decide +kernel
theorem dX3_tryFrom_10 : decode cX3_tryFrom 10 = .ok (.invokevirtual 93, 3) := by decide +kernel
theorem dX3_tryFrom_13 : decode cX3_tryFrom 13 = .ok (.return_, 1) := by decide +kernel
theorem dX3_tryFrom_14 : decode cX3_tryFrom 14 = .ok (.aload_n 1, 1) := by decide +kernel
theorem dX3_tryFrom_15 : decode cX3_tryFrom 15 = .ok (.getfield 97, 3) := by decide +kernel
theorem dX3_tryFrom_18 : decode cX3_tryFrom 18 = .ok (.iload_n 3, 1) := by decide +kernel
theorem dX3_tryFrom_19 : decode cX3_tryFrom 19 = .ok (.aaload, 1) := by decide +kernel
theorem dX3_tryFrom_20 : decode cX3_tryFrom 20 = .ok (.astore 4, 2) := by decide +kernel
theorem dX3_tryFrom_22 : decode cX3_tryFrom 22 = .ok (.aload 4, 2) := by decide +kernel
theorem dX3_tryFrom_24 : decode cX3_tryFrom 24 = .ok (.getfield 101, 3) := by decide +kernel
theorem dX3_tryFrom_27 : decode cX3_tryFrom 27 = .ok (.ifCond .eq 12, 3) := by decide +kernel
theorem dX3_tryFrom_30 : decode cX3_tryFrom 30 = .ok (.aload_n 1, 1) := by decide +kernel
theorem dX3_tryFrom_31 : decode cX3_tryFrom 31 = .ok (.getfield 106, 3) := by decide +kernel
theorem dX3_tryFrom_34 : decode cX3_tryFrom 34 = .ok (.iload_n 3, 1) := by decide +kernel
theorem dX3_tryFrom_35 : decode cX3_tryFrom 35 = .ok (.iaload, 1) := by decide +kernel
theorem dX3_tryFrom_36 : decode cX3_tryFrom 36 = .ok (.goto 8, 3) := by decide +kernel
theorem dX3_tryFrom_39 : decode cX3_tryFrom 39 = .ok (.aload 4, 2) := by decide +kernel
theorem dX3_tryFrom_41 : decode cX3_tryFrom 41 = .ok (.getfield 109, 3) := by decide +kernel
theorem dX3_tryFrom_44 : decode cX3_tryFrom 44 = .ok (.istore 5, 2) := by decide +kernel
theorem dX3_tryFrom_46 : decode cX3_tryFrom 46 = .ok (.aload 4, 2) := by decide +kernel
theorem dX3_tryFrom_48 : decode cX3_tryFrom 48 = .ok (.getfield 101, 3) := by decide +kernel
theorem dX3_tryFrom_51 : decode cX3_tryFrom 51 = .ok (.ifCond .eq 12, 3) := by decide +kernel
theorem dX3_tryFrom_54 : decode cX3_tryFrom 54 = .ok (.aload_n 1, 1) := by decide +kernel
theorem dX3_tryFrom_55 : decode cX3_tryFrom 55 = .ok (.getfield 106, 3) := by decide +kernel
theorem dX3_tryFrom_58 : decode cX3_tryFrom 58 = .ok (.iload_n 3, 1) := by decide +kernel
theorem dX3_tryFrom_59 : decode cX3_tryFrom 59 = .ok (.iaload, 1) := by decide +kernel
theorem dX3_tryFrom_60 : decode cX3_tryFrom 60 = .ok (.goto 8, 3) := by decide +kernel
theorem dX3_tryFrom_63 : decode cX3_tryFrom 63 = .ok (.aload 4, 2) := by decide +kernel
theorem dX3_tryFrom_65 : decode cX3_tryFrom 65 = .ok (.getfield 112, 3) := by decide +kernel
theorem dX3_tryFrom_68 : decode cX3_tryFrom 68 = .ok (.istore 6, 2) := by decide +kernel
theorem dX3_tryFrom_70 : decode cX3_tryFrom 70 = .ok (.iload 5, 2) := by decide +kernel
theorem dX3_tryFrom_72 : decode cX3_tryFrom 72 = .ok (.istore 7, 2) := by decide +kernel
theorem dX3_tryFrom_74 : decode cX3_tryFrom 74 = .ok (.iload 7, 2) := by decide +kernel
theorem dX3_tryFrom_76 : decode cX3_tryFrom 76 = .ok (.iload 6, 2) := by decide +kernel
theorem dX3_tryFrom_78 : decode cX3_tryFrom 78 = .ok (.if_icmp .gt 67, 3) := by decide +kernel
theorem dX3_tryFrom_81 : decode cX3_tryFrom 81 = .ok (.aload_n 0, 1) := by decide +kernel
theorem dX3_tryFrom_82 : decode cX3_tryFrom 82 = .ok (.getfield 22, 3) := by decide +kernel
theorem dX3_tryFrom_85 : decode cX3_tryFrom 85 = .ok (.iload_n 3, 1) := by decide +kernel
theorem dX3_tryFrom_86 : decode cX3_tryFrom 86 = .ok (.iload 7, 2) := by decide +kernel
theorem dX3_tryFrom_88 : decode cX3_tryFrom 88 = .ok (.iastore, 1) := by decide +kernel
theorem dX3_tryFrom_89 : decode cX3_tryFrom 89 = .ok (.aload_n 0, 1) := by decide +kernel
theorem dX3_tryFrom_90 : decode cX3_tryFrom 90 = .ok (.getfield 18, 3) := by decide +kernel
theorem dX3_tryFrom_93 : decode cX3_tryFrom 93 = .ok (.aload 4, 2) := by decide +kernel
theorem dX3_tryFrom_95 : decode cX3_tryFrom 95 = .ok (.iload_n 3, 1) := by decide +kernel
theorem dX3_tryFrom_96 : decode cX3_tryFrom 96 = .ok (.iload 7, 2) := by decide +kernel
theorem dX3_tryFrom_98 : decode cX3_tryFrom 98 = .ok (.invokevirtual 115, 3) := by decide +kernel
theorem dX3_tryFrom_101 : decode cX3_tryFrom 101 = .ok (.aload_n 0, 1) := by decide +kernel
theorem dX3_tryFrom_102 : decode cX3_tryFrom 102 = .ok (.getfield 18, 3) := by decide +kernel
theorem dX3_tryFrom_105 : decode cX3_tryFrom 105 = .ok (.aload 4, 2) := by decide +kernel
theorem dX3_tryFrom_107 : decode cX3_tryFrom 107 = .ok (.iload_n 3, 1) := by decide +kernel
theorem dX3_tryFrom_108 : decode cX3_tryFrom 108 = .ok (.invokevirtual 119, 3) := by decide +kernel
theorem dX3_tryFrom_111 : decode cX3_tryFrom 111 = .ok (.ifCond .eq 28, 3) := by decide +kernel
theorem dX3_tryFrom_114 : decode cX3_tryFrom 114 = .ok (.aload_n 0, 1) := by decide +kernel
theorem dX3_tryFrom_115 : decode cX3_tryFrom 115 = .ok (.aload_n 2, 1) := by decide +kernel
theorem dX3_tryFrom_116 : decode cX3_tryFrom 116 = .ok (.iload_n 3, 1) := by decide +kernel
theorem dX3_tryFrom_117 : decode cX3_tryFrom 117 = .ok (.invokevirtual 123, 3) := by decide +kernel
theorem dX3_tryFrom_120 : decode cX3_tryFrom 120 = .ok (.aload_n 0, 1) := by decide +kernel
theorem dX3_tryFrom_121 : decode cX3_tryFrom 121 = .ok (.iload_n 3, 1) := by decide +kernel
theorem dX3_tryFrom_122 : decode cX3_tryFrom 122 = .ok (.iconst 1, 1) := by decide +kernel
theorem dX3_tryFrom_123 : decode cX3_tryFrom 123 = .ok (.iadd, 1) := by decide +kernel
theorem dX3_tryFrom_124 : decode cX3_tryFrom 124 = .ok (.invokevirtual 127, 3) := by decide +kernel
theorem dX3_tryFrom_127 : decode cX3_tryFrom 127 = .ok (.ifCond .eq 12, 3) := by decide +kernel
theorem dX3_tryFrom_130 : decode cX3_tryFrom 130 = .ok (.aload_n 0, 1) := by decide +kernel
theorem dX3_tryFrom_131 : decode cX3_tryFrom 131 = .ok (.aload_n 1, 1) := by decide +kernel
theorem dX3_tryFrom_132 : decode cX3_tryFrom 132 = .ok (.aload_n 2, 1) := by decide +kernel
theorem dX3_tryFrom_133 : decode cX3_tryFrom 133 = .ok (.iload_n 3, 1) := by decide +kernel
theorem dX3_tryFrom_134 : decode cX3_tryFrom 134 = .ok (.iconst 1, 1) := by decide +kernel
theorem dX3_tryFrom_135 : decode cX3_tryFrom 135 = .ok (.iadd, 1) := by decide +kernel
theorem dX3_tryFrom_136 : decode cX3_tryFrom 136 = .ok (.invokevirtual 60, 3) := by decide +kernel
theorem dX3_tryFrom_139 : decode cX3_tryFrom 139 = .ok (.iinc 7 1, 3) := by decide +kernel
theorem dX3_tryFrom_142 : decode cX3_tryFrom 142 = .ok (.goto (-68), 3) := by decide +kernel
theorem dX3_tryFrom_145 : decode cX3_tryFrom 145 = .ok (.return_, 1) := by decide +kernel
theorem dX3_weigh_0 : decode cX3_weigh 0 = .ok (.aload_n 0, 1) := by decide +kernel
theorem dX3_weigh_1 : decode cX3_weigh 1 = .ok (.getfield 31, 3) := by decide +kernel
theorem dX3_weigh_4 : decode cX3_weigh 4 = .ok (.iload_n 2, 1) := by decide +kernel
theorem dX3_weigh_5 : decode cX3_weigh 5 = .ok (.iaload, 1) := by decide +kernel
theorem dX3_weigh_6 : decode cX3_weigh 6 = .ok (.istore_n 3, 1) := by decide +kernel
theorem dX3_weigh_7 : decode cX3_weigh 7 = .ok (.aload_n 0, 1) := by decide +kernel
theorem dX3_weigh_8 : decode cX3_weigh 8 = .ok (.getfield 34, 3) := by decide +kernel
theorem dX3_weigh_11 : decode cX3_weigh 11 = .ok (.iload_n 2, 1) := by decide +kernel
theorem dX3_weigh_12 : decode cX3_weigh 12 = .ok (.iaload, 1) := by decide +kernel
theorem dX3_weigh_13 : decode cX3_weigh 13 = .ok (.istore 4, 2) := by decide +kernel
theorem dX3_weigh_15 : decode cX3_weigh 15 = .ok (.aload_n 0, 1) := by decide +kernel
theorem dX3_weigh_16 : decode cX3_weigh 16 = .ok (.getfield 37, 3) := by decide +kernel
theorem dX3_weigh_19 : decode cX3_weigh 19 = .ok (.iload_n 2, 1) := by decide +kernel
theorem dX3_weigh_20 : decode cX3_weigh 20 = .ok (.iaload, 1) := by decide +kernel
theorem dX3_weigh_21 : decode cX3_weigh 21 = .ok (.istore 5, 2) := by decide +kernel
theorem dX3_weigh_23 : decode cX3_weigh 23 = .ok (.aload_n 0, 1) := by decide +kernel
theorem dX3_weigh_24 : decode cX3_weigh 24 = .ok (.getfield 28, 3) := by decide +kernel
theorem dX3_weigh_27 : decode cX3_weigh 27 = .ok (.iload_n 2, 1) := by decide +kernel
theorem dX3_weigh_28 : decode cX3_weigh 28 = .ok (.iaload, 1) := by decide +kernel
theorem dX3_weigh_29 : decode cX3_weigh 29 = .ok (.istore 6, 2) := by decide +kernel
theorem dX3_weigh_31 : decode cX3_weigh 31 = .ok (.iload 6, 2) := by decide +kernel
theorem dX3_weigh_33 : decode cX3_weigh 33 = .ok (.aload_n 0, 1) := by decide +kernel
theorem dX3_weigh_34 : decode cX3_weigh 34 = .ok (.getfield 28, 3) := by decide +kernel
theorem dX3_weigh_37 : decode cX3_weigh 37 = .ok (.iload_n 2, 1) := by decide +kernel
theorem dX3_weigh_38 : decode cX3_weigh 38 = .ok (.iconst 1, 1) := by decide +kernel
theorem dX3_weigh_39 : decode cX3_weigh 39 = .ok (.iadd, 1) := by decide +kernel
theorem dX3_weigh_40 : decode cX3_weigh 40 = .ok (.iaload, 1) := by decide +kernel
theorem dX3_weigh_41 : decode cX3_weigh 41 = .ok (.if_icmp .ge 72, 3) := by decide +kernel
theorem dX3_weigh_44 : decode cX3_weigh 44 = .ok (.aload_n 1, 1) := by decide +kernel
theorem dX3_weigh_45 : decode cX3_weigh 45 = .ok (.getfield 81, 3) := by decide +kernel
theorem dX3_weigh_48 : decode cX3_weigh 48 = .ok (.aload_n 0, 1) := by decide +kernel
theorem dX3_weigh_49 : decode cX3_weigh 49 = .ok (.getfield 25, 3) := by decide +kernel
theorem dX3_weigh_52 : decode cX3_weigh 52 = .ok (.iload 6, 2) := by decide +kernel
theorem dX3_weigh_54 : decode cX3_weigh 54 = .ok (.iaload, 1) := by decide +kernel
theorem dX3_weigh_55 : decode cX3_weigh 55 = .ok (.aaload, 1) := by decide +kernel
theorem dX3_weigh_56 : decode cX3_weigh 56 = .ok (.astore 7, 2) := by decide +kernel
theorem dX3_weigh_58 : decode cX3_weigh 58 = .ok (.aload 7, 2) := by decide +kernel
theorem dX3_weigh_60 : decode cX3_weigh 60 = .ok (.aload_n 0, 1) := by decide +kernel
theorem dX3_weigh_61 : decode cX3_weigh 61 = .ok (.getfield 18, 3) := by decide +kernel
theorem dX3_weigh_64 : decode cX3_weigh 64 = .ok (.invokevirtual 131, 3) := by decide +kernel
theorem dX3_weigh_67 : decode cX3_weigh 67 = .ok (.istore 8, 2) := by decide +kernel
theorem dX3_weigh_69 : decode cX3_weigh 69 = .ok (.iload 8, 2) := by decide +kernel
theorem dX3_weigh_71 : decode cX3_weigh 71 = .ok (.aload 7, 2) := by decide +kernel
theorem dX3_weigh_73 : decode cX3_weigh 73 = .ok (.getfield 135, 3) := by decide +kernel
theorem dX3_weigh_76 : decode cX3_weigh 76 = .ok (.if_icmp .le 15, 3) := by decide +kernel
theorem dX3_weigh_79 : decode cX3_weigh 79 = .ok (.iload_n 3, 1) := by decide +kernel
theorem dX3_weigh_80 : decode cX3_weigh 80 = .ok (.iconst 1, 1) := by decide +kernel
theorem dX3_weigh_81 : decode cX3_weigh 81 = .ok (.aload_n 0, 1) := by decide +kernel
theorem dX3_weigh_82 : decode cX3_weigh 82 = .ok (.getfield 25, 3) := by decide +kernel
theorem dX3_weigh_85 : decode cX3_weigh 85 = .ok (.iload 6, 2) := by decide +kernel
theorem dX3_weigh_87 : decode cX3_weigh 87 = .ok (.iaload, 1) := by decide +kernel
theorem dX3_weigh_88 : decode cX3_weigh 88 = .ok (.ishl, 1) := by decide +kernel
theorem dX3_weigh_89 : decode cX3_weigh 89 = .ok (.ior, 1) := by decide +kernel
theorem dX3_weigh_90 : decode cX3_weigh 90 = .ok (.istore_n 3, 1) := by decide +kernel
theorem dX3_weigh_91 : decode cX3_weigh 91 = .ok (.iload 4, 2) := by decide +kernel
theorem dX3_weigh_93 : decode cX3_weigh 93 = .ok (.iload 8, 2) := by decide +kernel
theorem dX3_weigh_95 : decode cX3_weigh 95 = .ok (.invokestatic 138, 3) := by decide +kernel
theorem dX3_weigh_98 : decode cX3_weigh 98 = .ok (.istore 4, 2) := by decide +kernel
theorem dX3_weigh_100 : decode cX3_weigh 100 = .ok (.iload 5, 2) := by decide +kernel
theorem dX3_weigh_102 : decode cX3_weigh 102 = .ok (.iload 8, 2) := by decide +kernel
theorem dX3_weigh_104 : decode cX3_weigh 104 = .ok (.iadd, 1) := by decide +kernel
theorem dX3_weigh_105 : decode cX3_weigh 105 = .ok (.istore 5, 2) := by decide +kernel
theorem dX3_weigh_107 : decode cX3_weigh 107 = .ok (.iinc 6 1, 3) := by decide +kernel
theorem dX3_weigh_110 : decode cX3_weigh 110 = .ok (.goto (-79), 3) := by decide +kernel
theorem dX3_weigh_113 : decode cX3_weigh 113 = .ok (.aload_n 0, 1) := by decide +kernel
theorem dX3_weigh_114 : decode cX3_weigh 114 = .ok (.getfield 31, 3) := by decide +kernel
theorem dX3_weigh_117 : decode cX3_weigh 117 = .ok (.iload_n 2, 1) := by decide +kernel
theorem dX3_weigh_118 : decode cX3_weigh 118 = .ok (.iconst 1, 1) := by decide +kernel
theorem dX3_weigh_119 : decode cX3_weigh 119 = .ok (.iadd, 1) := by decide +kernel
theorem dX3_weigh_120 : decode cX3_weigh 120 = .ok (.iload_n 3, 1) := by decide +kernel
theorem dX3_weigh_121 : decode cX3_weigh 121 = .ok (.iastore, 1) := by decide +kernel
theorem dX3_weigh_122 : decode cX3_weigh 122 = .ok (.aload_n 0, 1) := by decide +kernel
theorem dX3_weigh_123 : decode cX3_weigh 123 = .ok (.getfield 34, 3) := by decide +kernel
theorem dX3_weigh_126 : decode cX3_weigh 126 = .ok (.iload_n 2, 1) := by decide +kernel
theorem dX3_weigh_127 : decode cX3_weigh 127 = .ok (.iconst 1, 1) := by decide +kernel
theorem dX3_weigh_128 : decode cX3_weigh 128 = .ok (.iadd, 1) := by decide +kernel
theorem dX3_weigh_129 : decode cX3_weigh 129 = .ok (.iload 4, 2) := by decide +kernel
theorem dX3_weigh_131 : decode cX3_weigh 131 = .ok (.iastore, 1) := by decide +kernel
theorem dX3_weigh_132 : decode cX3_weigh 132 = .ok (.aload_n 0, 1) := by decide +kernel
theorem dX3_weigh_133 : decode cX3_weigh 133 = .ok (.getfield 37, 3) := by decide +kernel
theorem dX3_weigh_136 : decode cX3_weigh 136 = .ok (.iload_n 2, 1) := by decide +kernel
theorem dX3_weigh_137 : decode cX3_weigh 137 = .ok (.iconst 1, 1) := by decide +kernel
theorem dX3_weigh_138 : decode cX3_weigh 138 = .ok (.iadd, 1) := by decide +kernel
theorem dX3_weigh_139 : decode cX3_weigh 139 = .ok (.iload 5, 2) := by decide +kernel
theorem dX3_weigh_141 : decode cX3_weigh 141 = .ok (.iastore, 1) := by decide +kernel
theorem dX3_weigh_142 : decode cX3_weigh 142 = .ok (.aload_n 0, 1) := by decide +kernel
theorem dX3_weigh_143 : decode cX3_weigh 143 = .ok (.getfield 40, 3) := by decide +kernel
theorem dX3_weigh_146 : decode cX3_weigh 146 = .ok (.iload_n 2, 1) := by decide +kernel
theorem dX3_weigh_147 : decode cX3_weigh 147 = .ok (.iconst 1, 1) := by decide +kernel
theorem dX3_weigh_148 : decode cX3_weigh 148 = .ok (.iadd, 1) := by decide +kernel
theorem dX3_weigh_149 : decode cX3_weigh 149 = .ok (.aload_n 0, 1) := by decide +kernel
theorem dX3_weigh_150 : decode cX3_weigh 150 = .ok (.getfield 40, 3) := by decide +kernel
theorem dX3_weigh_153 : decode cX3_weigh 153 = .ok (.iload_n 2, 1) := by decide +kernel
theorem dX3_weigh_154 : decode cX3_weigh 154 = .ok (.laload, 1) := by decide +kernel
theorem dX3_weigh_155 : decode cX3_weigh 155 = .ok (.aload_n 0, 1) := by decide +kernel
theorem dX3_weigh_156 : decode cX3_weigh 156 = .ok (.getfield 18, 3) := by decide +kernel
theorem dX3_weigh_159 : decode cX3_weigh 159 = .ok (.iload_n 2, 1) := by decide +kernel
theorem dX3_weigh_160 : decode cX3_weigh 160 = .ok (.invokevirtual 144, 3) := by decide +kernel
theorem dX3_weigh_163 : decode cX3_weigh 163 = .ok (.ladd, 1) := by decide +kernel
theorem dX3_weigh_164 : decode cX3_weigh 164 = .ok (.lastore, 1) := by decide +kernel
theorem dX3_weigh_165 : decode cX3_weigh 165 = .ok (.return_, 1) := by decide +kernel
theorem dX3_isOfUse_0 : decode cX3_isOfUse 0 = .ok (.aload_n 0, 1) := by decide +kernel
theorem dX3_isOfUse_1 : decode cX3_isOfUse 1 = .ok (.getfield 48, 3) := by decide +kernel
theorem dX3_isOfUse_4 : decode cX3_isOfUse 4 = .ok (.ifCond .eq 33, 3) := by decide +kernel
theorem dX3_isOfUse_7 : decode cX3_isOfUse 7 = .ok (.aload_n 0, 1) := by decide +kernel
theorem dX3_isOfUse_8 : decode cX3_isOfUse 8 = .ok (.getfield 31, 3) := by decide +kernel
theorem dX3_isOfUse_11 : decode cX3_isOfUse 11 = .ok (.iload_n 1, 1) := by decide +kernel
theorem dX3_isOfUse_12 : decode cX3_isOfUse 12 = .ok (.iaload, 1) := by decide +kernel
theorem dX3_isOfUse_13 : decode cX3_isOfUse 13 = .ok (.ifCond .ne 20, 3) := by decide +kernel
theorem dX3_isOfUse_16 : decode cX3_isOfUse 16 = .ok (.aload_n 0, 1) := by decide +kernel
theorem dX3_isOfUse_17 : decode cX3_isOfUse 17 = .ok (.getfield 34, 3) := by decide +kernel
theorem dX3_isOfUse_20 : decode cX3_isOfUse 20 = .ok (.iload_n 1, 1) := by decide +kernel
theorem dX3_isOfUse_21 : decode cX3_isOfUse 21 = .ok (.iaload, 1) := by decide +kernel
theorem dX3_isOfUse_22 : decode cX3_isOfUse 22 = .ok (.aload_n 0, 1) := by decide +kernel
theorem dX3_isOfUse_23 : decode cX3_isOfUse 23 = .ok (.getfield 56, 3) := by decide +kernel
theorem dX3_isOfUse_26 : decode cX3_isOfUse 26 = .ok (.if_icmp .gt 7, 3) := by decide +kernel
theorem dX3_isOfUse_29 : decode cX3_isOfUse 29 = .ok (.iconst 1, 1) := by decide +kernel
theorem dX3_isOfUse_30 : decode cX3_isOfUse 30 = .ok (.goto 19, 3) := by decide +kernel
theorem dX3_isOfUse_33 : decode cX3_isOfUse 33 = .ok (.iconst 0, 1) := by decide +kernel
theorem dX3_isOfUse_34 : decode cX3_isOfUse 34 = .ok (.goto 15, 3) := by decide +kernel
theorem dX3_isOfUse_37 : decode cX3_isOfUse 37 = .ok (.aload_n 0, 1) := by decide +kernel
theorem dX3_isOfUse_38 : decode cX3_isOfUse 38 = .ok (.getfield 63, 3) := by decide +kernel
theorem dX3_isOfUse_41 : decode cX3_isOfUse 41 = .ok (.ifCond .eq 7, 3) := by decide +kernel
theorem dX3_isOfUse_44 : decode cX3_isOfUse 44 = .ok (.iconst 1, 1) := by decide +kernel
theorem dX3_isOfUse_45 : decode cX3_isOfUse 45 = .ok (.goto 4, 3) := by decide +kernel
theorem dX3_isOfUse_48 : decode cX3_isOfUse 48 = .ok (.iconst 0, 1) := by decide +kernel
theorem dX3_isOfUse_49 : decode cX3_isOfUse 49 = .ok (.ireturn, 1) := by decide +kernel
theorem dX3_arrive_0 : decode cX3_arrive 0 = .ok (.aload_n 0, 1) := by decide +kernel
theorem dX3_arrive_1 : decode cX3_arrive 1 = .ok (.getfield 48, 3) := by decide +kernel
theorem dX3_arrive_4 : decode cX3_arrive 4 = .ok (.ifCond .ne 21, 3) := by decide +kernel
theorem dX3_arrive_7 : decode cX3_arrive 7 = .ok (.aload_n 0, 1) := by decide +kernel
theorem dX3_arrive_8 : decode cX3_arrive 8 = .ok (.dup, 1) := by decide +kernel
theorem dX3_arrive_9 : decode cX3_arrive 9 = .ok (.getfield 63, 3) := by decide +kernel
theorem dX3_arrive_12 : decode cX3_arrive 12 = .ok (.aload_n 0, 1) := by decide +kernel
theorem dX3_arrive_13 : decode cX3_arrive 13 = .ok (.getfield 31, 3) := by decide +kernel
theorem dX3_arrive_16 : decode cX3_arrive 16 = .ok (.iload_n 1, 1) := by decide +kernel
theorem dX3_arrive_17 : decode cX3_arrive 17 = .ok (.iaload, 1) := by decide +kernel
theorem dX3_arrive_18 : decode cX3_arrive 18 = .ok (.iand, 1) := by decide +kernel
theorem dX3_arrive_19 : decode cX3_arrive 19 = .ok (.putfield 63, 3) := by decide +kernel
theorem dX3_arrive_22 : decode cX3_arrive 22 = .ok (.goto 67, 3) := by decide +kernel
theorem dX3_arrive_25 : decode cX3_arrive 25 = .ok (.aload_n 0, 1) := by decide +kernel
theorem dX3_arrive_26 : decode cX3_arrive 26 = .ok (.getfield 52, 3) := by decide +kernel
theorem dX3_arrive_29 : decode cX3_arrive 29 = .ok (.ifCond .eq 11, 3) := by decide +kernel
theorem dX3_arrive_32 : decode cX3_arrive 32 = .ok (.aload_n 0, 1) := by decide +kernel
theorem dX3_arrive_33 : decode cX3_arrive 33 = .ok (.iload_n 1, 1) := by decide +kernel
theorem dX3_arrive_34 : decode cX3_arrive 34 = .ok (.invokevirtual 148, 3) := by decide +kernel
theorem dX3_arrive_37 : decode cX3_arrive 37 = .ok (.ifCond .eq 52, 3) := by decide +kernel
theorem dX3_arrive_40 : decode cX3_arrive 40 = .ok (.aload_n 0, 1) := by decide +kernel
theorem dX3_arrive_41 : decode cX3_arrive 41 = .ok (.iconst 1, 1) := by decide +kernel
theorem dX3_arrive_42 : decode cX3_arrive 42 = .ok (.putfield 52, 3) := by decide +kernel
theorem dX3_arrive_45 : decode cX3_arrive 45 = .ok (.aload_n 0, 1) := by decide +kernel
theorem dX3_arrive_46 : decode cX3_arrive 46 = .ok (.aload_n 0, 1) := by decide +kernel
theorem dX3_arrive_47 : decode cX3_arrive 47 = .ok (.getfield 34, 3) := by decide +kernel
theorem dX3_arrive_50 : decode cX3_arrive 50 = .ok (.iload_n 1, 1) := by decide +kernel
theorem dX3_arrive_51 : decode cX3_arrive 51 = .ok (.iaload, 1) := by decide +kernel
theorem dX3_arrive_52 : decode cX3_arrive 52 = .ok (.putfield 56, 3) := by decide +kernel
theorem dX3_arrive_55 : decode cX3_arrive 55 = .ok (.aload_n 0, 1) := by decide +kernel
theorem dX3_arrive_56 : decode cX3_arrive 56 = .ok (.aload_n 0, 1) := by decide +kernel
theorem dX3_arrive_57 : decode cX3_arrive 57 = .ok (.getfield 37, 3) := by decide +kernel
theorem dX3_arrive_60 : decode cX3_arrive 60 = .ok (.iload_n 1, 1) := by decide +kernel
theorem dX3_arrive_61 : decode cX3_arrive 61 = .ok (.iaload, 1) := by decide +kernel
theorem dX3_arrive_62 : decode cX3_arrive 62 = .ok (.putfield 151, 3) := by decide +kernel
theorem dX3_arrive_65 : decode cX3_arrive 65 = .ok (.aload_n 0, 1) := by decide +kernel
theorem dX3_arrive_66 : decode cX3_arrive 66 = .ok (.aload_n 0, 1) := by decide +kernel
theorem dX3_arrive_67 : decode cX3_arrive 67 = .ok (.getfield 40, 3) := by decide +kernel
theorem dX3_arrive_70 : decode cX3_arrive 70 = .ok (.iload_n 1, 1) := by decide +kernel
theorem dX3_arrive_71 : decode cX3_arrive 71 = .ok (.laload, 1) := by decide +kernel
theorem dX3_arrive_72 : decode cX3_arrive 72 = .ok (.putfield 154, 3) := by decide +kernel
theorem dX3_arrive_75 : decode cX3_arrive 75 = .ok (.aload_n 0, 1) := by decide +kernel
theorem dX3_arrive_76 : decode cX3_arrive 76 = .ok (.getfield 22, 3) := by decide +kernel
theorem dX3_arrive_79 : decode cX3_arrive 79 = .ok (.iconst 0, 1) := by decide +kernel
theorem dX3_arrive_80 : decode cX3_arrive 80 = .ok (.aload_n 0, 1) := by decide +kernel
theorem dX3_arrive_81 : decode cX3_arrive 81 = .ok (.getfield 9, 3) := by decide +kernel
theorem dX3_arrive_84 : decode cX3_arrive 84 = .ok (.iconst 0, 1) := by decide +kernel
theorem dX3_arrive_85 : decode cX3_arrive 85 = .ok (.iload_n 1, 1) := by decide +kernel
theorem dX3_arrive_86 : decode cX3_arrive 86 = .ok (.invokestatic 158, 3) := by decide +kernel
theorem dX3_arrive_89 : decode cX3_arrive 89 = .ok (.return_, 1) := by decide +kernel
theorem dX3_isBetter_0 : decode cX3_isBetter 0 = .ok (.aload_n 0, 1) := by decide +kernel
theorem dX3_isBetter_1 : decode cX3_isBetter 1 = .ok (.getfield 34, 3) := by decide +kernel
theorem dX3_isBetter_4 : decode cX3_isBetter 4 = .ok (.iload_n 1, 1) := by decide +kernel
theorem dX3_isBetter_5 : decode cX3_isBetter 5 = .ok (.iaload, 1) := by decide +kernel
theorem dX3_isBetter_6 : decode cX3_isBetter 6 = .ok (.aload_n 0, 1) := by decide +kernel
theorem dX3_isBetter_7 : decode cX3_isBetter 7 = .ok (.getfield 56, 3) := by decide +kernel
theorem dX3_isBetter_10 : decode cX3_isBetter 10 = .ok (.if_icmp .eq 22, 3) := by decide +kernel
theorem dX3_isBetter_13 : decode cX3_isBetter 13 = .ok (.aload_n 0, 1) := by decide +kernel
theorem dX3_isBetter_14 : decode cX3_isBetter 14 = .ok (.getfield 34, 3) := by decide +kernel
theorem dX3_isBetter_17 : decode cX3_isBetter 17 = .ok (.iload_n 1, 1) := by decide +kernel
theorem dX3_isBetter_18 : decode cX3_isBetter 18 = .ok (.iaload, 1) := by decide +kernel
theorem dX3_isBetter_19 : decode cX3_isBetter 19 = .ok (.aload_n 0, 1) := by decide +kernel
theorem dX3_isBetter_20 : decode cX3_isBetter 20 = .ok (.getfield 56, 3) := by decide +kernel
theorem dX3_isBetter_23 : decode cX3_isBetter 23 = .ok (.if_icmp .ge 7, 3) := by decide +kernel
theorem dX3_isBetter_26 : decode cX3_isBetter 26 = .ok (.iconst 1, 1) := by decide +kernel
theorem dX3_isBetter_27 : decode cX3_isBetter 27 = .ok (.goto 4, 3) := by decide +kernel
theorem dX3_isBetter_30 : decode cX3_isBetter 30 = .ok (.iconst 0, 1) := by decide +kernel
theorem dX3_isBetter_31 : decode cX3_isBetter 31 = .ok (.ireturn, 1) := by decide +kernel
theorem dX3_isBetter_32 : decode cX3_isBetter 32 = .ok (.aload_n 0, 1) := by decide +kernel
theorem dX3_isBetter_33 : decode cX3_isBetter 33 = .ok (.getfield 37, 3) := by decide +kernel
theorem dX3_isBetter_36 : decode cX3_isBetter 36 = .ok (.iload_n 1, 1) := by decide +kernel
theorem dX3_isBetter_37 : decode cX3_isBetter 37 = .ok (.iaload, 1) := by decide +kernel
theorem dX3_isBetter_38 : decode cX3_isBetter 38 = .ok (.aload_n 0, 1) := by decide +kernel
theorem dX3_isBetter_39 : decode cX3_isBetter 39 = .ok (.getfield 151, 3) := by decide +kernel
theorem dX3_isBetter_42 : decode cX3_isBetter 42 = .ok (.if_icmp .eq 22, 3) := by decide +kernel
theorem dX3_isBetter_45 : decode cX3_isBetter 45 = .ok (.aload_n 0, 1) := by decide +kernel
theorem dX3_isBetter_46 : decode cX3_isBetter 46 = .ok (.getfield 37, 3) := by decide +kernel
theorem dX3_isBetter_49 : decode cX3_isBetter 49 = .ok (.iload_n 1, 1) := by decide +kernel
theorem dX3_isBetter_50 : decode cX3_isBetter 50 = .ok (.iaload, 1) := by decide +kernel
theorem dX3_isBetter_51 : decode cX3_isBetter 51 = .ok (.aload_n 0, 1) := by decide +kernel
theorem dX3_isBetter_52 : decode cX3_isBetter 52 = .ok (.getfield 151, 3) := by decide +kernel
theorem dX3_isBetter_55 : decode cX3_isBetter 55 = .ok (.if_icmp .ge 7, 3) := by decide +kernel
theorem dX3_isBetter_58 : decode cX3_isBetter 58 = .ok (.iconst 1, 1) := by decide +kernel
theorem dX3_isBetter_59 : decode cX3_isBetter 59 = .ok (.goto 4, 3) := by decide +kernel
theorem dX3_isBetter_62 : decode cX3_isBetter 62 = .ok (.iconst 0, 1) := by decide +kernel
theorem dX3_isBetter_63 : decode cX3_isBetter 63 = .ok (.ireturn, 1) := by decide +kernel
theorem dX3_isBetter_64 : decode cX3_isBetter 64 = .ok (.aload_n 0, 1) := by decide +kernel
theorem dX3_isBetter_65 : decode cX3_isBetter 65 = .ok (.getfield 40, 3) := by decide +kernel
theorem dX3_isBetter_68 : decode cX3_isBetter 68 = .ok (.iload_n 1, 1) := by decide +kernel
theorem dX3_isBetter_69 : decode cX3_isBetter 69 = .ok (.laload, 1) := by decide +kernel
theorem dX3_isBetter_70 : decode cX3_isBetter 70 = .ok (.aload_n 0, 1) := by decide +kernel
theorem dX3_isBetter_71 : decode cX3_isBetter 71 = .ok (.getfield 154, 3) := by decide +kernel
theorem dX3_isBetter_74 : decode cX3_isBetter 74 = .ok (.lcmp, 1) := by decide +kernel
theorem dX3_isBetter_75 : decode cX3_isBetter 75 = .ok (.ifCond .ge 7, 3) := by decide +kernel
theorem dX3_isBetter_78 : decode cX3_isBetter 78 = .ok (.iconst 1, 1) := by decide +kernel
theorem dX3_isBetter_79 : decode cX3_isBetter 79 = .ok (.goto 4, 3) := by decide +kernel
theorem dX3_isBetter_82 : decode cX3_isBetter 82 = .ok (.iconst 0, 1) := by decide +kernel
theorem dX3_isBetter_83 : decode cX3_isBetter 83 = .ok (.ireturn, 1) := by decide +kernel
theorem dX4_init_0 : decode cX4_init 0 = .ok (.aload_n 0, 1) := by decide +kernel
theorem dX4_init_1 : decode cX4_init 1 = .ok (.invokespecial 3, 3) := by decide +kernel
theorem dX4_init_4 : decode cX4_init 4 = .ok (.aload_n 0, 1) := by decide +kernel
theorem dX4_init_5 : decode cX4_init 5 = .ok (.bipush 24, 2) := by decide +kernel
theorem dX4_init_7 : decode cX4_init 7 = .ok (.newarray .int, 2) := by decide +kernel
theorem dX4_init_9 : decode cX4_init 9 = .ok (.putfield 9, 3) := by decide +kernel
theorem dX4_init_12 : decode cX4_init 12 = .ok (.aload_n 0, 1) := by decide +kernel
theorem dX4_init_13 : decode cX4_init 13 = .ok (.bipush (-9), 2) := by decide +kernel
theorem dX4_init_15 : decode cX4_init 15 = .ok (.putfield 15, 3) := by decide +kernel
theorem dX4_init_18 : decode cX4_init 18 = .ok (.return_, 1) := by decide +kernel
theorem dX4_isNothing_0 : decode cX4_isNothing 0 = .ok (.aload_n 0, 1) := by decide +kernel
theorem dX4_isNothing_1 : decode cX4_isNothing 1 = .ok (.getfield 15, 3) := by decide +kernel
theorem dX4_isNothing_4 : decode cX4_isNothing 4 = .ok (.bipush (-9), 2) := by decide +kernel
theorem dX4_isNothing_6 : decode cX4_isNothing 6 = .ok (.if_icmp .ne 7, 3) := by decide +kernel
theorem dX4_isNothing_9 : decode cX4_isNothing 9 = .ok (.iconst 1, 1) := by decide +kernel
theorem dX4_isNothing_10 : decode cX4_isNothing 10 = .ok (.goto 4, 3) := by decide +kernel
theorem dX4_isNothing_13 : decode cX4_isNothing 13 = .ok (.iconst 0, 1) := by decide +kernel
theorem dX4_isNothing_14 : decode cX4_isNothing 14 = .ok (.ireturn, 1) := by decide +kernel
theorem dX4_drop_0 : decode cX4_drop 0 = .ok (.aload_n 0, 1) := by decide +kernel
theorem dX4_drop_1 : decode cX4_drop 1 = .ok (.bipush (-9), 2) := by decide +kernel
theorem dX4_drop_3 : decode cX4_drop 3 = .ok (.putfield 15, 3) := by decide +kernel
theorem dX4_drop_6 : decode cX4_drop 6 = .ok (.return_, 1) := by decide +kernel
theorem dX4_renew_0 : decode cX4_renew 0 = .ok (.aload_n 0, 1) := by decide +kernel
theorem dX4_renew_1 : decode cX4_renew 1 = .ok (.iload_n 1, 1) := by decide +kernel
theorem dX4_renew_2 : decode cX4_renew 2 = .ok (.putfield 15, 3) := by decide +kernel
theorem dX4_renew_5 : decode cX4_renew 5 = .ok (.aload_n 0, 1) := by decide +kernel
theorem dX4_renew_6 : decode cX4_renew 6 = .ok (.iload_n 2, 1) := by decide +kernel
theorem dX4_renew_7 : decode cX4_renew 7 = .ok (.putfield 19, 3) := by decide +kernel
theorem dX4_renew_10 : decode cX4_renew 10 = .ok (.iconst 0, 1) := by decide +kernel
theorem dX4_renew_11 : decode cX4_renew 11 = .ok (.istore_n 3, 1) := by decide +kernel
theorem dX4_renew_12 : decode cX4_renew 12 = .ok (.iload_n 3, 1) := by decide +kernel
theorem dX4_renew_13 : decode cX4_renew 13 = .ok (.aload_n 0, 1) := by decide +kernel
theorem dX4_renew_14 : decode cX4_renew 14 = .ok (.getfield 9, 3) := by decide +kernel
theorem dX4_renew_17 : decode cX4_renew 17 = .ok (.arraylength, 1) := by decide +kernel
theorem dX4_renew_18 : decode cX4_renew 18 = .ok (.if_icmp .ge 16, 3) := by decide +kernel
theorem dX4_renew_21 : decode cX4_renew 21 = .ok (.aload_n 0, 1) := by decide +kernel
theorem dX4_renew_22 : decode cX4_renew 22 = .ok (.getfield 9, 3) := by decide +kernel
theorem dX4_renew_25 : decode cX4_renew 25 = .ok (.iload_n 3, 1) := by decide +kernel
theorem dX4_renew_26 : decode cX4_renew 26 = .ok (.iconst 0, 1) := by decide +kernel
theorem dX4_renew_27 : decode cX4_renew 27 = .ok (.iastore, 1) := by decide +kernel
theorem dX4_renew_28 : decode cX4_renew 28 = .ok (.iinc 3 1, 3) := by decide +kernel
theorem dX4_renew_31 : decode cX4_renew 31 = .ok (.goto (-19), 3) := by decide +kernel
theorem dX4_renew_34 : decode cX4_renew 34 = .ok (.return_, 1) := by decide +kernel
theorem dX4_hasCells_0 : decode cX4_hasCells 0 = .ok (.iload_n 1, 1) := by decide +kernel
theorem dX4_hasCells_1 : decode cX4_hasCells 1 = .ok (.ifCond .lt 21, 3) := by decide +kernel
theorem dX4_hasCells_4 : decode cX4_hasCells 4 = .ok (.iload_n 2, 1) := by decide +kernel
theorem dX4_hasCells_5 : decode cX4_hasCells 5 = .ok (.ifCond .lt 17, 3) := by decide +kernel
theorem dX4_hasCells_8 : decode cX4_hasCells 8 = .ok (.iload_n 1, 1) := by decide +kernel
theorem dX4_hasCells_9 : decode cX4_hasCells 9 = .ok (.aload_n 0, 1) := by decide +kernel
theorem dX4_hasCells_10 : decode cX4_hasCells 10 = .ok (.getfield 19, 3) := by decide +kernel
theorem dX4_hasCells_13 : decode cX4_hasCells 13 = .ok (.iload_n 2, 1) := by decide +kernel
theorem dX4_hasCells_14 : decode cX4_hasCells 14 = .ok (.isub, 1) := by decide +kernel
theorem dX4_hasCells_15 : decode cX4_hasCells 15 = .ok (.if_icmp .gt 7, 3) := by decide +kernel
theorem dX4_hasCells_18 : decode cX4_hasCells 18 = .ok (.iconst 1, 1) := by decide +kernel
theorem dX4_hasCells_19 : decode cX4_hasCells 19 = .ok (.goto 4, 3) := by decide +kernel
theorem dX4_hasCells_22 : decode cX4_hasCells 22 = .ok (.iconst 0, 1) := by decide +kernel
theorem dX4_hasCells_23 : decode cX4_hasCells 23 = .ok (.ireturn, 1) := by decide +kernel
theorem dX4_cutToLane_0 : decode cX4_cutToLane 0 = .ok (.aload_n 0, 1) := by decide +kernel
theorem dX4_cutToLane_1 : decode cX4_cutToLane 1 = .ok (.getfield 15, 3) := by decide +kernel
theorem dX4_cutToLane_4 : decode cX4_cutToLane 4 = .ok (.ifCond .ne 6, 3) := by decide +kernel
theorem dX4_cutToLane_7 : decode cX4_cutToLane 7 = .ok (.iload_n 1, 1) := by decide +kernel
theorem dX4_cutToLane_8 : decode cX4_cutToLane 8 = .ok (.i2b, 1) := by decide +kernel
theorem dX4_cutToLane_9 : decode cX4_cutToLane 9 = .ok (.ireturn, 1) := by decide +kernel
theorem dX4_cutToLane_10 : decode cX4_cutToLane 10 = .ok (.aload_n 0, 1) := by decide +kernel
theorem dX4_cutToLane_11 : decode cX4_cutToLane 11 = .ok (.getfield 15, 3) := by decide +kernel
theorem dX4_cutToLane_14 : decode cX4_cutToLane 14 = .ok (.iconst 1, 1) := by decide +kernel
theorem dX4_cutToLane_15 : decode cX4_cutToLane 15 = .ok (.if_icmp .ne 8, 3) := by decide +kernel
theorem dX4_cutToLane_18 : decode cX4_cutToLane 18 = .ok (.iload_n 1, 1) := by decide +kernel
theorem dX4_cutToLane_19 : decode cX4_cutToLane 19 = .ok (.i2s, 1) := by decide +kernel
theorem dX4_cutToLane_20 : decode cX4_cutToLane 20 = .ok (.goto 4, 3) := by decide +kernel
theorem dX4_cutToLane_23 : decode cX4_cutToLane 23 = .ok (.iload_n 1, 1) := by decide +kernel
theorem dX4_cutToLane_24 : decode cX4_cutToLane 24 = .ok (.ireturn, 1) := by decide +kernel
theorem dX4_faultAs_0 : decode cX4_faultAs 0 = .ok (.aload_n 0, 1) := by decide +kernel
theorem dX4_faultAs_1 : decode cX4_faultAs 1 = .ok (.invokevirtual 22, 3) := by decide +kernel
theorem dX4_faultAs_4 : decode cX4_faultAs 4 = .ok (.ifCond .eq 5, 3) := by decide +kernel
theorem dX4_faultAs_7 : decode cX4_faultAs 7 = .ok (.iconst 1, 1) := by decide +kernel
theorem dX4_faultAs_8 : decode cX4_faultAs 8 = .ok (.ireturn, 1) := by decide +kernel
theorem dX4_faultAs_9 : decode cX4_faultAs 9 = .ok (.aload_n 0, 1) := by decide +kernel
theorem dX4_faultAs_10 : decode cX4_faultAs 10 = .ok (.getfield 15, 3) := by decide +kernel
theorem dX4_faultAs_13 : decode cX4_faultAs 13 = .ok (.iload_n 1, 1) := by decide +kernel
theorem dX4_faultAs_14 : decode cX4_faultAs 14 = .ok (.if_icmp .eq 5, 3) := by decide +kernel
theorem dX4_faultAs_17 : decode cX4_faultAs 17 = .ok (.iconst 2, 1) := by decide +kernel
theorem dX4_faultAs_18 : decode cX4_faultAs 18 = .ok (.ireturn, 1) := by decide +kernel
theorem dX4_faultAs_19 : decode cX4_faultAs 19 = .ok (.aload_n 0, 1) := by decide +kernel
theorem dX4_faultAs_20 : decode cX4_faultAs 20 = .ok (.iload_n 2, 1) := by decide +kernel
theorem dX4_faultAs_21 : decode cX4_faultAs 21 = .ok (.iload_n 3, 1) := by decide +kernel
theorem dX4_faultAs_22 : decode cX4_faultAs 22 = .ok (.invokevirtual 26, 3) := by decide +kernel
theorem dX4_faultAs_25 : decode cX4_faultAs 25 = .ok (.ifCond .eq 7, 3) := by decide +kernel
theorem dX4_faultAs_28 : decode cX4_faultAs 28 = .ok (.iconst 0, 1) := by decide +kernel
theorem dX4_faultAs_29 : decode cX4_faultAs 29 = .ok (.goto 4, 3) := by decide +kernel
theorem dX4_faultAs_32 : decode cX4_faultAs 32 = .ok (.iconst 3, 1) := by decide +kernel
theorem dX4_faultAs_33 : decode cX4_faultAs 33 = .ok (.ireturn, 1) := by decide +kernel
theorem dX5_init_0 : decode cX5_init 0 = .ok (.aload_n 0, 1) := by decide +kernel
theorem dX5_init_1 : decode cX5_init 1 = .ok (.invokespecial 3, 3) := by decide +kernel
theorem dX5_init_4 : decode cX5_init 4 = .ok (.aload_n 0, 1) := by decide +kernel
theorem dX5_init_5 : decode cX5_init 5 = .ok (.bipush 16, 2) := by decide +kernel
theorem dX5_init_7 : decode cX5_init 7 = .ok (.anewarray 9, 3) := by decide +kernel
theorem dX5_init_10 : decode cX5_init 10 = .ok (.putfield 11, 3) := by decide +kernel
theorem dX5_init_13 : decode cX5_init 13 = .ok (.aload_n 0, 1) := by decide +kernel
theorem dX5_init_14 : decode cX5_init 14 = .ok (.bipush 16, 2) := by decide +kernel
theorem dX5_init_16 : decode cX5_init 16 = .ok (.newarray .int, 2) := by decide +kernel
theorem dX5_init_18 : decode cX5_init 18 = .ok (.putfield 17, 3) := by decide +kernel
theorem dX5_init_21 : decode cX5_init 21 = .ok (.iconst 0, 1) := by decide +kernel
theorem dX5_init_22 : decode cX5_init 22 = .ok (.istore_n 1, 1) := by decide +kernel
theorem dX5_init_23 : decode cX5_init 23 = .ok (.iload_n 1, 1) := by decide +kernel
theorem dX5_init_24 : decode cX5_init 24 = .ok (.bipush 16, 2) := by decide +kernel
theorem dX5_init_26 : decode cX5_init 26 = .ok (.if_icmp .ge 22, 3) := by decide +kernel
theorem dX5_init_29 : decode cX5_init 29 = .ok (.aload_n 0, 1) := by decide +kernel
theorem dX5_init_30 : decode cX5_init 30 = .ok (.getfield 11, 3) := by decide +kernel
theorem dX5_init_33 : decode cX5_init 33 = .ok (.iload_n 1, 1) := by decide +kernel
theorem dX5_init_34 : decode cX5_init 34 = .ok (.new 9, 3) := by decide +kernel
theorem dX5_init_37 : decode cX5_init 37 = .ok (.dup, 1) := by decide +kernel
theorem dX5_init_38 : decode cX5_init 38 = .ok (.invokespecial 21, 3) := by decide +kernel
theorem dX5_init_41 : decode cX5_init 41 = .ok (.aastore, 1) := by decide +kernel
theorem dX5_init_42 : decode cX5_init 42 = .ok (.iinc 1 1, 3) := by decide +kernel
theorem dX5_init_45 : decode cX5_init 45 = .ok (.goto (-22), 3) := by decide +kernel
theorem dX5_init_48 : decode cX5_init 48 = .ok (.return_, 1) := by decide +kernel
theorem dX5_has_0 : decode cX5_has 0 = .ok (.iload_n 1, 1) := by decide +kernel
theorem dX5_has_1 : decode cX5_has 1 = .ok (.ifCond .lt 15, 3) := by decide +kernel
theorem dX5_has_4 : decode cX5_has 4 = .ok (.iload_n 1, 1) := by decide +kernel
theorem dX5_has_5 : decode cX5_has 5 = .ok (.aload_n 0, 1) := by decide +kernel
theorem dX5_has_6 : decode cX5_has 6 = .ok (.getfield 22, 3) := by decide +kernel
theorem dX5_has_9 : decode cX5_has 9 = .ok (.if_icmp .ge 7, 3) := by decide +kernel
theorem dX5_has_12 : decode cX5_has 12 = .ok (.iconst 1, 1) := by decide +kernel
theorem dX5_has_13 : decode cX5_has 13 = .ok (.goto 4, 3) := by decide +kernel
theorem dX5_has_16 : decode cX5_has 16 = .ok (.iconst 0, 1) := by decide +kernel
theorem dX5_has_17 : decode cX5_has 17 = .ok (.ireturn, 1) := by decide +kernel
theorem dX5_add_0 : decode cX5_add 0 = .ok (.aload_n 0, 1) := by decide +kernel
theorem dX5_add_1 : decode cX5_add 1 = .ok (.getfield 22, 3) := by decide +kernel
theorem dX5_add_4 : decode cX5_add 4 = .ok (.bipush 16, 2) := by decide +kernel
theorem dX5_add_6 : decode cX5_add 6 = .ok (.if_icmp .lt 6, 3) := by decide +kernel
theorem dX5_add_9 : decode cX5_add 9 = .ok (.bipush (-4), 2) := by decide +kernel
theorem dX5_add_11 : decode cX5_add 11 = .ok (.ireturn, 1) := by decide +kernel
theorem dX5_add_12 : decode cX5_add 12 = .ok (.aload_n 0, 1) := by decide +kernel
theorem dX5_add_13 : decode cX5_add 13 = .ok (.getfield 11, 3) := by decide +kernel
theorem dX5_add_16 : decode cX5_add 16 = .ok (.aload_n 0, 1) := by decide +kernel
theorem dX5_add_17 : decode cX5_add 17 = .ok (.getfield 22, 3) := by decide +kernel
theorem dX5_add_20 : decode cX5_add 20 = .ok (.aaload, 1) := by decide +kernel
theorem dX5_add_21 : decode cX5_add 21 = .ok (.astore 7, 2) := by decide +kernel
theorem dX5_add_23 : decode cX5_add 23 = .ok (.aload 7, 2) := by decide +kernel
theorem dX5_add_25 : decode cX5_add 25 = .ok (.iload_n 1, 1) := by decide +kernel
theorem dX5_add_26 : decode cX5_add 26 = .ok (.putfield 26, 3) := by decide +kernel
theorem dX5_add_29 : decode cX5_add 29 = .ok (.aload 7, 2) := by decide +kernel
theorem dX5_add_31 : decode cX5_add 31 = .ok (.iload_n 2, 1) := by decide +kernel
theorem dX5_add_32 : decode cX5_add 32 = .ok (.putfield 29, 3) := by decide +kernel
theorem dX5_add_35 : decode cX5_add 35 = .ok (.aload 7, 2) := by decide +kernel
theorem dX5_add_37 : decode cX5_add 37 = .ok (.iload_n 3, 1) := by decide +kernel
theorem dX5_add_38 : decode cX5_add 38 = .ok (.putfield 32, 3) := by decide +kernel
theorem dX5_add_41 : decode cX5_add 41 = .ok (.aload 7, 2) := by decide +kernel
theorem dX5_add_43 : decode cX5_add 43 = .ok (.iload 4, 2) := by decide +kernel
theorem dX5_add_45 : decode cX5_add 45 = .ok (.putfield 35, 3) := by decide +kernel
theorem dX5_add_48 : decode cX5_add 48 = .ok (.aload 7, 2) := by decide +kernel
theorem dX5_add_50 : decode cX5_add 50 = .ok (.iload 5, 2) := by decide +kernel
theorem dX5_add_52 : decode cX5_add 52 = .ok (.putfield 38, 3) := by decide +kernel
theorem dX5_add_55 : decode cX5_add 55 = .ok (.aload 7, 2) := by decide +kernel
theorem dX5_add_57 : decode cX5_add 57 = .ok (.iload 6, 2) := by decide +kernel
theorem dX5_add_59 : decode cX5_add 59 = .ok (.putfield 41, 3) := by decide +kernel
theorem dX5_add_62 : decode cX5_add 62 = .ok (.aload_n 0, 1) := by decide +kernel
theorem dX5_add_63 : decode cX5_add 63 = .ok (.getfield 17, 3) := by decide +kernel
theorem dX5_add_66 : decode cX5_add 66 = .ok (.aload_n 0, 1) := by decide +kernel
theorem dX5_add_67 : decode cX5_add 67 = .ok (.getfield 22, 3) := by decide +kernel
theorem dX5_add_70 : decode cX5_add 70 = .ok (.iload 4, 2) := by decide +kernel
theorem dX5_add_72 : decode cX5_add 72 = .ok (.iastore, 1) := by decide +kernel
theorem dX5_add_73 : decode cX5_add 73 = .ok (.aload_n 0, 1) := by decide +kernel
theorem dX5_add_74 : decode cX5_add 74 = .ok (.dup, 1) := by decide +kernel
theorem dX5_add_75 : decode cX5_add 75 = .ok (.getfield 22, 3) := by decide +kernel
theorem dX5_add_78 : decode cX5_add 78 = .ok (.dup_x1, 1) := by decide +kernel
theorem dX5_add_79 : decode cX5_add 79 = .ok (.iconst 1, 1) := by decide +kernel
theorem dX5_add_80 : decode cX5_add 80 = .ok (.iadd, 1) := by decide +kernel
theorem dX5_add_81 : decode cX5_add 81 = .ok (.putfield 22, 3) := by decide +kernel
theorem dX5_add_84 : decode cX5_add 84 = .ok (.ireturn, 1) := by decide +kernel
theorem dX5_countRows_0 : decode cX5_countRows 0 = .ok (.iconst 1, 1) := by decide +kernel
theorem dX5_countRows_1 : decode cX5_countRows 1 = .ok (.istore_n 1, 1) := by decide +kernel
theorem dX5_countRows_2 : decode cX5_countRows 2 = .ok (.iconst 0, 1) := by decide +kernel
theorem dX5_countRows_3 : decode cX5_countRows 3 = .ok (.istore_n 2, 1) := by decide +kernel
theorem dX5_countRows_4 : decode cX5_countRows 4 = .ok (.iload_n 2, 1) := by decide +kernel
theorem dX5_countRows_5 : decode cX5_countRows 5 = .ok (.aload_n 0, 1) := by decide +kernel
theorem dX5_countRows_6 : decode cX5_countRows 6 = .ok (.getfield 22, 3) := by decide +kernel
theorem dX5_countRows_9 : decode cX5_countRows 9 = .ok (.if_icmp .ge 38, 3) := by decide +kernel
theorem dX5_countRows_12 : decode cX5_countRows 12 = .ok (.aload_n 0, 1) := by decide +kernel
theorem dX5_countRows_13 : decode cX5_countRows 13 = .ok (.getfield 11, 3) := by decide +kernel
theorem dX5_countRows_16 : decode cX5_countRows 16 = .ok (.iload_n 2, 1) := by decide +kernel
theorem dX5_countRows_17 : decode cX5_countRows 17 = .ok (.aaload, 1) := by decide +kernel
theorem dX5_countRows_18 : decode cX5_countRows 18 = .ok (.getfield 44, 3) := by decide +kernel
theorem dX5_countRows_21 : decode cX5_countRows 21 = .ok (.ifCond .ne 20, 3) := by decide +kernel
theorem dX5_countRows_24 : decode cX5_countRows 24 = .ok (.iload_n 1, 1) := by decide +kernel
theorem dX5_countRows_25 : decode cX5_countRows 25 = .ok (.aload_n 0, 1) := by decide +kernel
theorem dX5_countRows_26 : decode cX5_countRows 26 = .ok (.getfield 11, 3) := by decide +kernel
theorem dX5_countRows_29 : decode cX5_countRows 29 = .ok (.iload_n 2, 1) := by decide +kernel
theorem dX5_countRows_30 : decode cX5_countRows 30 = .ok (.aaload, 1) := by decide +kernel
theorem dX5_countRows_31 : decode cX5_countRows 31 = .ok (.invokevirtual 48, 3) := by decide +kernel
theorem dX5_countRows_34 : decode cX5_countRows 34 = .ok (.imul, 1) := by decide +kernel
theorem dX5_countRows_35 : decode cX5_countRows 35 = .ok (.ldc 52, 2) := by decide +kernel
theorem dX5_countRows_37 : decode cX5_countRows 37 = .ok (.invokestatic 53, 3) := by decide +kernel
theorem dX5_countRows_40 : decode cX5_countRows 40 = .ok (.istore_n 1, 1) := by decide +kernel
theorem dX5_countRows_41 : decode cX5_countRows 41 = .ok (.iinc 2 1, 3) := by decide +kernel
theorem dX5_countRows_44 : decode cX5_countRows 44 = .ok (.goto (-40), 3) := by decide +kernel
theorem dX5_countRows_47 : decode cX5_countRows 47 = .ok (.iload_n 1, 1) := by decide +kernel
theorem dX5_countRows_48 : decode cX5_countRows 48 = .ok (.ireturn, 1) := by decide +kernel
theorem dX5_allowsAll_0 : decode cX5_allowsAll 0 = .ok (.iconst 0, 1) := by decide +kernel
theorem dX5_allowsAll_1 : decode cX5_allowsAll 1 = .ok (.istore_n 3, 1) := by decide +kernel
theorem dX5_allowsAll_2 : decode cX5_allowsAll 2 = .ok (.iload_n 3, 1) := by decide +kernel
theorem dX5_allowsAll_3 : decode cX5_allowsAll 3 = .ok (.aload_n 0, 1) := by decide +kernel
theorem dX5_allowsAll_4 : decode cX5_allowsAll 4 = .ok (.getfield 22, 3) := by decide +kernel
theorem dX5_allowsAll_7 : decode cX5_allowsAll 7 = .ok (.if_icmp .ge 28, 3) := by decide +kernel
theorem dX5_allowsAll_10 : decode cX5_allowsAll 10 = .ok (.aload_n 0, 1) := by decide +kernel
theorem dX5_allowsAll_11 : decode cX5_allowsAll 11 = .ok (.getfield 11, 3) := by decide +kernel
theorem dX5_allowsAll_14 : decode cX5_allowsAll 14 = .ok (.iload_n 3, 1) := by decide +kernel
theorem dX5_allowsAll_15 : decode cX5_allowsAll 15 = .ok (.aaload, 1) := by decide +kernel
theorem dX5_allowsAll_16 : decode cX5_allowsAll 16 = .ok (.aload_n 1, 1) := by decide +kernel
theorem dX5_allowsAll_17 : decode cX5_allowsAll 17 = .ok (.iload_n 2, 1) := by decide +kernel
theorem dX5_allowsAll_18 : decode cX5_allowsAll 18 = .ok (.iload_n 3, 1) := by decide +kernel
theorem dX5_allowsAll_19 : decode cX5_allowsAll 19 = .ok (.iadd, 1) := by decide +kernel
theorem dX5_allowsAll_20 : decode cX5_allowsAll 20 = .ok (.iaload, 1) := by decide +kernel
theorem dX5_allowsAll_21 : decode cX5_allowsAll 21 = .ok (.invokevirtual 59, 3) := by decide +kernel
theorem dX5_allowsAll_24 : decode cX5_allowsAll 24 = .ok (.ifCond .ne 5, 3) := by decide +kernel
theorem dX5_allowsAll_27 : decode cX5_allowsAll 27 = .ok (.iconst 0, 1) := by decide +kernel
theorem dX5_allowsAll_28 : decode cX5_allowsAll 28 = .ok (.ireturn, 1) := by decide +kernel
theorem dX5_allowsAll_29 : decode cX5_allowsAll 29 = .ok (.iinc 3 1, 3) := by decide +kernel
theorem dX5_allowsAll_32 : decode cX5_allowsAll 32 = .ok (.goto (-30), 3) := by decide +kernel
theorem dX5_allowsAll_35 : decode cX5_allowsAll 35 = .ok (.iconst 1, 1) := by decide +kernel
theorem dX5_allowsAll_36 : decode cX5_allowsAll 36 = .ok (.ireturn, 1) := by decide +kernel
theorem dX5_movesLocked_0 : decode cX5_movesLocked 0 = .ok (.iconst 0, 1) := by decide +kernel
theorem dX5_movesLocked_1 : decode cX5_movesLocked 1 = .ok (.istore 4, 2) := by decide +kernel
theorem dX5_movesLocked_3 : decode cX5_movesLocked 3 = .ok (.iload 4, 2) := by decide +kernel
theorem dX5_movesLocked_5 : decode cX5_movesLocked 5 = .ok (.iload_n 3, 1) := by decide +kernel
theorem dX5_movesLocked_6 : decode cX5_movesLocked 6 = .ok (.if_icmp .ge 40, 3) := by decide +kernel
theorem dX5_movesLocked_9 : decode cX5_movesLocked 9 = .ok (.aload_n 0, 1) := by decide +kernel
theorem dX5_movesLocked_10 : decode cX5_movesLocked 10 = .ok (.getfield 11, 3) := by decide +kernel
theorem dX5_movesLocked_13 : decode cX5_movesLocked 13 = .ok (.iload 4, 2) := by decide +kernel
theorem dX5_movesLocked_15 : decode cX5_movesLocked 15 = .ok (.aaload, 1) := by decide +kernel
theorem dX5_movesLocked_16 : decode cX5_movesLocked 16 = .ok (.getfield 44, 3) := by decide +kernel
theorem dX5_movesLocked_19 : decode cX5_movesLocked 19 = .ok (.ifCond .eq 21, 3) := by decide +kernel
theorem dX5_movesLocked_22 : decode cX5_movesLocked 22 = .ok (.aload_n 1, 1) := by decide +kernel
theorem dX5_movesLocked_23 : decode cX5_movesLocked 23 = .ok (.iload_n 2, 1) := by decide +kernel
theorem dX5_movesLocked_24 : decode cX5_movesLocked 24 = .ok (.iload 4, 2) := by decide +kernel
theorem dX5_movesLocked_26 : decode cX5_movesLocked 26 = .ok (.iadd, 1) := by decide +kernel
theorem dX5_movesLocked_27 : decode cX5_movesLocked 27 = .ok (.iaload, 1) := by decide +kernel
theorem dX5_movesLocked_28 : decode cX5_movesLocked 28 = .ok (.aload_n 0, 1) := by decide +kernel
theorem dX5_movesLocked_29 : decode cX5_movesLocked 29 = .ok (.getfield 17, 3) := by decide +kernel
theorem dX5_movesLocked_32 : decode cX5_movesLocked 32 = .ok (.iload 4, 2) := by decide +kernel
theorem dX5_movesLocked_34 : decode cX5_movesLocked 34 = .ok (.iaload, 1) := by decide +kernel
theorem dX5_movesLocked_35 : decode cX5_movesLocked 35 = .ok (.if_icmp .eq 5, 3) := by decide +kernel
theorem dX5_movesLocked_38 : decode cX5_movesLocked 38 = .ok (.iconst 1, 1) := by decide +kernel
theorem dX5_movesLocked_39 : decode cX5_movesLocked 39 = .ok (.ireturn, 1) := by decide +kernel
theorem dX5_movesLocked_40 : decode cX5_movesLocked 40 = .ok (.iinc 4 1, 3) := by decide +kernel
theorem dX5_movesLocked_43 : decode cX5_movesLocked 43 = .ok (.goto (-40), 3) := by decide +kernel
theorem dX5_movesLocked_46 : decode cX5_movesLocked 46 = .ok (.iconst 0, 1) := by decide +kernel
theorem dX5_movesLocked_47 : decode cX5_movesLocked 47 = .ok (.ireturn, 1) := by decide +kernel
theorem dX5_countOthers_0 : decode cX5_countOthers 0 = .ok (.iconst 0, 1) := by decide +kernel
theorem dX5_countOthers_1 : decode cX5_countOthers 1 = .ok (.istore_n 3, 1) := by decide +kernel
theorem dX5_countOthers_2 : decode cX5_countOthers 2 = .ok (.iconst 0, 1) := by decide +kernel
theorem dX5_countOthers_3 : decode cX5_countOthers 3 = .ok (.istore 4, 2) := by decide +kernel
theorem dX5_countOthers_5 : decode cX5_countOthers 5 = .ok (.iload 4, 2) := by decide +kernel
theorem dX5_countOthers_7 : decode cX5_countOthers 7 = .ok (.iload_n 2, 1) := by decide +kernel
theorem dX5_countOthers_8 : decode cX5_countOthers 8 = .ok (.if_icmp .ge 26, 3) := by decide +kernel
theorem dX5_countOthers_11 : decode cX5_countOthers 11 = .ok (.aload_n 1, 1) := by decide +kernel
theorem dX5_countOthers_12 : decode cX5_countOthers 12 = .ok (.iload 4, 2) := by decide +kernel
theorem dX5_countOthers_14 : decode cX5_countOthers 14 = .ok (.iaload, 1) := by decide +kernel
theorem dX5_countOthers_15 : decode cX5_countOthers 15 = .ok (.aload_n 0, 1) := by decide +kernel
theorem dX5_countOthers_16 : decode cX5_countOthers 16 = .ok (.getfield 17, 3) := by decide +kernel
theorem dX5_countOthers_19 : decode cX5_countOthers 19 = .ok (.iload 4, 2) := by decide +kernel
theorem dX5_countOthers_21 : decode cX5_countOthers 21 = .ok (.iaload, 1) := by decide +kernel
theorem dX5_countOthers_22 : decode cX5_countOthers 22 = .ok (.if_icmp .eq 6, 3) := by decide +kernel
theorem dX5_countOthers_25 : decode cX5_countOthers 25 = .ok (.iinc 3 1, 3) := by decide +kernel
theorem dX5_countOthers_28 : decode cX5_countOthers 28 = .ok (.iinc 4 1, 3) := by decide +kernel
theorem dX5_countOthers_31 : decode cX5_countOthers 31 = .ok (.goto (-26), 3) := by decide +kernel
theorem dX5_countOthers_34 : decode cX5_countOthers 34 = .ok (.iload_n 3, 1) := by decide +kernel
theorem dX5_countOthers_35 : decode cX5_countOthers 35 = .ok (.ireturn, 1) := by decide +kernel
theorem dX6_init_0 : decode cX6_init 0 = .ok (.aload_n 0, 1) := by decide +kernel
theorem dX6_init_1 : decode cX6_init 1 = .ok (.invokespecial 3, 3) := by decide +kernel
theorem dX6_init_4 : decode cX6_init 4 = .ok (.aload_n 0, 1) := by decide +kernel
theorem dX6_init_5 : decode cX6_init 5 = .ok (.bipush 12, 2) := by decide +kernel
theorem dX6_init_7 : decode cX6_init 7 = .ok (.newarray .int, 2) := by decide +kernel
theorem dX6_init_9 : decode cX6_init 9 = .ok (.putfield 9, 3) := by decide +kernel
theorem dX6_init_12 : decode cX6_init 12 = .ok (.aload_n 0, 1) := by decide +kernel
theorem dX6_init_13 : decode cX6_init 13 = .ok (.bipush (-9), 2) := by decide +kernel
theorem dX6_init_15 : decode cX6_init 15 = .ok (.putfield 15, 3) := by decide +kernel
theorem dX6_init_18 : decode cX6_init 18 = .ok (.aload_n 0, 1) := by decide +kernel
theorem dX6_init_19 : decode cX6_init 19 = .ok (.new 19, 3) := by decide +kernel
theorem dX6_init_22 : decode cX6_init 22 = .ok (.dup, 1) := by decide +kernel
theorem dX6_init_23 : decode cX6_init 23 = .ok (.invokespecial 21, 3) := by decide +kernel
theorem dX6_init_26 : decode cX6_init 26 = .ok (.putfield 22, 3) := by decide +kernel
theorem dX6_init_29 : decode cX6_init 29 = .ok (.aload_n 0, 1) := by decide +kernel
theorem dX6_init_30 : decode cX6_init 30 = .ok (.bipush 16, 2) := by decide +kernel
theorem dX6_init_32 : decode cX6_init 32 = .ok (.newarray .int, 2) := by decide +kernel
theorem dX6_init_34 : decode cX6_init 34 = .ok (.putfield 26, 3) := by decide +kernel
theorem dX6_init_37 : decode cX6_init 37 = .ok (.aload_n 0, 1) := by decide +kernel
theorem dX6_init_38 : decode cX6_init 38 = .ok (.bipush 12, 2) := by decide +kernel
theorem dX6_init_40 : decode cX6_init 40 = .ok (.newarray .int, 2) := by decide +kernel
theorem dX6_init_42 : decode cX6_init 42 = .ok (.putfield 29, 3) := by decide +kernel
theorem dX6_init_45 : decode cX6_init 45 = .ok (.aload_n 0, 1) := by decide +kernel
theorem dX6_init_46 : decode cX6_init 46 = .ok (.bipush 64, 2) := by decide +kernel
theorem dX6_init_48 : decode cX6_init 48 = .ok (.newarray .long, 2) := by decide +kernel
theorem dX6_init_50 : decode cX6_init 50 = .ok (.putfield 32, 3) := by decide +kernel
theorem dX6_init_53 : decode cX6_init 53 = .ok (.return_, 1) := by decide +kernel
theorem dX6_isFound_0 : decode cX6_isFound 0 = .ok (.aload_n 0, 1) := by decide +kernel
theorem dX6_isFound_1 : decode cX6_isFound 1 = .ok (.getfield 15, 3) := by decide +kernel
theorem dX6_isFound_4 : decode cX6_isFound 4 = .ok (.ifCond .lt 7, 3) := by decide +kernel
theorem dX6_isFound_7 : decode cX6_isFound 7 = .ok (.iconst 1, 1) := by decide +kernel
theorem dX6_isFound_8 : decode cX6_isFound 8 = .ok (.goto 4, 3) := by decide +kernel
theorem dX6_isFound_11 : decode cX6_isFound 11 = .ok (.iconst 0, 1) := by decide +kernel
theorem dX6_isFound_12 : decode cX6_isFound 12 = .ok (.ireturn, 1) := by decide +kernel
theorem dX6_drop_0 : decode cX6_drop 0 = .ok (.aload_n 0, 1) := by decide +kernel
theorem dX6_drop_1 : decode cX6_drop 1 = .ok (.bipush (-9), 2) := by decide +kernel
theorem dX6_drop_3 : decode cX6_drop 3 = .ok (.putfield 15, 3) := by decide +kernel
theorem dX6_drop_6 : decode cX6_drop 6 = .ok (.return_, 1) := by decide +kernel
theorem dX6_find_0 : decode cX6_find 0 = .ok (.aload_n 0, 1) := by decide +kernel
theorem dX6_find_1 : decode cX6_find 1 = .ok (.iconst 0, 1) := by decide +kernel
theorem dX6_find_2 : decode cX6_find 2 = .ok (.putfield 36, 3) := by decide +kernel
theorem dX6_find_5 : decode cX6_find 5 = .ok (.iconst 0, 1) := by decide +kernel
theorem dX6_find_6 : decode cX6_find 6 = .ok (.istore_n 3, 1) := by decide +kernel
theorem dX6_find_7 : decode cX6_find 7 = .ok (.iload_n 3, 1) := by decide +kernel
theorem dX6_find_8 : decode cX6_find 8 = .ok (.aload_n 1, 1) := by decide +kernel
theorem dX6_find_9 : decode cX6_find 9 = .ok (.getfield 39, 3) := by decide +kernel
theorem dX6_find_12 : decode cX6_find 12 = .ok (.if_icmp .ge 59, 3) := by decide +kernel
theorem dX6_find_15 : decode cX6_find 15 = .ok (.aload_n 0, 1) := by decide +kernel
theorem dX6_find_16 : decode cX6_find 16 = .ok (.getfield 26, 3) := by decide +kernel
theorem dX6_find_19 : decode cX6_find 19 = .ok (.iload_n 3, 1) := by decide +kernel
theorem dX6_find_20 : decode cX6_find 20 = .ok (.aload_n 1, 1) := by decide +kernel
theorem dX6_find_21 : decode cX6_find 21 = .ok (.getfield 42, 3) := by decide +kernel
theorem dX6_find_24 : decode cX6_find 24 = .ok (.iload_n 3, 1) := by decide +kernel
theorem dX6_find_25 : decode cX6_find 25 = .ok (.iaload, 1) := by decide +kernel
theorem dX6_find_26 : decode cX6_find 26 = .ok (.iastore, 1) := by decide +kernel
theorem dX6_find_27 : decode cX6_find 27 = .ok (.aload_n 2, 1) := by decide +kernel
theorem dX6_find_28 : decode cX6_find 28 = .ok (.iload_n 3, 1) := by decide +kernel
theorem dX6_find_29 : decode cX6_find 29 = .ok (.iaload, 1) := by decide +kernel
theorem dX6_find_30 : decode cX6_find 30 = .ok (.aload_n 0, 1) := by decide +kernel
theorem dX6_find_31 : decode cX6_find 31 = .ok (.getfield 26, 3) := by decide +kernel
theorem dX6_find_34 : decode cX6_find 34 = .ok (.iload_n 3, 1) := by decide +kernel
theorem dX6_find_35 : decode cX6_find 35 = .ok (.iaload, 1) := by decide +kernel
theorem dX6_find_36 : decode cX6_find 36 = .ok (.if_icmp .eq 29, 3) := by decide +kernel
theorem dX6_find_39 : decode cX6_find 39 = .ok (.aload_n 0, 1) := by decide +kernel
theorem dX6_find_40 : decode cX6_find 40 = .ok (.getfield 36, 3) := by decide +kernel
theorem dX6_find_43 : decode cX6_find 43 = .ok (.bipush 12, 2) := by decide +kernel
theorem dX6_find_45 : decode cX6_find 45 = .ok (.if_icmp .ge 20, 3) := by decide +kernel
theorem dX6_find_48 : decode cX6_find 48 = .ok (.aload_n 0, 1) := by decide +kernel
theorem dX6_find_49 : decode cX6_find 49 = .ok (.getfield 29, 3) := by decide +kernel
theorem dX6_find_52 : decode cX6_find 52 = .ok (.aload_n 0, 1) := by decide +kernel
theorem dX6_find_53 : decode cX6_find 53 = .ok (.dup, 1) := by decide +kernel
theorem dX6_find_54 : decode cX6_find 54 = .ok (.getfield 36, 3) := by decide +kernel
theorem dX6_find_57 : decode cX6_find 57 = .ok (.dup_x1, 1) := by decide +kernel
theorem dX6_find_58 : decode cX6_find 58 = .ok (.iconst 1, 1) := by decide +kernel
theorem dX6_find_59 : decode cX6_find 59 = .ok (.iadd, 1) := by decide +kernel
theorem dX6_find_60 : decode cX6_find 60 = .ok (.putfield 36, 3) := by decide +kernel
theorem dX6_find_63 : decode cX6_find 63 = .ok (.iload_n 3, 1) := by decide +kernel
theorem dX6_find_64 : decode cX6_find 64 = .ok (.iastore, 1) := by decide +kernel
theorem dX6_find_65 : decode cX6_find 65 = .ok (.iinc 3 1, 3) := by decide +kernel
theorem dX6_find_68 : decode cX6_find 68 = .ok (.goto (-61), 3) := by decide +kernel
theorem dX6_find_71 : decode cX6_find 71 = .ok (.iconst 0, 1) := by decide +kernel
theorem dX6_find_72 : decode cX6_find 72 = .ok (.istore_n 3, 1) := by decide +kernel
theorem dX6_find_73 : decode cX6_find 73 = .ok (.iload_n 3, 1) := by decide +kernel
theorem dX6_find_74 : decode cX6_find 74 = .ok (.aload_n 0, 1) := by decide +kernel
theorem dX6_find_75 : decode cX6_find 75 = .ok (.getfield 32, 3) := by decide +kernel
theorem dX6_find_78 : decode cX6_find 78 = .ok (.arraylength, 1) := by decide +kernel
theorem dX6_find_79 : decode cX6_find 79 = .ok (.if_icmp .ge 16, 3) := by decide +kernel
theorem dX6_find_82 : decode cX6_find 82 = .ok (.aload_n 0, 1) := by decide +kernel
theorem dX6_find_83 : decode cX6_find 83 = .ok (.getfield 32, 3) := by decide +kernel
theorem dX6_find_86 : decode cX6_find 86 = .ok (.iload_n 3, 1) := by decide +kernel
theorem dX6_find_87 : decode cX6_find 87 = .ok (.lconst 0, 1) := by decide +kernel
theorem dX6_find_88 : decode cX6_find 88 = .ok (.lastore, 1) := by decide +kernel
theorem dX6_find_89 : decode cX6_find 89 = .ok (.iinc 3 1, 3) := by decide +kernel
theorem dX6_find_92 : decode cX6_find 92 = .ok (.goto (-19), 3) := by decide +kernel
theorem dX6_find_95 : decode cX6_find 95 = .ok (.aload_n 0, 1) := by decide +kernel
theorem dX6_find_96 : decode cX6_find 96 = .ok (.aload_n 0, 1) := by decide +kernel
theorem dX6_find_97 : decode cX6_find 97 = .ok (.aload_n 1, 1) := by decide +kernel
theorem dX6_find_98 : decode cX6_find 98 = .ok (.aload_n 2, 1) := by decide +kernel
theorem dX6_find_99 : decode cX6_find 99 = .ok (.iconst 0, 1) := by decide +kernel
theorem dX6_find_100 : decode cX6_find 100 = .ok (.iconst 0, 1) := by decide +kernel
theorem dX6_find_101 : decode cX6_find 101 = .ok (.invokevirtual 45, 3) := by decide +kernel
theorem dX6_find_104 : decode cX6_find 104 = .ok (.ifCond .eq 10, 3) := by decide +kernel
theorem dX6_find_107 : decode cX6_find 107 = .ok (.aload_n 0, 1) := by decide +kernel
theorem dX6_find_108 : decode cX6_find 108 = .ok (.getfield 36, 3) := by decide +kernel
theorem dX6_find_111 : decode cX6_find 111 = .ok (.goto 5, 3) := by decide +kernel
theorem dX6_find_114 : decode cX6_find 114 = .ok (.bipush (-9), 2) := by decide +kernel
theorem dX6_find_116 : decode cX6_find 116 = .ok (.putfield 15, 3) := by decide +kernel
theorem dX6_find_119 : decode cX6_find 119 = .ok (.return_, 1) := by decide +kernel
theorem dX6_reaches_0 : decode cX6_reaches 0 = .ok (.aload_n 0, 1) := by decide +kernel
theorem dX6_reaches_1 : decode cX6_reaches 1 = .ok (.getfield 32, 3) := by decide +kernel
theorem dX6_reaches_4 : decode cX6_reaches 4 = .ok (.iload_n 3, 1) := by decide +kernel
theorem dX6_reaches_5 : decode cX6_reaches 5 = .ok (.bipush 6, 2) := by decide +kernel
theorem dX6_reaches_7 : decode cX6_reaches 7 = .ok (.ishr, 1) := by decide +kernel
theorem dX6_reaches_8 : decode cX6_reaches 8 = .ok (.laload, 1) := by decide +kernel
theorem dX6_reaches_9 : decode cX6_reaches 9 = .ok (.iload_n 3, 1) := by decide +kernel
theorem dX6_reaches_10 : decode cX6_reaches 10 = .ok (.bipush 63, 2) := by decide +kernel
theorem dX6_reaches_12 : decode cX6_reaches 12 = .ok (.iand, 1) := by decide +kernel
theorem dX6_reaches_13 : decode cX6_reaches 13 = .ok (.lshr, 1) := by decide +kernel
theorem dX6_reaches_14 : decode cX6_reaches 14 = .ok (.lconst 1, 1) := by decide +kernel
theorem dX6_reaches_15 : decode cX6_reaches 15 = .ok (.land, 1) := by decide +kernel
theorem dX6_reaches_16 : decode cX6_reaches 16 = .ok (.lconst 0, 1) := by decide +kernel
theorem dX6_reaches_17 : decode cX6_reaches 17 = .ok (.lcmp, 1) := by decide +kernel
theorem dX6_reaches_18 : decode cX6_reaches 18 = .ok (.ifCond .eq 5, 3) := by decide +kernel
theorem dX6_reaches_21 : decode cX6_reaches 21 = .ok (.iconst 0, 1) := by decide +kernel
theorem dX6_reaches_22 : decode cX6_reaches 22 = .ok (.ireturn, 1) := by decide +kernel
theorem dX6_reaches_23 : decode cX6_reaches 23 = .ok (.iload 4, 2) := by decide +kernel
theorem dX6_reaches_25 : decode cX6_reaches 25 = .ok (.ifCond .eq 18, 3) := by decide +kernel
theorem dX6_reaches_28 : decode cX6_reaches 28 = .ok (.aload_n 0, 1) := by decide +kernel
theorem dX6_reaches_29 : decode cX6_reaches 29 = .ok (.getfield 22, 3) := by decide +kernel
theorem dX6_reaches_32 : decode cX6_reaches 32 = .ok (.aload_n 1, 1) := by decide +kernel
theorem dX6_reaches_33 : decode cX6_reaches 33 = .ok (.aload_n 0, 1) := by decide +kernel
theorem dX6_reaches_34 : decode cX6_reaches 34 = .ok (.getfield 26, 3) := by decide +kernel
theorem dX6_reaches_37 : decode cX6_reaches 37 = .ok (.invokevirtual 49, 3) := by decide +kernel
theorem dX6_reaches_40 : decode cX6_reaches 40 = .ok (.ifCond .eq 57, 3) := by decide +kernel
theorem dX6_reaches_43 : decode cX6_reaches 43 = .ok (.iload 4, 2) := by decide +kernel
theorem dX6_reaches_45 : decode cX6_reaches 45 = .ok (.aload_n 0, 1) := by decide +kernel
theorem dX6_reaches_46 : decode cX6_reaches 46 = .ok (.getfield 36, 3) := by decide +kernel
theorem dX6_reaches_49 : decode cX6_reaches 49 = .ok (.if_icmp .lt 5, 3) := by decide +kernel
theorem dX6_reaches_52 : decode cX6_reaches 52 = .ok (.iconst 1, 1) := by decide +kernel
theorem dX6_reaches_53 : decode cX6_reaches 53 = .ok (.ireturn, 1) := by decide +kernel
theorem dX6_reaches_54 : decode cX6_reaches 54 = .ok (.iconst 0, 1) := by decide +kernel
theorem dX6_reaches_55 : decode cX6_reaches 55 = .ok (.istore 5, 2) := by decide +kernel
theorem dX6_reaches_57 : decode cX6_reaches 57 = .ok (.iload 5, 2) := by decide +kernel
theorem dX6_reaches_59 : decode cX6_reaches 59 = .ok (.aload_n 0, 1) := by decide +kernel
theorem dX6_reaches_60 : decode cX6_reaches 60 = .ok (.getfield 36, 3) := by decide +kernel
theorem dX6_reaches_63 : decode cX6_reaches 63 = .ok (.if_icmp .ge 34, 3) := by decide +kernel
theorem dX6_reaches_66 : decode cX6_reaches 66 = .ok (.iload_n 3, 1) := by decide +kernel
theorem dX6_reaches_67 : decode cX6_reaches 67 = .ok (.iload 5, 2) := by decide +kernel
theorem dX6_reaches_69 : decode cX6_reaches 69 = .ok (.ishr, 1) := by decide +kernel
theorem dX6_reaches_70 : decode cX6_reaches 70 = .ok (.iconst 1, 1) := by decide +kernel
theorem dX6_reaches_71 : decode cX6_reaches 71 = .ok (.iand, 1) := by decide +kernel
theorem dX6_reaches_72 : decode cX6_reaches 72 = .ok (.ifCond .ne 19, 3) := by decide +kernel
theorem dX6_reaches_75 : decode cX6_reaches 75 = .ok (.aload_n 0, 1) := by decide +kernel
theorem dX6_reaches_76 : decode cX6_reaches 76 = .ok (.aload_n 1, 1) := by decide +kernel
theorem dX6_reaches_77 : decode cX6_reaches 77 = .ok (.aload_n 2, 1) := by decide +kernel
theorem dX6_reaches_78 : decode cX6_reaches 78 = .ok (.iload_n 3, 1) := by decide +kernel
theorem dX6_reaches_79 : decode cX6_reaches 79 = .ok (.iload 4, 2) := by decide +kernel
theorem dX6_reaches_81 : decode cX6_reaches 81 = .ok (.iload 5, 2) := by decide +kernel
theorem dX6_reaches_83 : decode cX6_reaches 83 = .ok (.invokevirtual 53, 3) := by decide +kernel
theorem dX6_reaches_86 : decode cX6_reaches 86 = .ok (.ifCond .eq 5, 3) := by decide +kernel
theorem dX6_reaches_89 : decode cX6_reaches 89 = .ok (.iconst 1, 1) := by decide +kernel
theorem dX6_reaches_90 : decode cX6_reaches 90 = .ok (.ireturn, 1) := by decide +kernel
theorem dX6_reaches_91 : decode cX6_reaches 91 = .ok (.iinc 5 1, 3) := by decide +kernel
theorem dX6_reaches_94 : decode cX6_reaches 94 = .ok (.goto (-37), 3) := by decide +kernel
theorem dX6_reaches_97 : decode cX6_reaches 97 = .ok (.aload_n 0, 1) := by decide +kernel
theorem dX6_reaches_98 : decode cX6_reaches 98 = .ok (.getfield 32, 3) := by decide +kernel
theorem dX6_reaches_101 : decode cX6_reaches 101 = .ok (.iload_n 3, 1) := by decide +kernel
theorem dX6_reaches_102 : decode cX6_reaches 102 = .ok (.bipush 6, 2) := by decide +kernel
theorem dX6_reaches_104 : decode cX6_reaches 104 = .ok (.ishr, 1) := by decide +kernel
theorem dX6_reaches_105 : decode cX6_reaches 105 = .ok (.dup2, 1) := by decide +kernel
theorem dX6_reaches_106 : decode cX6_reaches 106 = .ok (.laload, 1) := by decide +kernel
theorem dX6_reaches_107 : decode cX6_reaches 107 = .ok (.lconst 1, 1) := by decide +kernel
theorem dX6_reaches_108 : decode cX6_reaches 108 = .ok (.iload_n 3, 1) := by decide +kernel
theorem dX6_reaches_109 : decode cX6_reaches 109 = .ok (.bipush 63, 2) := by decide +kernel
theorem dX6_reaches_111 : decode cX6_reaches 111 = .ok (.iand, 1) := by decide +kernel
theorem dX6_reaches_112 : decode cX6_reaches 112 = .ok (.lshl, 1) := by decide +kernel
theorem dX6_reaches_113 : decode cX6_reaches 113 = .ok (.lor, 1) := by decide +kernel
theorem dX6_reaches_114 : decode cX6_reaches 114 = .ok (.lastore, 1) := by decide +kernel
theorem dX6_reaches_115 : decode cX6_reaches 115 = .ok (.iconst 0, 1) := by decide +kernel
theorem dX6_reaches_116 : decode cX6_reaches 116 = .ok (.ireturn, 1) := by decide +kernel
theorem dX6_reachesBy_0 : decode cX6_reachesBy 0 = .ok (.aload_n 0, 1) := by decide +kernel
theorem dX6_reachesBy_1 : decode cX6_reachesBy 1 = .ok (.getfield 29, 3) := by decide +kernel
theorem dX6_reachesBy_4 : decode cX6_reachesBy 4 = .ok (.iload 5, 2) := by decide +kernel
theorem dX6_reachesBy_6 : decode cX6_reachesBy 6 = .ok (.iaload, 1) := by decide +kernel
theorem dX6_reachesBy_7 : decode cX6_reachesBy 7 = .ok (.istore 6, 2) := by decide +kernel
theorem dX6_reachesBy_9 : decode cX6_reachesBy 9 = .ok (.aload_n 0, 1) := by decide +kernel
theorem dX6_reachesBy_10 : decode cX6_reachesBy 10 = .ok (.getfield 26, 3) := by decide +kernel
theorem dX6_reachesBy_13 : decode cX6_reachesBy 13 = .ok (.iload 6, 2) := by decide +kernel
theorem dX6_reachesBy_15 : decode cX6_reachesBy 15 = .ok (.iaload, 1) := by decide +kernel
theorem dX6_reachesBy_16 : decode cX6_reachesBy 16 = .ok (.istore 7, 2) := by decide +kernel
theorem dX6_reachesBy_18 : decode cX6_reachesBy 18 = .ok (.aload_n 0, 1) := by decide +kernel
theorem dX6_reachesBy_19 : decode cX6_reachesBy 19 = .ok (.getfield 26, 3) := by decide +kernel
theorem dX6_reachesBy_22 : decode cX6_reachesBy 22 = .ok (.iload 6, 2) := by decide +kernel
theorem dX6_reachesBy_24 : decode cX6_reachesBy 24 = .ok (.aload_n 2, 1) := by decide +kernel
theorem dX6_reachesBy_25 : decode cX6_reachesBy 25 = .ok (.iload 6, 2) := by decide +kernel
theorem dX6_reachesBy_27 : decode cX6_reachesBy 27 = .ok (.iaload, 1) := by decide +kernel
theorem dX6_reachesBy_28 : decode cX6_reachesBy 28 = .ok (.iastore, 1) := by decide +kernel
theorem dX6_reachesBy_29 : decode cX6_reachesBy 29 = .ok (.aload_n 0, 1) := by decide +kernel
theorem dX6_reachesBy_30 : decode cX6_reachesBy 30 = .ok (.aload_n 1, 1) := by decide +kernel
theorem dX6_reachesBy_31 : decode cX6_reachesBy 31 = .ok (.aload_n 2, 1) := by decide +kernel
theorem dX6_reachesBy_32 : decode cX6_reachesBy 32 = .ok (.iload_n 3, 1) := by decide +kernel
theorem dX6_reachesBy_33 : decode cX6_reachesBy 33 = .ok (.iconst 1, 1) := by decide +kernel
theorem dX6_reachesBy_34 : decode cX6_reachesBy 34 = .ok (.iload 5, 2) := by decide +kernel
theorem dX6_reachesBy_36 : decode cX6_reachesBy 36 = .ok (.ishl, 1) := by decide +kernel
theorem dX6_reachesBy_37 : decode cX6_reachesBy 37 = .ok (.ior, 1) := by decide +kernel
theorem dX6_reachesBy_38 : decode cX6_reachesBy 38 = .ok (.iload 4, 2) := by decide +kernel
theorem dX6_reachesBy_40 : decode cX6_reachesBy 40 = .ok (.iconst 1, 1) := by decide +kernel
theorem dX6_reachesBy_41 : decode cX6_reachesBy 41 = .ok (.iadd, 1) := by decide +kernel
theorem dX6_reachesBy_42 : decode cX6_reachesBy 42 = .ok (.invokevirtual 45, 3) := by decide +kernel
theorem dX6_reachesBy_45 : decode cX6_reachesBy 45 = .ok (.istore 8, 2) := by decide +kernel
theorem dX6_reachesBy_47 : decode cX6_reachesBy 47 = .ok (.aload_n 0, 1) := by decide +kernel
theorem dX6_reachesBy_48 : decode cX6_reachesBy 48 = .ok (.getfield 26, 3) := by decide +kernel
theorem dX6_reachesBy_51 : decode cX6_reachesBy 51 = .ok (.iload 6, 2) := by decide +kernel
theorem dX6_reachesBy_53 : decode cX6_reachesBy 53 = .ok (.iload 7, 2) := by decide +kernel
theorem dX6_reachesBy_55 : decode cX6_reachesBy 55 = .ok (.iastore, 1) := by decide +kernel
theorem dX6_reachesBy_56 : decode cX6_reachesBy 56 = .ok (.iload 8, 2) := by decide +kernel
theorem dX6_reachesBy_58 : decode cX6_reachesBy 58 = .ok (.ifCond .eq 12, 3) := by decide +kernel
theorem dX6_reachesBy_61 : decode cX6_reachesBy 61 = .ok (.aload_n 0, 1) := by decide +kernel
theorem dX6_reachesBy_62 : decode cX6_reachesBy 62 = .ok (.getfield 9, 3) := by decide +kernel
theorem dX6_reachesBy_65 : decode cX6_reachesBy 65 = .ok (.iload 4, 2) := by decide +kernel
theorem dX6_reachesBy_67 : decode cX6_reachesBy 67 = .ok (.iload 6, 2) := by decide +kernel
theorem dX6_reachesBy_69 : decode cX6_reachesBy 69 = .ok (.iastore, 1) := by decide +kernel
theorem dX6_reachesBy_70 : decode cX6_reachesBy 70 = .ok (.iload 8, 2) := by decide +kernel
theorem dX6_reachesBy_72 : decode cX6_reachesBy 72 = .ok (.ireturn, 1) := by decide +kernel
theorem dX7_init_0 : decode cX7_init 0 = .ok (.aload_n 0, 1) := by decide +kernel
theorem dX7_init_1 : decode cX7_init 1 = .ok (.invokespecial 3, 3) := by decide +kernel
theorem dX7_init_4 : decode cX7_init 4 = .ok (.return_, 1) := by decide +kernel
theorem dX7_missIn_0 : decode cX7_missIn 0 = .ok (.aload_n 0, 1) := by decide +kernel
theorem dX7_missIn_1 : decode cX7_missIn 1 = .ok (.getfield 9, 3) := by decide +kernel
theorem dX7_missIn_4 : decode cX7_missIn 4 = .ok (.iconst 1, 1) := by decide +kernel
theorem dX7_missIn_5 : decode cX7_missIn 5 = .ok (.if_icmp .ne 29, 3) := by decide +kernel
theorem dX7_missIn_8 : decode cX7_missIn 8 = .ok (.aload_n 1, 1) := by decide +kernel
theorem dX7_missIn_9 : decode cX7_missIn 9 = .ok (.aload_n 0, 1) := by decide +kernel
theorem dX7_missIn_10 : decode cX7_missIn 10 = .ok (.getfield 15, 3) := by decide +kernel
theorem dX7_missIn_13 : decode cX7_missIn 13 = .ok (.aload_n 0, 1) := by decide +kernel
theorem dX7_missIn_14 : decode cX7_missIn 14 = .ok (.getfield 18, 3) := by decide +kernel
theorem dX7_missIn_17 : decode cX7_missIn 17 = .ok (.aload_n 0, 1) := by decide +kernel
theorem dX7_missIn_18 : decode cX7_missIn 18 = .ok (.getfield 21, 3) := by decide +kernel
theorem dX7_missIn_21 : decode cX7_missIn 21 = .ok (.invokevirtual 24, 3) := by decide +kernel
theorem dX7_missIn_24 : decode cX7_missIn 24 = .ok (.ifCond .eq 7, 3) := by decide +kernel
theorem dX7_missIn_27 : decode cX7_missIn 27 = .ok (.iconst 0, 1) := by decide +kernel
theorem dX7_missIn_28 : decode cX7_missIn 28 = .ok (.goto 5, 3) := by decide +kernel
theorem dX7_missIn_31 : decode cX7_missIn 31 = .ok (.ldc 30, 2) := by decide +kernel
theorem dX7_missIn_33 : decode cX7_missIn 33 = .ok (.ireturn, 1) := by decide +kernel
theorem dX7_missIn_34 : decode cX7_missIn 34 = .ok (.aload_n 1, 1) := by decide +kernel
theorem dX7_missIn_35 : decode cX7_missIn 35 = .ok (.getfield 31, 3) := by decide +kernel
theorem dX7_missIn_38 : decode cX7_missIn 38 = .ok (.aload_n 0, 1) := by decide +kernel
theorem dX7_missIn_39 : decode cX7_missIn 39 = .ok (.getfield 15, 3) := by decide +kernel
theorem dX7_missIn_42 : decode cX7_missIn 42 = .ok (.laload, 1) := by decide +kernel
theorem dX7_missIn_43 : decode cX7_missIn 43 = .ok (.aload_n 0, 1) := by decide +kernel
theorem dX7_missIn_44 : decode cX7_missIn 44 = .ok (.getfield 18, 3) := by decide +kernel
theorem dX7_missIn_47 : decode cX7_missIn 47 = .ok (.i2l, 1) := by decide +kernel
theorem dX7_missIn_48 : decode cX7_missIn 48 = .ok (.lmul, 1) := by decide +kernel
theorem dX7_missIn_49 : decode cX7_missIn 49 = .ok (.lstore_n 2, 1) := by decide +kernel
theorem dX7_missIn_50 : decode cX7_missIn 50 = .ok (.lload_n 2, 1) := by decide +kernel
theorem dX7_missIn_51 : decode cX7_missIn 51 = .ok (.lconst 0, 1) := by decide +kernel
theorem dX7_missIn_52 : decode cX7_missIn 52 = .ok (.lcmp, 1) := by decide +kernel
theorem dX7_missIn_53 : decode cX7_missIn 53 = .ok (.ifCond .ne 6, 3) := by decide +kernel
theorem dX7_missIn_56 : decode cX7_missIn 56 = .ok (.ldc 30, 2) := by decide +kernel
theorem dX7_missIn_58 : decode cX7_missIn 58 = .ok (.ireturn, 1) := by decide +kernel
theorem dX7_missIn_59 : decode cX7_missIn 59 = .ok (.aload_n 1, 1) := by decide +kernel
theorem dX7_missIn_60 : decode cX7_missIn 60 = .ok (.getfield 35, 3) := by decide +kernel
theorem dX7_missIn_63 : decode cX7_missIn 63 = .ok (.aload_n 0, 1) := by decide +kernel
theorem dX7_missIn_64 : decode cX7_missIn 64 = .ok (.getfield 15, 3) := by decide +kernel
theorem dX7_missIn_67 : decode cX7_missIn 67 = .ok (.laload, 1) := by decide +kernel
theorem dX7_missIn_68 : decode cX7_missIn 68 = .ok (.aload_n 0, 1) := by decide +kernel
theorem dX7_missIn_69 : decode cX7_missIn 69 = .ok (.getfield 21, 3) := by decide +kernel
theorem dX7_missIn_72 : decode cX7_missIn 72 = .ok (.i2l, 1) := by decide +kernel
theorem dX7_missIn_73 : decode cX7_missIn 73 = .ok (.lmul, 1) := by decide +kernel
theorem dX7_missIn_74 : decode cX7_missIn 74 = .ok (.lload_n 2, 1) := by decide +kernel
theorem dX7_missIn_75 : decode cX7_missIn 75 = .ok (.lsub, 1) := by decide +kernel
theorem dX7_missIn_76 : decode cX7_missIn 76 = .ok (.invokestatic 38, 3) := by decide +kernel
theorem dX7_missIn_79 : decode cX7_missIn 79 = .ok (.lstore 4, 2) := by decide +kernel
theorem dX7_missIn_81 : decode cX7_missIn 81 = .ok (.lload 4, 2) := by decide +kernel
theorem dX7_missIn_83 : decode cX7_missIn 83 = .ok (.ldc2_w 44, 3) := by decide +kernel
theorem dX7_missIn_86 : decode cX7_missIn 86 = .ok (.lmul, 1) := by decide +kernel
theorem dX7_missIn_87 : decode cX7_missIn 87 = .ok (.lload_n 2, 1) := by decide +kernel
theorem dX7_missIn_88 : decode cX7_missIn 88 = .ok (.ldiv, 1) := by decide +kernel
theorem dX7_missIn_89 : decode cX7_missIn 89 = .ok (.ldc2_w 46, 3) := by decide +kernel
theorem dX7_missIn_92 : decode cX7_missIn 92 = .ok (.invokestatic 48, 3) := by decide +kernel
theorem dX7_missIn_95 : decode cX7_missIn 95 = .ok (.l2i, 1) := by decide +kernel
theorem dX7_missIn_96 : decode cX7_missIn 96 = .ok (.ireturn, 1) := by decide +kernel
theorem dX7_lastNode_0 : decode cX7_lastNode 0 = .ok (.aload_n 0, 1) := by decide +kernel
theorem dX7_lastNode_1 : decode cX7_lastNode 1 = .ok (.getfield 9, 3) := by decide +kernel
theorem dX7_lastNode_4 : decode cX7_lastNode 4 = .ok (.iconst 1, 1) := by decide +kernel
theorem dX7_lastNode_5 : decode cX7_lastNode 5 = .ok (.if_icmp .ne 17, 3) := by decide +kernel
theorem dX7_lastNode_8 : decode cX7_lastNode 8 = .ok (.aload_n 0, 1) := by decide +kernel
theorem dX7_lastNode_9 : decode cX7_lastNode 9 = .ok (.getfield 15, 3) := by decide +kernel
theorem dX7_lastNode_12 : decode cX7_lastNode 12 = .ok (.aload_n 0, 1) := by decide +kernel
theorem dX7_lastNode_13 : decode cX7_lastNode 13 = .ok (.getfield 18, 3) := by decide +kernel
theorem dX7_lastNode_16 : decode cX7_lastNode 16 = .ok (.invokestatic 52, 3) := by decide +kernel
theorem dX7_lastNode_19 : decode cX7_lastNode 19 = .ok (.goto 7, 3) := by decide +kernel
theorem dX7_lastNode_22 : decode cX7_lastNode 22 = .ok (.aload_n 0, 1) := by decide +kernel
theorem dX7_lastNode_23 : decode cX7_lastNode 23 = .ok (.getfield 15, 3) := by decide +kernel
theorem dX7_lastNode_26 : decode cX7_lastNode 26 = .ok (.ireturn, 1) := by decide +kernel
theorem dX8_init_0 : decode cX8_init 0 = .ok (.aload_n 0, 1) := by decide +kernel
theorem dX8_init_1 : decode cX8_init 1 = .ok (.invokespecial 3, 3) := by decide +kernel
theorem dX8_init_4 : decode cX8_init 4 = .ok (.aload_n 0, 1) := by decide +kernel
theorem dX8_init_5 : decode cX8_init 5 = .ok (.bipush 12, 2) := by decide +kernel
theorem dX8_init_7 : decode cX8_init 7 = .ok (.anewarray 9, 3) := by decide +kernel
theorem dX8_init_10 : decode cX8_init 10 = .ok (.putfield 11, 3) := by decide +kernel
theorem dX8_init_13 : decode cX8_init 13 = .ok (.iconst 0, 1) := by decide +kernel
theorem dX8_init_14 : decode cX8_init 14 = .ok (.istore_n 1, 1) := by decide +kernel
theorem dX8_init_15 : decode cX8_init 15 = .ok (.iload_n 1, 1) := by decide +kernel
theorem dX8_init_16 : decode cX8_init 16 = .ok (.bipush 12, 2) := by decide +kernel
theorem dX8_init_18 : decode cX8_init 18 = .ok (.if_icmp .ge 22, 3) := by decide +kernel
theorem dX8_init_21 : decode cX8_init 21 = .ok (.aload_n 0, 1) := by decide +kernel
theorem dX8_init_22 : decode cX8_init 22 = .ok (.getfield 11, 3) := by decide +kernel
theorem dX8_init_25 : decode cX8_init 25 = .ok (.iload_n 1, 1) := by decide +kernel
theorem dX8_init_26 : decode cX8_init 26 = .ok (.new 9, 3) := by decide +kernel
theorem dX8_init_29 : decode cX8_init 29 = .ok (.dup, 1) := by decide +kernel
theorem dX8_init_30 : decode cX8_init 30 = .ok (.invokespecial 17, 3) := by decide +kernel
theorem dX8_init_33 : decode cX8_init 33 = .ok (.aastore, 1) := by decide +kernel
theorem dX8_init_34 : decode cX8_init 34 = .ok (.iinc 1 1, 3) := by decide +kernel
theorem dX8_init_37 : decode cX8_init 37 = .ok (.goto (-22), 3) := by decide +kernel
theorem dX8_init_40 : decode cX8_init 40 = .ok (.return_, 1) := by decide +kernel
theorem dX8_has_0 : decode cX8_has 0 = .ok (.iload_n 1, 1) := by decide +kernel
theorem dX8_has_1 : decode cX8_has 1 = .ok (.ifCond .lt 15, 3) := by decide +kernel
theorem dX8_has_4 : decode cX8_has 4 = .ok (.iload_n 1, 1) := by decide +kernel
theorem dX8_has_5 : decode cX8_has 5 = .ok (.aload_n 0, 1) := by decide +kernel
theorem dX8_has_6 : decode cX8_has 6 = .ok (.getfield 18, 3) := by decide +kernel
theorem dX8_has_9 : decode cX8_has 9 = .ok (.if_icmp .ge 7, 3) := by decide +kernel
theorem dX8_has_12 : decode cX8_has 12 = .ok (.iconst 1, 1) := by decide +kernel
theorem dX8_has_13 : decode cX8_has 13 = .ok (.goto 4, 3) := by decide +kernel
theorem dX8_has_16 : decode cX8_has 16 = .ok (.iconst 0, 1) := by decide +kernel
theorem dX8_has_17 : decode cX8_has 17 = .ok (.ireturn, 1) := by decide +kernel
theorem dX8_add_0 : decode cX8_add 0 = .ok (.aload_n 0, 1) := by decide +kernel
theorem dX8_add_1 : decode cX8_add 1 = .ok (.getfield 18, 3) := by decide +kernel
theorem dX8_add_4 : decode cX8_add 4 = .ok (.bipush 12, 2) := by decide +kernel
theorem dX8_add_6 : decode cX8_add 6 = .ok (.if_icmp .lt 6, 3) := by decide +kernel
theorem dX8_add_9 : decode cX8_add 9 = .ok (.bipush (-4), 2) := by decide +kernel
theorem dX8_add_11 : decode cX8_add 11 = .ok (.ireturn, 1) := by decide +kernel
theorem dX8_add_12 : decode cX8_add 12 = .ok (.aload_n 0, 1) := by decide +kernel
theorem dX8_add_13 : decode cX8_add 13 = .ok (.getfield 11, 3) := by decide +kernel
theorem dX8_add_16 : decode cX8_add 16 = .ok (.aload_n 0, 1) := by decide +kernel
theorem dX8_add_17 : decode cX8_add 17 = .ok (.getfield 18, 3) := by decide +kernel
theorem dX8_add_20 : decode cX8_add 20 = .ok (.aaload, 1) := by decide +kernel
theorem dX8_add_21 : decode cX8_add 21 = .ok (.astore 7, 2) := by decide +kernel
theorem dX8_add_23 : decode cX8_add 23 = .ok (.aload 7, 2) := by decide +kernel
theorem dX8_add_25 : decode cX8_add 25 = .ok (.iload_n 1, 1) := by decide +kernel
theorem dX8_add_26 : decode cX8_add 26 = .ok (.putfield 22, 3) := by decide +kernel
theorem dX8_add_29 : decode cX8_add 29 = .ok (.aload 7, 2) := by decide +kernel
theorem dX8_add_31 : decode cX8_add 31 = .ok (.iload_n 2, 1) := by decide +kernel
theorem dX8_add_32 : decode cX8_add 32 = .ok (.putfield 25, 3) := by decide +kernel
theorem dX8_add_35 : decode cX8_add 35 = .ok (.aload 7, 2) := by decide +kernel
theorem dX8_add_37 : decode cX8_add 37 = .ok (.iload_n 3, 1) := by decide +kernel
theorem dX8_add_38 : decode cX8_add 38 = .ok (.putfield 28, 3) := by decide +kernel
theorem dX8_add_41 : decode cX8_add 41 = .ok (.aload 7, 2) := by decide +kernel
theorem dX8_add_43 : decode cX8_add 43 = .ok (.iload 4, 2) := by decide +kernel
theorem dX8_add_45 : decode cX8_add 45 = .ok (.putfield 31, 3) := by decide +kernel
theorem dX8_add_48 : decode cX8_add 48 = .ok (.aload 7, 2) := by decide +kernel
theorem dX8_add_50 : decode cX8_add 50 = .ok (.iload 5, 2) := by decide +kernel
theorem dX8_add_52 : decode cX8_add 52 = .ok (.putfield 34, 3) := by decide +kernel
theorem dX8_add_55 : decode cX8_add 55 = .ok (.aload 7, 2) := by decide +kernel
theorem dX8_add_57 : decode cX8_add 57 = .ok (.iload 6, 2) := by decide +kernel
theorem dX8_add_59 : decode cX8_add 59 = .ok (.putfield 37, 3) := by decide +kernel
theorem dX8_add_62 : decode cX8_add 62 = .ok (.aload_n 0, 1) := by decide +kernel
theorem dX8_add_63 : decode cX8_add 63 = .ok (.dup, 1) := by decide +kernel
theorem dX8_add_64 : decode cX8_add 64 = .ok (.getfield 18, 3) := by decide +kernel
theorem dX8_add_67 : decode cX8_add 67 = .ok (.dup_x1, 1) := by decide +kernel
theorem dX8_add_68 : decode cX8_add 68 = .ok (.iconst 1, 1) := by decide +kernel
theorem dX8_add_69 : decode cX8_add 69 = .ok (.iadd, 1) := by decide +kernel
theorem dX8_add_70 : decode cX8_add 70 = .ok (.putfield 18, 3) := by decide +kernel
theorem dX8_add_73 : decode cX8_add 73 = .ok (.ireturn, 1) := by decide +kernel
theorem dX9_init_0 : decode cX9_init 0 = .ok (.aload_n 0, 1) := by decide +kernel
theorem dX9_init_1 : decode cX9_init 1 = .ok (.invokespecial 3, 3) := by decide +kernel
theorem dX9_init_4 : decode cX9_init 4 = .ok (.aload_n 0, 1) := by decide +kernel
theorem dX9_init_5 : decode cX9_init 5 = .ok (.new 9, 3) := by decide +kernel
theorem dX9_init_8 : decode cX9_init 8 = .ok (.dup, 1) := by decide +kernel
theorem dX9_init_9 : decode cX9_init 9 = .ok (.invokespecial 11, 3) := by decide +kernel
theorem dX9_init_12 : decode cX9_init 12 = .ok (.putfield 12, 3) := by decide +kernel
theorem dX9_init_15 : decode cX9_init 15 = .ok (.aload_n 0, 1) := by decide +kernel
theorem dX9_init_16 : decode cX9_init 16 = .ok (.new 18, 3) := by decide +kernel
theorem dX9_init_19 : decode cX9_init 19 = .ok (.dup, 1) := by decide +kernel
theorem dX9_init_20 : decode cX9_init 20 = .ok (.invokespecial 20, 3) := by decide +kernel
theorem dX9_init_23 : decode cX9_init 23 = .ok (.putfield 21, 3) := by decide +kernel
theorem dX9_init_26 : decode cX9_init 26 = .ok (.aload_n 0, 1) := by decide +kernel
theorem dX9_init_27 : decode cX9_init 27 = .ok (.new 25, 3) := by decide +kernel
theorem dX9_init_30 : decode cX9_init 30 = .ok (.dup, 1) := by decide +kernel
theorem dX9_init_31 : decode cX9_init 31 = .ok (.invokespecial 27, 3) := by decide +kernel
theorem dX9_init_34 : decode cX9_init 34 = .ok (.putfield 28, 3) := by decide +kernel
theorem dX9_init_37 : decode cX9_init 37 = .ok (.aload_n 0, 1) := by decide +kernel
theorem dX9_init_38 : decode cX9_init 38 = .ok (.new 32, 3) := by decide +kernel
theorem dX9_init_41 : decode cX9_init 41 = .ok (.dup, 1) := by decide +kernel
theorem dX9_init_42 : decode cX9_init 42 = .ok (.invokespecial 34, 3) := by decide +kernel
theorem dX9_init_45 : decode cX9_init 45 = .ok (.putfield 35, 3) := by decide +kernel
theorem dX9_init_48 : decode cX9_init 48 = .ok (.aload_n 0, 1) := by decide +kernel
theorem dX9_init_49 : decode cX9_init 49 = .ok (.new 39, 3) := by decide +kernel
theorem dX9_init_52 : decode cX9_init 52 = .ok (.dup, 1) := by decide +kernel
theorem dX9_init_53 : decode cX9_init 53 = .ok (.invokespecial 41, 3) := by decide +kernel
theorem dX9_init_56 : decode cX9_init 56 = .ok (.putfield 42, 3) := by decide +kernel
theorem dX9_init_59 : decode cX9_init 59 = .ok (.aload_n 0, 1) := by decide +kernel
theorem dX9_init_60 : decode cX9_init 60 = .ok (.new 46, 3) := by decide +kernel
theorem dX9_init_63 : decode cX9_init 63 = .ok (.dup, 1) := by decide +kernel
theorem dX9_init_64 : decode cX9_init 64 = .ok (.invokespecial 48, 3) := by decide +kernel
theorem dX9_init_67 : decode cX9_init 67 = .ok (.putfield 49, 3) := by decide +kernel
theorem dX9_init_70 : decode cX9_init 70 = .ok (.aload_n 0, 1) := by decide +kernel
theorem dX9_init_71 : decode cX9_init 71 = .ok (.iconst 4, 1) := by decide +kernel
theorem dX9_init_72 : decode cX9_init 72 = .ok (.anewarray 53, 3) := by decide +kernel
theorem dX9_init_75 : decode cX9_init 75 = .ok (.putfield 55, 3) := by decide +kernel
theorem dX9_init_78 : decode cX9_init 78 = .ok (.iconst 0, 1) := by decide +kernel
theorem dX9_init_79 : decode cX9_init 79 = .ok (.istore_n 1, 1) := by decide +kernel
theorem dX9_init_80 : decode cX9_init 80 = .ok (.iload_n 1, 1) := by decide +kernel
theorem dX9_init_81 : decode cX9_init 81 = .ok (.iconst 4, 1) := by decide +kernel
theorem dX9_init_82 : decode cX9_init 82 = .ok (.if_icmp .ge 22, 3) := by decide +kernel
theorem dX9_init_85 : decode cX9_init 85 = .ok (.aload_n 0, 1) := by decide +kernel
theorem dX9_init_86 : decode cX9_init 86 = .ok (.getfield 55, 3) := by decide +kernel
theorem dX9_init_89 : decode cX9_init 89 = .ok (.iload_n 1, 1) := by decide +kernel
theorem dX9_init_90 : decode cX9_init 90 = .ok (.new 53, 3) := by decide +kernel
theorem dX9_init_93 : decode cX9_init 93 = .ok (.dup, 1) := by decide +kernel
theorem dX9_init_94 : decode cX9_init 94 = .ok (.invokespecial 59, 3) := by decide +kernel
theorem dX9_init_97 : decode cX9_init 97 = .ok (.aastore, 1) := by decide +kernel
theorem dX9_init_98 : decode cX9_init 98 = .ok (.iinc 1 1, 3) := by decide +kernel
theorem dX9_init_101 : decode cX9_init 101 = .ok (.goto (-21), 3) := by decide +kernel
theorem dX9_init_104 : decode cX9_init 104 = .ok (.return_, 1) := by decide +kernel
theorem dX9_source_0 : decode cX9_source 0 = .ok (.iload_n 1, 1) := by decide +kernel
theorem dX9_source_1 : decode cX9_source 1 = .ok (.iconst 1, 1) := by decide +kernel
theorem dX9_source_2 : decode cX9_source 2 = .ok (.ldc 60, 2) := by decide +kernel
theorem dX9_source_4 : decode cX9_source 4 = .ok (.invokestatic 61, 3) := by decide +kernel
theorem dX9_source_7 : decode cX9_source 7 = .ok (.ifCond .ne 6, 3) := by decide +kernel
theorem dX9_source_10 : decode cX9_source 10 = .ok (.bipush (-2), 2) := by decide +kernel
theorem dX9_source_12 : decode cX9_source 12 = .ok (.ireturn, 1) := by decide +kernel
theorem dX9_source_13 : decode cX9_source 13 = .ok (.aload_n 0, 1) := by decide +kernel
theorem dX9_source_14 : decode cX9_source 14 = .ok (.iconst 0, 1) := by decide +kernel
theorem dX9_source_15 : decode cX9_source 15 = .ok (.bipush (-9), 2) := by decide +kernel
theorem dX9_source_17 : decode cX9_source 17 = .ok (.bipush (-9), 2) := by decide +kernel
theorem dX9_source_19 : decode cX9_source 19 = .ok (.iconst 0, 1) := by decide +kernel
theorem dX9_source_20 : decode cX9_source 20 = .ok (.iconst 0, 1) := by decide +kernel
theorem dX9_source_21 : decode cX9_source 21 = .ok (.iload_n 1, 1) := by decide +kernel
theorem dX9_source_22 : decode cX9_source 22 = .ok (.invokevirtual 65, 3) := by decide +kernel
theorem dX9_source_25 : decode cX9_source 25 = .ok (.ireturn, 1) := by decide +kernel
theorem dX9_stage_0 : decode cX9_stage 0 = .ok (.aload_n 0, 1) := by decide +kernel
theorem dX9_stage_1 : decode cX9_stage 1 = .ok (.getfield 12, 3) := by decide +kernel
theorem dX9_stage_4 : decode cX9_stage 4 = .ok (.iload_n 2, 1) := by decide +kernel
theorem dX9_stage_5 : decode cX9_stage 5 = .ok (.invokevirtual 69, 3) := by decide +kernel
theorem dX9_stage_8 : decode cX9_stage 8 = .ok (.ifCond .ne 5, 3) := by decide +kernel
theorem dX9_stage_11 : decode cX9_stage 11 = .ok (.iconst (-1), 1) := by decide +kernel
theorem dX9_stage_12 : decode cX9_stage 12 = .ok (.ireturn, 1) := by decide +kernel
theorem dX9_stage_13 : decode cX9_stage 13 = .ok (.iload_n 1, 1) := by decide +kernel
theorem dX9_stage_14 : decode cX9_stage 14 = .ok (.iconst 1, 1) := by decide +kernel
theorem dX9_stage_15 : decode cX9_stage 15 = .ok (.if_icmp .eq 11, 3) := by decide +kernel
theorem dX9_stage_18 : decode cX9_stage 18 = .ok (.iload_n 1, 1) := by decide +kernel
theorem dX9_stage_19 : decode cX9_stage 19 = .ok (.iconst 2, 1) := by decide +kernel
theorem dX9_stage_20 : decode cX9_stage 20 = .ok (.if_icmp .eq 6, 3) := by decide +kernel
theorem dX9_stage_23 : decode cX9_stage 23 = .ok (.bipush (-2), 2) := by decide +kernel
theorem dX9_stage_25 : decode cX9_stage 25 = .ok (.ireturn, 1) := by decide +kernel
theorem dX9_stage_26 : decode cX9_stage 26 = .ok (.iload_n 3, 1) := by decide +kernel
theorem dX9_stage_27 : decode cX9_stage 27 = .ok (.iconst 1, 1) := by decide +kernel
theorem dX9_stage_28 : decode cX9_stage 28 = .ok (.bipush 64, 2) := by decide +kernel
theorem dX9_stage_30 : decode cX9_stage 30 = .ok (.invokestatic 61, 3) := by decide +kernel
theorem dX9_stage_33 : decode cX9_stage 33 = .ok (.ifCond .eq 14, 3) := by decide +kernel
theorem dX9_stage_36 : decode cX9_stage 36 = .ok (.iload 4, 2) := by decide +kernel
