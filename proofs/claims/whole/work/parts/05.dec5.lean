theorem dX10_set_1 : decode cX10_set 1 = .ok (.iload_n 1, 1) := by decide +kernel
theorem dX10_set_2 : decode cX10_set 2 = .ok (.invokevirtual 124, 3) := by decide +kernel
theorem dX10_set_5 : decode cX10_set 5 = .ok (.ifCond .eq 5, 3) := by decide +kernel
theorem dX10_set_8 : decode cX10_set 8 = .ok (.iconst (-1), 1) := by decide +kernel
theorem dX10_set_9 : decode cX10_set 9 = .ok (.ireturn, 1) := by decide +kernel
theorem dX10_set_10 : decode cX10_set 10 = .ok (.iload_n 2, 1) := by decide +kernel
theorem dX10_set_11 : decode cX10_set 11 = .ok (.i2l, 1) := by decide +kernel
theorem dX10_set_12 : decode cX10_set 12 = .ok (.aload_n 0, 1) := by decide +kernel
theorem dX10_set_13 : decode cX10_set 13 = .ok (.getfield 19, 3) := by decide +kernel
theorem dX10_set_16 : decode cX10_set 16 = .ok (.iload_n 1, 1) := by decide +kernel
theorem dX10_set_17 : decode cX10_set 17 = .ok (.iaload, 1) := by decide +kernel
theorem dX10_set_18 : decode cX10_set 18 = .ok (.i2l, 1) := by decide +kernel
theorem dX10_set_19 : decode cX10_set 19 = .ok (.aload_n 0, 1) := by decide +kernel
theorem dX10_set_20 : decode cX10_set 20 = .ok (.getfield 22, 3) := by decide +kernel
theorem dX10_set_23 : decode cX10_set 23 = .ok (.iload_n 1, 1) := by decide +kernel
theorem dX10_set_24 : decode cX10_set 24 = .ok (.iaload, 1) := by decide +kernel
theorem dX10_set_25 : decode cX10_set 25 = .ok (.i2l, 1) := by decide +kernel
theorem dX10_set_26 : decode cX10_set 26 = .ok (.invokestatic 112, 3) := by decide +kernel
theorem dX10_set_29 : decode cX10_set 29 = .ok (.ifCond .ne 6, 3) := by decide +kernel
theorem dX10_set_32 : decode cX10_set 32 = .ok (.bipush (-2), 2) := by decide +kernel
theorem dX10_set_34 : decode cX10_set 34 = .ok (.ireturn, 1) := by decide +kernel
theorem dX10_set_35 : decode cX10_set 35 = .ok (.aload_n 0, 1) := by decide +kernel
theorem dX10_set_36 : decode cX10_set 36 = .ok (.getfield 28, 3) := by decide +kernel
theorem dX10_set_39 : decode cX10_set 39 = .ok (.iload_n 1, 1) := by decide +kernel
theorem dX10_set_40 : decode cX10_set 40 = .ok (.baload, 1) := by decide +kernel
theorem dX10_set_41 : decode cX10_set 41 = .ok (.ifCond .eq 6, 3) := by decide +kernel
theorem dX10_set_44 : decode cX10_set 44 = .ok (.bipush (-3), 2) := by decide +kernel
theorem dX10_set_46 : decode cX10_set 46 = .ok (.ireturn, 1) := by decide +kernel
theorem dX10_set_47 : decode cX10_set 47 = .ok (.aload_n 0, 1) := by decide +kernel
theorem dX10_set_48 : decode cX10_set 48 = .ok (.getfield 25, 3) := by decide +kernel
theorem dX10_set_51 : decode cX10_set 51 = .ok (.iload_n 1, 1) := by decide +kernel
theorem dX10_set_52 : decode cX10_set 52 = .ok (.iaload, 1) := by decide +kernel
theorem dX10_set_53 : decode cX10_set 53 = .ok (.istore_n 3, 1) := by decide +kernel
theorem dX10_set_54 : decode cX10_set 54 = .ok (.aload_n 0, 1) := by decide +kernel
theorem dX10_set_55 : decode cX10_set 55 = .ok (.getfield 25, 3) := by decide +kernel
theorem dX10_set_58 : decode cX10_set 58 = .ok (.iload_n 1, 1) := by decide +kernel
theorem dX10_set_59 : decode cX10_set 59 = .ok (.iload_n 2, 1) := by decide +kernel
theorem dX10_set_60 : decode cX10_set 60 = .ok (.iastore, 1) := by decide +kernel
theorem dX10_set_61 : decode cX10_set 61 = .ok (.aload_n 0, 1) := by decide +kernel
theorem dX10_set_62 : decode cX10_set 62 = .ok (.bipush (-9), 2) := by decide +kernel
theorem dX10_set_64 : decode cX10_set 64 = .ok (.putfield 97, 3) := by decide +kernel
theorem dX10_set_67 : decode cX10_set 67 = .ok (.iload_n 3, 1) := by decide +kernel
theorem dX10_set_68 : decode cX10_set 68 = .ok (.ireturn, 1) := by decide +kernel
theorem dX10_lock_0 : decode cX10_lock 0 = .ok (.aload_n 0, 1) := by decide +kernel
theorem dX10_lock_1 : decode cX10_lock 1 = .ok (.iload_n 1, 1) := by decide +kernel
theorem dX10_lock_2 : decode cX10_lock 2 = .ok (.invokevirtual 124, 3) := by decide +kernel
theorem dX10_lock_5 : decode cX10_lock 5 = .ok (.ifCond .eq 5, 3) := by decide +kernel
theorem dX10_lock_8 : decode cX10_lock 8 = .ok (.iconst (-1), 1) := by decide +kernel
theorem dX10_lock_9 : decode cX10_lock 9 = .ok (.ireturn, 1) := by decide +kernel
theorem dX10_lock_10 : decode cX10_lock 10 = .ok (.aload_n 0, 1) := by decide +kernel
theorem dX10_lock_11 : decode cX10_lock 11 = .ok (.getfield 28, 3) := by decide +kernel
theorem dX10_lock_14 : decode cX10_lock 14 = .ok (.iload_n 1, 1) := by decide +kernel
theorem dX10_lock_15 : decode cX10_lock 15 = .ok (.baload, 1) := by decide +kernel
theorem dX10_lock_16 : decode cX10_lock 16 = .ok (.iload_n 2, 1) := by decide +kernel
theorem dX10_lock_17 : decode cX10_lock 17 = .ok (.if_icmp .eq 7, 3) := by decide +kernel
theorem dX10_lock_20 : decode cX10_lock 20 = .ok (.iconst 1, 1) := by decide +kernel
theorem dX10_lock_21 : decode cX10_lock 21 = .ok (.goto 4, 3) := by decide +kernel
theorem dX10_lock_24 : decode cX10_lock 24 = .ok (.iconst 0, 1) := by decide +kernel
theorem dX10_lock_25 : decode cX10_lock 25 = .ok (.istore_n 3, 1) := by decide +kernel
theorem dX10_lock_26 : decode cX10_lock 26 = .ok (.aload_n 0, 1) := by decide +kernel
theorem dX10_lock_27 : decode cX10_lock 27 = .ok (.getfield 28, 3) := by decide +kernel
theorem dX10_lock_30 : decode cX10_lock 30 = .ok (.iload_n 1, 1) := by decide +kernel
theorem dX10_lock_31 : decode cX10_lock 31 = .ok (.iload_n 2, 1) := by decide +kernel
theorem dX10_lock_32 : decode cX10_lock 32 = .ok (.bastore, 1) := by decide +kernel
theorem dX10_lock_33 : decode cX10_lock 33 = .ok (.aload_n 0, 1) := by decide +kernel
theorem dX10_lock_34 : decode cX10_lock 34 = .ok (.bipush (-9), 2) := by decide +kernel
theorem dX10_lock_36 : decode cX10_lock 36 = .ok (.putfield 97, 3) := by decide +kernel
theorem dX10_lock_39 : decode cX10_lock 39 = .ok (.iload_n 3, 1) := by decide +kernel
theorem dX10_lock_40 : decode cX10_lock 40 = .ok (.ifCond .eq 7, 3) := by decide +kernel
theorem dX10_lock_43 : decode cX10_lock 43 = .ok (.iconst 1, 1) := by decide +kernel
theorem dX10_lock_44 : decode cX10_lock 44 = .ok (.goto 4, 3) := by decide +kernel
theorem dX10_lock_47 : decode cX10_lock 47 = .ok (.iconst 0, 1) := by decide +kernel
theorem dX10_lock_48 : decode cX10_lock 48 = .ok (.ireturn, 1) := by decide +kernel
theorem dX10_become_0 : decode cX10_become 0 = .ok (.lload_n 2, 1) := by decide +kernel
theorem dX10_become_1 : decode cX10_become 1 = .ok (.lload 4, 2) := by decide +kernel
theorem dX10_become_3 : decode cX10_become 3 = .ok (.invokestatic 132, 3) := by decide +kernel
theorem dX10_become_6 : decode cX10_become 6 = .ok (.lstore 6, 2) := by decide +kernel
theorem dX10_become_8 : decode cX10_become 8 = .ok (.aload_n 0, 1) := by decide +kernel
theorem dX10_become_9 : decode cX10_become 9 = .ok (.getfield 42, 3) := by decide +kernel
theorem dX10_become_12 : decode cX10_become 12 = .ok (.iload_n 1, 1) := by decide +kernel
theorem dX10_become_13 : decode cX10_become 13 = .ok (.lload_n 2, 1) := by decide +kernel
theorem dX10_become_14 : decode cX10_become 14 = .ok (.lload 6, 2) := by decide +kernel
theorem dX10_become_16 : decode cX10_become 16 = .ok (.ldiv, 1) := by decide +kernel
theorem dX10_become_17 : decode cX10_become 17 = .ok (.lastore, 1) := by decide +kernel
theorem dX10_become_18 : decode cX10_become 18 = .ok (.aload_n 0, 1) := by decide +kernel
theorem dX10_become_19 : decode cX10_become 19 = .ok (.getfield 45, 3) := by decide +kernel
theorem dX10_become_22 : decode cX10_become 22 = .ok (.iload_n 1, 1) := by decide +kernel
theorem dX10_become_23 : decode cX10_become 23 = .ok (.lload 4, 2) := by decide +kernel
theorem dX10_become_25 : decode cX10_become 25 = .ok (.lload 6, 2) := by decide +kernel
theorem dX10_become_27 : decode cX10_become 27 = .ok (.ldiv, 1) := by decide +kernel
theorem dX10_become_28 : decode cX10_become 28 = .ok (.lastore, 1) := by decide +kernel
theorem dX10_become_29 : decode cX10_become 29 = .ok (.aload_n 0, 1) := by decide +kernel
theorem dX10_become_30 : decode cX10_become 30 = .ok (.getfield 42, 3) := by decide +kernel
theorem dX10_become_33 : decode cX10_become 33 = .ok (.iload_n 1, 1) := by decide +kernel
theorem dX10_become_34 : decode cX10_become 34 = .ok (.laload, 1) := by decide +kernel
theorem dX10_become_35 : decode cX10_become 35 = .ok (.ldc2_w 116, 3) := by decide +kernel
theorem dX10_become_38 : decode cX10_become 38 = .ok (.lcmp, 1) := by decide +kernel
theorem dX10_become_39 : decode cX10_become 39 = .ok (.ifCond .gt 16, 3) := by decide +kernel
theorem dX10_become_42 : decode cX10_become 42 = .ok (.aload_n 0, 1) := by decide +kernel
theorem dX10_become_43 : decode cX10_become 43 = .ok (.getfield 45, 3) := by decide +kernel
theorem dX10_become_46 : decode cX10_become 46 = .ok (.iload_n 1, 1) := by decide +kernel
theorem dX10_become_47 : decode cX10_become 47 = .ok (.laload, 1) := by decide +kernel
theorem dX10_become_48 : decode cX10_become 48 = .ok (.ldc2_w 116, 3) := by decide +kernel
theorem dX10_become_51 : decode cX10_become 51 = .ok (.lcmp, 1) := by decide +kernel
theorem dX10_become_52 : decode cX10_become 52 = .ok (.ifCond .le 10, 3) := by decide +kernel
theorem dX10_become_55 : decode cX10_become 55 = .ok (.aload_n 0, 1) := by decide +kernel
theorem dX10_become_56 : decode cX10_become 56 = .ok (.getfield 45, 3) := by decide +kernel
theorem dX10_become_59 : decode cX10_become 59 = .ok (.iload_n 1, 1) := by decide +kernel
theorem dX10_become_60 : decode cX10_become 60 = .ok (.lconst 0, 1) := by decide +kernel
theorem dX10_become_61 : decode cX10_become 61 = .ok (.lastore, 1) := by decide +kernel
theorem dX10_become_62 : decode cX10_become 62 = .ok (.return_, 1) := by decide +kernel
theorem dX10_follow_0 : decode cX10_follow 0 = .ok (.aload_n 0, 1) := by decide +kernel
theorem dX10_follow_1 : decode cX10_follow 1 = .ok (.getfield 42, 3) := by decide +kernel
theorem dX10_follow_4 : decode cX10_follow 4 = .ok (.iload_n 1, 1) := by decide +kernel
theorem dX10_follow_5 : decode cX10_follow 5 = .ok (.aload_n 0, 1) := by decide +kernel
theorem dX10_follow_6 : decode cX10_follow 6 = .ok (.getfield 42, 3) := by decide +kernel
theorem dX10_follow_9 : decode cX10_follow 9 = .ok (.iload_n 2, 1) := by decide +kernel
theorem dX10_follow_10 : decode cX10_follow 10 = .ok (.laload, 1) := by decide +kernel
theorem dX10_follow_11 : decode cX10_follow 11 = .ok (.lastore, 1) := by decide +kernel
theorem dX10_follow_12 : decode cX10_follow 12 = .ok (.aload_n 0, 1) := by decide +kernel
theorem dX10_follow_13 : decode cX10_follow 13 = .ok (.getfield 45, 3) := by decide +kernel
theorem dX10_follow_16 : decode cX10_follow 16 = .ok (.iload_n 1, 1) := by decide +kernel
theorem dX10_follow_17 : decode cX10_follow 17 = .ok (.aload_n 0, 1) := by decide +kernel
theorem dX10_follow_18 : decode cX10_follow 18 = .ok (.getfield 45, 3) := by decide +kernel
theorem dX10_follow_21 : decode cX10_follow 21 = .ok (.iload_n 2, 1) := by decide +kernel
theorem dX10_follow_22 : decode cX10_follow 22 = .ok (.laload, 1) := by decide +kernel
theorem dX10_follow_23 : decode cX10_follow 23 = .ok (.lastore, 1) := by decide +kernel
theorem dX10_follow_24 : decode cX10_follow 24 = .ok (.return_, 1) := by decide +kernel
theorem dX10_work_0 : decode cX10_work 0 = .ok (.aload_n 0, 1) := by decide +kernel
theorem dX10_work_1 : decode cX10_work 1 = .ok (.getfield 7, 3) := by decide +kernel
theorem dX10_work_4 : decode cX10_work 4 = .ok (.iload_n 1, 1) := by decide +kernel
theorem dX10_work_5 : decode cX10_work 5 = .ok (.iaload, 1) := by decide +kernel
theorem dX10_work_6 : decode cX10_work 6 = .ok (.istore_n 2, 1) := by decide +kernel
theorem dX10_work_7 : decode cX10_work 7 = .ok (.aload_n 0, 1) := by decide +kernel
theorem dX10_work_8 : decode cX10_work 8 = .ok (.getfield 13, 3) := by decide +kernel
theorem dX10_work_11 : decode cX10_work 11 = .ok (.iload_n 1, 1) := by decide +kernel
theorem dX10_work_12 : decode cX10_work 12 = .ok (.iaload, 1) := by decide +kernel
theorem dX10_work_13 : decode cX10_work 13 = .ok (.istore_n 3, 1) := by decide +kernel
theorem dX10_work_14 : decode cX10_work 14 = .ok (.iload_n 2, 1) := by decide +kernel
theorem dX10_work_15 : decode cX10_work 15 = .ok (.ifCond .ne 21, 3) := by decide +kernel
theorem dX10_work_18 : decode cX10_work 18 = .ok (.aload_n 0, 1) := by decide +kernel
theorem dX10_work_19 : decode cX10_work 19 = .ok (.getfield 42, 3) := by decide +kernel
theorem dX10_work_22 : decode cX10_work 22 = .ok (.iload_n 1, 1) := by decide +kernel
theorem dX10_work_23 : decode cX10_work 23 = .ok (.iload_n 3, 1) := by decide +kernel
theorem dX10_work_24 : decode cX10_work 24 = .ok (.i2l, 1) := by decide +kernel
theorem dX10_work_25 : decode cX10_work 25 = .ok (.lastore, 1) := by decide +kernel
theorem dX10_work_26 : decode cX10_work 26 = .ok (.aload_n 0, 1) := by decide +kernel
theorem dX10_work_27 : decode cX10_work 27 = .ok (.getfield 45, 3) := by decide +kernel
theorem dX10_work_30 : decode cX10_work 30 = .ok (.iload_n 1, 1) := by decide +kernel
theorem dX10_work_31 : decode cX10_work 31 = .ok (.lconst 1, 1) := by decide +kernel
theorem dX10_work_32 : decode cX10_work 32 = .ok (.lastore, 1) := by decide +kernel
theorem dX10_work_33 : decode cX10_work 33 = .ok (.goto 146, 3) := by decide +kernel
theorem dX10_work_36 : decode cX10_work 36 = .ok (.iload_n 2, 1) := by decide +kernel
theorem dX10_work_37 : decode cX10_work 37 = .ok (.iconst 4, 1) := by decide +kernel
theorem dX10_work_38 : decode cX10_work 38 = .ok (.if_icmp .ne 29, 3) := by decide +kernel
theorem dX10_work_41 : decode cX10_work 41 = .ok (.aload_n 0, 1) := by decide +kernel
theorem dX10_work_42 : decode cX10_work 42 = .ok (.getfield 39, 3) := by decide +kernel
theorem dX10_work_45 : decode cX10_work 45 = .ok (.iload_n 1, 1) := by decide +kernel
theorem dX10_work_46 : decode cX10_work 46 = .ok (.iaload, 1) := by decide +kernel
theorem dX10_work_47 : decode cX10_work 47 = .ok (.ifCond .ne 20, 3) := by decide +kernel
theorem dX10_work_50 : decode cX10_work 50 = .ok (.aload_n 0, 1) := by decide +kernel
theorem dX10_work_51 : decode cX10_work 51 = .ok (.getfield 42, 3) := by decide +kernel
theorem dX10_work_54 : decode cX10_work 54 = .ok (.iload_n 1, 1) := by decide +kernel
theorem dX10_work_55 : decode cX10_work 55 = .ok (.lconst 0, 1) := by decide +kernel
theorem dX10_work_56 : decode cX10_work 56 = .ok (.lastore, 1) := by decide +kernel
theorem dX10_work_57 : decode cX10_work 57 = .ok (.aload_n 0, 1) := by decide +kernel
theorem dX10_work_58 : decode cX10_work 58 = .ok (.getfield 45, 3) := by decide +kernel
theorem dX10_work_61 : decode cX10_work 61 = .ok (.iload_n 1, 1) := by decide +kernel
theorem dX10_work_62 : decode cX10_work 62 = .ok (.lconst 1, 1) := by decide +kernel
theorem dX10_work_63 : decode cX10_work 63 = .ok (.lastore, 1) := by decide +kernel
theorem dX10_work_64 : decode cX10_work 64 = .ok (.goto 115, 3) := by decide +kernel
theorem dX10_work_67 : decode cX10_work 67 = .ok (.iload_n 2, 1) := by decide +kernel
theorem dX10_work_68 : decode cX10_work 68 = .ok (.iconst 3, 1) := by decide +kernel
theorem dX10_work_69 : decode cX10_work 69 = .ok (.if_icmp .ne 27, 3) := by decide +kernel
theorem dX10_work_72 : decode cX10_work 72 = .ok (.aload_n 0, 1) := by decide +kernel
theorem dX10_work_73 : decode cX10_work 73 = .ok (.getfield 39, 3) := by decide +kernel
theorem dX10_work_76 : decode cX10_work 76 = .ok (.iload_n 1, 1) := by decide +kernel
theorem dX10_work_77 : decode cX10_work 77 = .ok (.iaload, 1) := by decide +kernel
theorem dX10_work_78 : decode cX10_work 78 = .ok (.iconst 1, 1) := by decide +kernel
theorem dX10_work_79 : decode cX10_work 79 = .ok (.if_icmp .ne 17, 3) := by decide +kernel
theorem dX10_work_82 : decode cX10_work 82 = .ok (.aload_n 0, 1) := by decide +kernel
theorem dX10_work_83 : decode cX10_work 83 = .ok (.iload_n 1, 1) := by decide +kernel
theorem dX10_work_84 : decode cX10_work 84 = .ok (.aload_n 0, 1) := by decide +kernel
theorem dX10_work_85 : decode cX10_work 85 = .ok (.getfield 16, 3) := by decide +kernel
theorem dX10_work_88 : decode cX10_work 88 = .ok (.iload_n 1, 1) := by decide +kernel
theorem dX10_work_89 : decode cX10_work 89 = .ok (.iaload, 1) := by decide +kernel
theorem dX10_work_90 : decode cX10_work 90 = .ok (.invokevirtual 136, 3) := by decide +kernel
theorem dX10_work_93 : decode cX10_work 93 = .ok (.goto 86, 3) := by decide +kernel
theorem dX10_work_96 : decode cX10_work 96 = .ok (.iload_n 2, 1) := by decide +kernel
theorem dX10_work_97 : decode cX10_work 97 = .ok (.iconst 3, 1) := by decide +kernel
theorem dX10_work_98 : decode cX10_work 98 = .ok (.if_icmp .ge 14, 3) := by decide +kernel
theorem dX10_work_101 : decode cX10_work 101 = .ok (.aload_n 0, 1) := by decide +kernel
theorem dX10_work_102 : decode cX10_work 102 = .ok (.getfield 45, 3) := by decide +kernel
theorem dX10_work_105 : decode cX10_work 105 = .ok (.iload_n 3, 1) := by decide +kernel
theorem dX10_work_106 : decode cX10_work 106 = .ok (.laload, 1) := by decide +kernel
theorem dX10_work_107 : decode cX10_work 107 = .ok (.lconst 0, 1) := by decide +kernel
theorem dX10_work_108 : decode cX10_work 108 = .ok (.lcmp, 1) := by decide +kernel
theorem dX10_work_109 : decode cX10_work 109 = .ok (.ifCond .ne 12, 3) := by decide +kernel
theorem dX10_work_112 : decode cX10_work 112 = .ok (.aload_n 0, 1) := by decide +kernel
theorem dX10_work_113 : decode cX10_work 113 = .ok (.iload_n 1, 1) := by decide +kernel
theorem dX10_work_114 : decode cX10_work 114 = .ok (.iload_n 3, 1) := by decide +kernel
theorem dX10_work_115 : decode cX10_work 115 = .ok (.invokevirtual 136, 3) := by decide +kernel
theorem dX10_work_118 : decode cX10_work 118 = .ok (.goto 61, 3) := by decide +kernel
theorem dX10_work_121 : decode cX10_work 121 = .ok (.iload_n 2, 1) := by decide +kernel
theorem dX10_work_122 : decode cX10_work 122 = .ok (.iconst 1, 1) := by decide +kernel
theorem dX10_work_123 : decode cX10_work 123 = .ok (.if_icmp .ne 31, 3) := by decide +kernel
theorem dX10_work_126 : decode cX10_work 126 = .ok (.aload_n 0, 1) := by decide +kernel
theorem dX10_work_127 : decode cX10_work 127 = .ok (.iload_n 1, 1) := by decide +kernel
theorem dX10_work_128 : decode cX10_work 128 = .ok (.aload_n 0, 1) := by decide +kernel
theorem dX10_work_129 : decode cX10_work 129 = .ok (.getfield 42, 3) := by decide +kernel
theorem dX10_work_132 : decode cX10_work 132 = .ok (.iload_n 3, 1) := by decide +kernel
theorem dX10_work_133 : decode cX10_work 133 = .ok (.laload, 1) := by decide +kernel
theorem dX10_work_134 : decode cX10_work 134 = .ok (.aload_n 0, 1) := by decide +kernel
theorem dX10_work_135 : decode cX10_work 135 = .ok (.getfield 39, 3) := by decide +kernel
theorem dX10_work_138 : decode cX10_work 138 = .ok (.iload_n 1, 1) := by decide +kernel
theorem dX10_work_139 : decode cX10_work 139 = .ok (.iaload, 1) := by decide +kernel
theorem dX10_work_140 : decode cX10_work 140 = .ok (.i2l, 1) := by decide +kernel
theorem dX10_work_141 : decode cX10_work 141 = .ok (.lmul, 1) := by decide +kernel
theorem dX10_work_142 : decode cX10_work 142 = .ok (.aload_n 0, 1) := by decide +kernel
theorem dX10_work_143 : decode cX10_work 143 = .ok (.getfield 45, 3) := by decide +kernel
theorem dX10_work_146 : decode cX10_work 146 = .ok (.iload_n 3, 1) := by decide +kernel
theorem dX10_work_147 : decode cX10_work 147 = .ok (.laload, 1) := by decide +kernel
theorem dX10_work_148 : decode cX10_work 148 = .ok (.invokevirtual 140, 3) := by decide +kernel
theorem dX10_work_151 : decode cX10_work 151 = .ok (.goto 28, 3) := by decide +kernel
theorem dX10_work_154 : decode cX10_work 154 = .ok (.aload_n 0, 1) := by decide +kernel
theorem dX10_work_155 : decode cX10_work 155 = .ok (.iload_n 1, 1) := by decide +kernel
theorem dX10_work_156 : decode cX10_work 156 = .ok (.aload_n 0, 1) := by decide +kernel
theorem dX10_work_157 : decode cX10_work 157 = .ok (.getfield 42, 3) := by decide +kernel
theorem dX10_work_160 : decode cX10_work 160 = .ok (.iload_n 3, 1) := by decide +kernel
theorem dX10_work_161 : decode cX10_work 161 = .ok (.laload, 1) := by decide +kernel
theorem dX10_work_162 : decode cX10_work 162 = .ok (.aload_n 0, 1) := by decide +kernel
theorem dX10_work_163 : decode cX10_work 163 = .ok (.getfield 45, 3) := by decide +kernel
theorem dX10_work_166 : decode cX10_work 166 = .ok (.iload_n 3, 1) := by decide +kernel
theorem dX10_work_167 : decode cX10_work 167 = .ok (.laload, 1) := by decide +kernel
theorem dX10_work_168 : decode cX10_work 168 = .ok (.aload_n 0, 1) := by decide +kernel
theorem dX10_work_169 : decode cX10_work 169 = .ok (.getfield 39, 3) := by decide +kernel
theorem dX10_work_172 : decode cX10_work 172 = .ok (.iload_n 1, 1) := by decide +kernel
theorem dX10_work_173 : decode cX10_work 173 = .ok (.iaload, 1) := by decide +kernel
theorem dX10_work_174 : decode cX10_work 174 = .ok (.i2l, 1) := by decide +kernel
theorem dX10_work_175 : decode cX10_work 175 = .ok (.lmul, 1) := by decide +kernel
theorem dX10_work_176 : decode cX10_work 176 = .ok (.invokevirtual 140, 3) := by decide +kernel
theorem dX10_work_179 : decode cX10_work 179 = .ok (.return_, 1) := by decide +kernel
theorem dX10_workFrom_0 : decode cX10_workFrom 0 = .ok (.iload_n 1, 1) := by decide +kernel
theorem dX10_workFrom_1 : decode cX10_workFrom 1 = .ok (.istore_n 2, 1) := by decide +kernel
theorem dX10_workFrom_2 : decode cX10_workFrom 2 = .ok (.iload_n 2, 1) := by decide +kernel
theorem dX10_workFrom_3 : decode cX10_workFrom 3 = .ok (.aload_n 0, 1) := by decide +kernel
theorem dX10_workFrom_4 : decode cX10_workFrom 4 = .ok (.getfield 109, 3) := by decide +kernel
theorem dX10_workFrom_7 : decode cX10_workFrom 7 = .ok (.if_icmp .ge 14, 3) := by decide +kernel
theorem dX10_workFrom_10 : decode cX10_workFrom 10 = .ok (.aload_n 0, 1) := by decide +kernel
theorem dX10_workFrom_11 : decode cX10_workFrom 11 = .ok (.iload_n 2, 1) := by decide +kernel
theorem dX10_workFrom_12 : decode cX10_workFrom 12 = .ok (.invokevirtual 144, 3) := by decide +kernel
theorem dX10_workFrom_15 : decode cX10_workFrom 15 = .ok (.iinc 2 1, 3) := by decide +kernel
theorem dX10_workFrom_18 : decode cX10_workFrom 18 = .ok (.goto (-16), 3) := by decide +kernel
theorem dX10_workFrom_21 : decode cX10_workFrom 21 = .ok (.return_, 1) := by decide +kernel
theorem dX10_layAll_0 : decode cX10_layAll 0 = .ok (.iconst 0, 1) := by decide +kernel
theorem dX10_layAll_1 : decode cX10_layAll 1 = .ok (.istore_n 1, 1) := by decide +kernel
theorem dX10_layAll_2 : decode cX10_layAll 2 = .ok (.iload_n 1, 1) := by decide +kernel
theorem dX10_layAll_3 : decode cX10_layAll 3 = .ok (.aload_n 0, 1) := by decide +kernel
theorem dX10_layAll_4 : decode cX10_layAll 4 = .ok (.getfield 109, 3) := by decide +kernel
theorem dX10_layAll_7 : decode cX10_layAll 7 = .ok (.if_icmp .ge 21, 3) := by decide +kernel
theorem dX10_layAll_10 : decode cX10_layAll 10 = .ok (.aload_n 0, 1) := by decide +kernel
theorem dX10_layAll_11 : decode cX10_layAll 11 = .ok (.getfield 39, 3) := by decide +kernel
theorem dX10_layAll_14 : decode cX10_layAll 14 = .ok (.iload_n 1, 1) := by decide +kernel
theorem dX10_layAll_15 : decode cX10_layAll 15 = .ok (.aload_n 0, 1) := by decide +kernel
theorem dX10_layAll_16 : decode cX10_layAll 16 = .ok (.getfield 25, 3) := by decide +kernel
theorem dX10_layAll_19 : decode cX10_layAll 19 = .ok (.iload_n 1, 1) := by decide +kernel
theorem dX10_layAll_20 : decode cX10_layAll 20 = .ok (.iaload, 1) := by decide +kernel
theorem dX10_layAll_21 : decode cX10_layAll 21 = .ok (.iastore, 1) := by decide +kernel
theorem dX10_layAll_22 : decode cX10_layAll 22 = .ok (.iinc 1 1, 3) := by decide +kernel
theorem dX10_layAll_25 : decode cX10_layAll 25 = .ok (.goto (-23), 3) := by decide +kernel
theorem dX10_layAll_28 : decode cX10_layAll 28 = .ok (.aload_n 0, 1) := by decide +kernel
theorem dX10_layAll_29 : decode cX10_layAll 29 = .ok (.iconst 0, 1) := by decide +kernel
theorem dX10_layAll_30 : decode cX10_layAll 30 = .ok (.invokevirtual 148, 3) := by decide +kernel
theorem dX10_layAll_33 : decode cX10_layAll 33 = .ok (.return_, 1) := by decide +kernel
theorem dX10_isWell_0 : decode cX10_isWell 0 = .ok (.aload_n 0, 1) := by decide +kernel
theorem dX10_isWell_1 : decode cX10_isWell 1 = .ok (.getfield 45, 3) := by decide +kernel
theorem dX10_isWell_4 : decode cX10_isWell 4 = .ok (.iload_n 1, 1) := by decide +kernel
theorem dX10_isWell_5 : decode cX10_isWell 5 = .ok (.laload, 1) := by decide +kernel
theorem dX10_isWell_6 : decode cX10_isWell 6 = .ok (.lconst 0, 1) := by decide +kernel
theorem dX10_isWell_7 : decode cX10_isWell 7 = .ok (.lcmp, 1) := by decide +kernel
theorem dX10_isWell_8 : decode cX10_isWell 8 = .ok (.ifCond .le 64, 3) := by decide +kernel
theorem dX10_isWell_11 : decode cX10_isWell 11 = .ok (.aload_n 0, 1) := by decide +kernel
theorem dX10_isWell_12 : decode cX10_isWell 12 = .ok (.getfield 42, 3) := by decide +kernel
theorem dX10_isWell_15 : decode cX10_isWell 15 = .ok (.iload_n 1, 1) := by decide +kernel
theorem dX10_isWell_16 : decode cX10_isWell 16 = .ok (.laload, 1) := by decide +kernel
theorem dX10_isWell_17 : decode cX10_isWell 17 = .ok (.lconst 0, 1) := by decide +kernel
theorem dX10_isWell_18 : decode cX10_isWell 18 = .ok (.lcmp, 1) := by decide +kernel
theorem dX10_isWell_19 : decode cX10_isWell 19 = .ok (.ifCond .eq 49, 3) := by decide +kernel
theorem dX10_isWell_22 : decode cX10_isWell 22 = .ok (.aload_n 0, 1) := by decide +kernel
theorem dX10_isWell_23 : decode cX10_isWell 23 = .ok (.getfield 42, 3) := by decide +kernel
theorem dX10_isWell_26 : decode cX10_isWell 26 = .ok (.iload_n 1, 1) := by decide +kernel
theorem dX10_isWell_27 : decode cX10_isWell 27 = .ok (.laload, 1) := by decide +kernel
theorem dX10_isWell_28 : decode cX10_isWell 28 = .ok (.aload_n 0, 1) := by decide +kernel
theorem dX10_isWell_29 : decode cX10_isWell 29 = .ok (.getfield 32, 3) := by decide +kernel
theorem dX10_isWell_32 : decode cX10_isWell 32 = .ok (.iload_n 1, 1) := by decide +kernel
theorem dX10_isWell_33 : decode cX10_isWell 33 = .ok (.laload, 1) := by decide +kernel
theorem dX10_isWell_34 : decode cX10_isWell 34 = .ok (.aload_n 0, 1) := by decide +kernel
theorem dX10_isWell_35 : decode cX10_isWell 35 = .ok (.getfield 45, 3) := by decide +kernel
theorem dX10_isWell_38 : decode cX10_isWell 38 = .ok (.iload_n 1, 1) := by decide +kernel
theorem dX10_isWell_39 : decode cX10_isWell 39 = .ok (.laload, 1) := by decide +kernel
theorem dX10_isWell_40 : decode cX10_isWell 40 = .ok (.lmul, 1) := by decide +kernel
theorem dX10_isWell_41 : decode cX10_isWell 41 = .ok (.lcmp, 1) := by decide +kernel
theorem dX10_isWell_42 : decode cX10_isWell 42 = .ok (.ifCond .lt 30, 3) := by decide +kernel
theorem dX10_isWell_45 : decode cX10_isWell 45 = .ok (.aload_n 0, 1) := by decide +kernel
theorem dX10_isWell_46 : decode cX10_isWell 46 = .ok (.getfield 42, 3) := by decide +kernel
theorem dX10_isWell_49 : decode cX10_isWell 49 = .ok (.iload_n 1, 1) := by decide +kernel
theorem dX10_isWell_50 : decode cX10_isWell 50 = .ok (.laload, 1) := by decide +kernel
theorem dX10_isWell_51 : decode cX10_isWell 51 = .ok (.aload_n 0, 1) := by decide +kernel
theorem dX10_isWell_52 : decode cX10_isWell 52 = .ok (.getfield 36, 3) := by decide +kernel
theorem dX10_isWell_55 : decode cX10_isWell 55 = .ok (.iload_n 1, 1) := by decide +kernel
theorem dX10_isWell_56 : decode cX10_isWell 56 = .ok (.laload, 1) := by decide +kernel
theorem dX10_isWell_57 : decode cX10_isWell 57 = .ok (.aload_n 0, 1) := by decide +kernel
theorem dX10_isWell_58 : decode cX10_isWell 58 = .ok (.getfield 45, 3) := by decide +kernel
theorem dX10_isWell_61 : decode cX10_isWell 61 = .ok (.iload_n 1, 1) := by decide +kernel
theorem dX10_isWell_62 : decode cX10_isWell 62 = .ok (.laload, 1) := by decide +kernel
theorem dX10_isWell_63 : decode cX10_isWell 63 = .ok (.lmul, 1) := by decide +kernel
theorem dX10_isWell_64 : decode cX10_isWell 64 = .ok (.lcmp, 1) := by decide +kernel
theorem dX10_isWell_65 : decode cX10_isWell 65 = .ok (.ifCond .gt 7, 3) := by decide +kernel
theorem dX10_isWell_68 : decode cX10_isWell 68 = .ok (.iconst 1, 1) := by decide +kernel
theorem dX10_isWell_69 : decode cX10_isWell 69 = .ok (.goto 4, 3) := by decide +kernel
theorem dX10_isWell_72 : decode cX10_isWell 72 = .ok (.iconst 0, 1) := by decide +kernel
theorem dX10_isWell_73 : decode cX10_isWell 73 = .ok (.ireturn, 1) := by decide +kernel
theorem dX10_isSound_0 : decode cX10_isSound 0 = .ok (.iconst 1, 1) := by decide +kernel
theorem dX10_isSound_1 : decode cX10_isSound 1 = .ok (.istore_n 1, 1) := by decide +kernel
theorem dX10_isSound_2 : decode cX10_isSound 2 = .ok (.iconst 0, 1) := by decide +kernel
theorem dX10_isSound_3 : decode cX10_isSound 3 = .ok (.istore_n 2, 1) := by decide +kernel
theorem dX10_isSound_4 : decode cX10_isSound 4 = .ok (.iload_n 2, 1) := by decide +kernel
theorem dX10_isSound_5 : decode cX10_isSound 5 = .ok (.aload_n 0, 1) := by decide +kernel
theorem dX10_isSound_6 : decode cX10_isSound 6 = .ok (.getfield 109, 3) := by decide +kernel
theorem dX10_isSound_9 : decode cX10_isSound 9 = .ok (.if_icmp .ge 19, 3) := by decide +kernel
theorem dX10_isSound_12 : decode cX10_isSound 12 = .ok (.iload_n 1, 1) := by decide +kernel
theorem dX10_isSound_13 : decode cX10_isSound 13 = .ok (.ifCond .eq 15, 3) := by decide +kernel
theorem dX10_isSound_16 : decode cX10_isSound 16 = .ok (.aload_n 0, 1) := by decide +kernel
theorem dX10_isSound_17 : decode cX10_isSound 17 = .ok (.iload_n 2, 1) := by decide +kernel
theorem dX10_isSound_18 : decode cX10_isSound 18 = .ok (.invokevirtual 151, 3) := by decide +kernel
theorem dX10_isSound_21 : decode cX10_isSound 21 = .ok (.istore_n 1, 1) := by decide +kernel
theorem dX10_isSound_22 : decode cX10_isSound 22 = .ok (.iinc 2 1, 3) := by decide +kernel
theorem dX10_isSound_25 : decode cX10_isSound 25 = .ok (.goto (-21), 3) := by decide +kernel
theorem dX10_isSound_28 : decode cX10_isSound 28 = .ok (.iload_n 1, 1) := by decide +kernel
theorem dX10_isSound_29 : decode cX10_isSound 29 = .ok (.ireturn, 1) := by decide +kernel
theorem dX10_rate_0 : decode cX10_rate 0 = .ok (.aload_n 0, 1) := by decide +kernel
theorem dX10_rate_1 : decode cX10_rate 1 = .ok (.iload_n 1, 1) := by decide +kernel
theorem dX10_rate_2 : decode cX10_rate 2 = .ok (.invokevirtual 124, 3) := by decide +kernel
theorem dX10_rate_5 : decode cX10_rate 5 = .ok (.ifCond .ne 13, 3) := by decide +kernel
theorem dX10_rate_8 : decode cX10_rate 8 = .ok (.iload_n 2, 1) := by decide +kernel
theorem dX10_rate_9 : decode cX10_rate 9 = .ok (.i2l, 1) := by decide +kernel
theorem dX10_rate_10 : decode cX10_rate 10 = .ok (.lconst 0, 1) := by decide +kernel
theorem dX10_rate_11 : decode cX10_rate 11 = .ok (.lconst 1, 1) := by decide +kernel
theorem dX10_rate_12 : decode cX10_rate 12 = .ok (.invokestatic 112, 3) := by decide +kernel
theorem dX10_rate_15 : decode cX10_rate 15 = .ok (.ifCond .ne 7, 3) := by decide +kernel
theorem dX10_rate_18 : decode cX10_rate 18 = .ok (.invokestatic 105, 3) := by decide +kernel
theorem dX10_rate_21 : decode cX10_rate 21 = .ok (.lreturn, 1) := by decide +kernel
theorem dX10_rate_22 : decode cX10_rate 22 = .ok (.aload_n 0, 1) := by decide +kernel
theorem dX10_rate_23 : decode cX10_rate 23 = .ok (.invokevirtual 154, 3) := by decide +kernel
theorem dX10_rate_26 : decode cX10_rate 26 = .ok (.aload_n 0, 1) := by decide +kernel
theorem dX10_rate_27 : decode cX10_rate 27 = .ok (.getfield 45, 3) := by decide +kernel
theorem dX10_rate_30 : decode cX10_rate 30 = .ok (.iload_n 1, 1) := by decide +kernel
theorem dX10_rate_31 : decode cX10_rate 31 = .ok (.laload, 1) := by decide +kernel
theorem dX10_rate_32 : decode cX10_rate 32 = .ok (.lconst 0, 1) := by decide +kernel
theorem dX10_rate_33 : decode cX10_rate 33 = .ok (.lcmp, 1) := by decide +kernel
theorem dX10_rate_34 : decode cX10_rate 34 = .ok (.ifCond .ne 9, 3) := by decide +kernel
theorem dX10_rate_37 : decode cX10_rate 37 = .ok (.invokestatic 105, 3) := by decide +kernel
theorem dX10_rate_40 : decode cX10_rate 40 = .ok (.goto 22, 3) := by decide +kernel
theorem dX10_rate_43 : decode cX10_rate 43 = .ok (.iload_n 2, 1) := by decide +kernel
theorem dX10_rate_44 : decode cX10_rate 44 = .ok (.ifCond .ne 12, 3) := by decide +kernel
theorem dX10_rate_47 : decode cX10_rate 47 = .ok (.aload_n 0, 1) := by decide +kernel
theorem dX10_rate_48 : decode cX10_rate 48 = .ok (.getfield 42, 3) := by decide +kernel
theorem dX10_rate_51 : decode cX10_rate 51 = .ok (.iload_n 1, 1) := by decide +kernel
theorem dX10_rate_52 : decode cX10_rate 52 = .ok (.laload, 1) := by decide +kernel
theorem dX10_rate_53 : decode cX10_rate 53 = .ok (.goto 9, 3) := by decide +kernel
theorem dX10_rate_56 : decode cX10_rate 56 = .ok (.aload_n 0, 1) := by decide +kernel
theorem dX10_rate_57 : decode cX10_rate 57 = .ok (.getfield 45, 3) := by decide +kernel
theorem dX10_rate_60 : decode cX10_rate 60 = .ok (.iload_n 1, 1) := by decide +kernel
theorem dX10_rate_61 : decode cX10_rate 61 = .ok (.laload, 1) := by decide +kernel
theorem dX10_rate_62 : decode cX10_rate 62 = .ok (.lreturn, 1) := by decide +kernel
theorem dX10_about_0 : decode cX10_about 0 = .ok (.aload_n 0, 1) := by decide +kernel
theorem dX10_about_1 : decode cX10_about 1 = .ok (.iload_n 1, 1) := by decide +kernel
theorem dX10_about_2 : decode cX10_about 2 = .ok (.invokevirtual 124, 3) := by decide +kernel
theorem dX10_about_5 : decode cX10_about 5 = .ok (.ifCond .eq 5, 3) := by decide +kernel
theorem dX10_about_8 : decode cX10_about 8 = .ok (.iconst (-1), 1) := by decide +kernel
theorem dX10_about_9 : decode cX10_about 9 = .ok (.ireturn, 1) := by decide +kernel
theorem dX10_about_10 : decode cX10_about 10 = .ok (.iload_n 2, 1) := by decide +kernel
theorem dX10_about_11 : decode cX10_about 11 = .ok (.tableswitch 158 0 9 #[53, 60, 81, 88, 95, 102, 109, 124, 142, 150], 53) := by decide +kernel
theorem dX10_about_64 : decode cX10_about 64 = .ok (.aload_n 0, 1) := by decide +kernel
theorem dX10_about_65 : decode cX10_about 65 = .ok (.getfield 7, 3) := by decide +kernel
theorem dX10_about_68 : decode cX10_about 68 = .ok (.iload_n 1, 1) := by decide +kernel
theorem dX10_about_69 : decode cX10_about 69 = .ok (.iaload, 1) := by decide +kernel
theorem dX10_about_70 : decode cX10_about 70 = .ok (.ireturn, 1) := by decide +kernel
theorem dX10_about_71 : decode cX10_about 71 = .ok (.aload_n 0, 1) := by decide +kernel
theorem dX10_about_72 : decode cX10_about 72 = .ok (.getfield 7, 3) := by decide +kernel
theorem dX10_about_75 : decode cX10_about 75 = .ok (.iload_n 1, 1) := by decide +kernel
theorem dX10_about_76 : decode cX10_about 76 = .ok (.iaload, 1) := by decide +kernel
theorem dX10_about_77 : decode cX10_about 77 = .ok (.ifCond .ne 8, 3) := by decide +kernel
theorem dX10_about_80 : decode cX10_about 80 = .ok (.bipush (-9), 2) := by decide +kernel
theorem dX10_about_82 : decode cX10_about 82 = .ok (.goto 9, 3) := by decide +kernel
theorem dX10_about_85 : decode cX10_about 85 = .ok (.aload_n 0, 1) := by decide +kernel
theorem dX10_about_86 : decode cX10_about 86 = .ok (.getfield 13, 3) := by decide +kernel
theorem dX10_about_89 : decode cX10_about 89 = .ok (.iload_n 1, 1) := by decide +kernel
theorem dX10_about_90 : decode cX10_about 90 = .ok (.iaload, 1) := by decide +kernel
theorem dX10_about_91 : decode cX10_about 91 = .ok (.ireturn, 1) := by decide +kernel
theorem dX10_about_92 : decode cX10_about 92 = .ok (.aload_n 0, 1) := by decide +kernel
theorem dX10_about_93 : decode cX10_about 93 = .ok (.getfield 16, 3) := by decide +kernel
theorem dX10_about_96 : decode cX10_about 96 = .ok (.iload_n 1, 1) := by decide +kernel
theorem dX10_about_97 : decode cX10_about 97 = .ok (.iaload, 1) := by decide +kernel
theorem dX10_about_98 : decode cX10_about 98 = .ok (.ireturn, 1) := by decide +kernel
theorem dX10_about_99 : decode cX10_about 99 = .ok (.aload_n 0, 1) := by decide +kernel
theorem dX10_about_100 : decode cX10_about 100 = .ok (.getfield 25, 3) := by decide +kernel
theorem dX10_about_103 : decode cX10_about 103 = .ok (.iload_n 1, 1) := by decide +kernel
theorem dX10_about_104 : decode cX10_about 104 = .ok (.iaload, 1) := by decide +kernel
theorem dX10_about_105 : decode cX10_about 105 = .ok (.ireturn, 1) := by decide +kernel
theorem dX10_about_106 : decode cX10_about 106 = .ok (.aload_n 0, 1) := by decide +kernel
theorem dX10_about_107 : decode cX10_about 107 = .ok (.getfield 19, 3) := by decide +kernel
theorem dX10_about_110 : decode cX10_about 110 = .ok (.iload_n 1, 1) := by decide +kernel
theorem dX10_about_111 : decode cX10_about 111 = .ok (.iaload, 1) := by decide +kernel
theorem dX10_about_112 : decode cX10_about 112 = .ok (.ireturn, 1) := by decide +kernel
theorem dX10_about_113 : decode cX10_about 113 = .ok (.aload_n 0, 1) := by decide +kernel
theorem dX10_about_114 : decode cX10_about 114 = .ok (.getfield 22, 3) := by decide +kernel
theorem dX10_about_117 : decode cX10_about 117 = .ok (.iload_n 1, 1) := by decide +kernel
theorem dX10_about_118 : decode cX10_about 118 = .ok (.iaload, 1) := by decide +kernel
theorem dX10_about_119 : decode cX10_about 119 = .ok (.ireturn, 1) := by decide +kernel
theorem dX10_about_120 : decode cX10_about 120 = .ok (.aload_n 0, 1) := by decide +kernel
theorem dX10_about_121 : decode cX10_about 121 = .ok (.getfield 28, 3) := by decide +kernel
theorem dX10_about_124 : decode cX10_about 124 = .ok (.iload_n 1, 1) := by decide +kernel
theorem dX10_about_125 : decode cX10_about 125 = .ok (.baload, 1) := by decide +kernel
theorem dX10_about_126 : decode cX10_about 126 = .ok (.ifCond .eq 7, 3) := by decide +kernel
theorem dX10_about_129 : decode cX10_about 129 = .ok (.iconst 1, 1) := by decide +kernel
theorem dX10_about_130 : decode cX10_about 130 = .ok (.goto 4, 3) := by decide +kernel
theorem dX10_about_133 : decode cX10_about 133 = .ok (.iconst 0, 1) := by decide +kernel
theorem dX10_about_134 : decode cX10_about 134 = .ok (.ireturn, 1) := by decide +kernel
theorem dX10_about_135 : decode cX10_about 135 = .ok (.aload_n 0, 1) := by decide +kernel
theorem dX10_about_136 : decode cX10_about 136 = .ok (.invokevirtual 154, 3) := by decide +kernel
theorem dX10_about_139 : decode cX10_about 139 = .ok (.aload_n 0, 1) := by decide +kernel
theorem dX10_about_140 : decode cX10_about 140 = .ok (.iload_n 1, 1) := by decide +kernel
theorem dX10_about_141 : decode cX10_about 141 = .ok (.invokevirtual 151, 3) := by decide +kernel
theorem dX10_about_144 : decode cX10_about 144 = .ok (.ifCond .eq 7, 3) := by decide +kernel
theorem dX10_about_147 : decode cX10_about 147 = .ok (.iconst 1, 1) := by decide +kernel
theorem dX10_about_148 : decode cX10_about 148 = .ok (.goto 4, 3) := by decide +kernel
theorem dX10_about_151 : decode cX10_about 151 = .ok (.iconst 0, 1) := by decide +kernel
theorem dX10_about_152 : decode cX10_about 152 = .ok (.ireturn, 1) := by decide +kernel
theorem dX10_about_153 : decode cX10_about 153 = .ok (.aload_n 0, 1) := by decide +kernel
theorem dX10_about_154 : decode cX10_about 154 = .ok (.getfield 32, 3) := by decide +kernel
theorem dX10_about_157 : decode cX10_about 157 = .ok (.iload_n 1, 1) := by decide +kernel
theorem dX10_about_158 : decode cX10_about 158 = .ok (.laload, 1) := by decide +kernel
theorem dX10_about_159 : decode cX10_about 159 = .ok (.l2i, 1) := by decide +kernel
theorem dX10_about_160 : decode cX10_about 160 = .ok (.ireturn, 1) := by decide +kernel
theorem dX10_about_161 : decode cX10_about 161 = .ok (.aload_n 0, 1) := by decide +kernel
theorem dX10_about_162 : decode cX10_about 162 = .ok (.getfield 36, 3) := by decide +kernel
theorem dX10_about_165 : decode cX10_about 165 = .ok (.iload_n 1, 1) := by decide +kernel
theorem dX10_about_166 : decode cX10_about 166 = .ok (.laload, 1) := by decide +kernel
theorem dX10_about_167 : decode cX10_about 167 = .ok (.l2i, 1) := by decide +kernel
theorem dX10_about_168 : decode cX10_about 168 = .ok (.ireturn, 1) := by decide +kernel
theorem dX10_about_169 : decode cX10_about 169 = .ok (.bipush (-2), 2) := by decide +kernel
theorem dX10_about_171 : decode cX10_about 171 = .ok (.ireturn, 1) := by decide +kernel
theorem dX10_sound_0 : decode cX10_sound 0 = .ok (.aload_n 0, 1) := by decide +kernel
theorem dX10_sound_1 : decode cX10_sound 1 = .ok (.invokevirtual 154, 3) := by decide +kernel
theorem dX10_sound_4 : decode cX10_sound 4 = .ok (.aload_n 0, 1) := by decide +kernel
theorem dX10_sound_5 : decode cX10_sound 5 = .ok (.invokevirtual 157, 3) := by decide +kernel
theorem dX10_sound_8 : decode cX10_sound 8 = .ok (.ifCond .eq 7, 3) := by decide +kernel
theorem dX10_sound_11 : decode cX10_sound 11 = .ok (.iconst 1, 1) := by decide +kernel
theorem dX10_sound_12 : decode cX10_sound 12 = .ok (.goto 4, 3) := by decide +kernel
theorem dX10_sound_15 : decode cX10_sound 15 = .ok (.iconst 0, 1) := by decide +kernel
theorem dX10_sound_16 : decode cX10_sound 16 = .ok (.ireturn, 1) := by decide +kernel
theorem dX10_powerOf_0 : decode cX10_powerOf 0 = .ok (.lconst 0, 1) := by decide +kernel
theorem dX10_powerOf_1 : decode cX10_powerOf 1 = .ok (.lstore_n 1, 1) := by decide +kernel
theorem dX10_powerOf_2 : decode cX10_powerOf 2 = .ok (.iconst 0, 1) := by decide +kernel
theorem dX10_powerOf_3 : decode cX10_powerOf 3 = .ok (.istore_n 3, 1) := by decide +kernel
theorem dX10_powerOf_4 : decode cX10_powerOf 4 = .ok (.iload_n 3, 1) := by decide +kernel
theorem dX10_powerOf_5 : decode cX10_powerOf 5 = .ok (.aload_n 0, 1) := by decide +kernel
theorem dX10_powerOf_6 : decode cX10_powerOf 6 = .ok (.getfield 109, 3) := by decide +kernel
theorem dX10_powerOf_9 : decode cX10_powerOf 9 = .ok (.if_icmp .ge 40, 3) := by decide +kernel
theorem dX10_powerOf_12 : decode cX10_powerOf 12 = .ok (.aload_n 0, 1) := by decide +kernel
theorem dX10_powerOf_13 : decode cX10_powerOf 13 = .ok (.getfield 45, 3) := by decide +kernel
theorem dX10_powerOf_16 : decode cX10_powerOf 16 = .ok (.iload_n 3, 1) := by decide +kernel
theorem dX10_powerOf_17 : decode cX10_powerOf 17 = .ok (.laload, 1) := by decide +kernel
theorem dX10_powerOf_18 : decode cX10_powerOf 18 = .ok (.lconst 0, 1) := by decide +kernel
theorem dX10_powerOf_19 : decode cX10_powerOf 19 = .ok (.lcmp, 1) := by decide +kernel
theorem dX10_powerOf_20 : decode cX10_powerOf 20 = .ok (.ifCond .ne 7, 3) := by decide +kernel
theorem dX10_powerOf_23 : decode cX10_powerOf 23 = .ok (.invokestatic 105, 3) := by decide +kernel
theorem dX10_powerOf_26 : decode cX10_powerOf 26 = .ok (.lreturn, 1) := by decide +kernel
theorem dX10_powerOf_27 : decode cX10_powerOf 27 = .ok (.lload_n 1, 1) := by decide +kernel
theorem dX10_powerOf_28 : decode cX10_powerOf 28 = .ok (.aload_n 0, 1) := by decide +kernel
theorem dX10_powerOf_29 : decode cX10_powerOf 29 = .ok (.getfield 42, 3) := by decide +kernel
theorem dX10_powerOf_32 : decode cX10_powerOf 32 = .ok (.iload_n 3, 1) := by decide +kernel
theorem dX10_powerOf_33 : decode cX10_powerOf 33 = .ok (.laload, 1) := by decide +kernel
theorem dX10_powerOf_34 : decode cX10_powerOf 34 = .ok (.aload_n 0, 1) := by decide +kernel
theorem dX10_powerOf_35 : decode cX10_powerOf 35 = .ok (.getfield 45, 3) := by decide +kernel
theorem dX10_powerOf_38 : decode cX10_powerOf 38 = .ok (.iload_n 3, 1) := by decide +kernel
theorem dX10_powerOf_39 : decode cX10_powerOf 39 = .ok (.laload, 1) := by decide +kernel
theorem dX10_powerOf_40 : decode cX10_powerOf 40 = .ok (.ldiv, 1) := by decide +kernel
theorem dX10_powerOf_41 : decode cX10_powerOf 41 = .ok (.ladd, 1) := by decide +kernel
theorem dX10_powerOf_42 : decode cX10_powerOf 42 = .ok (.lstore_n 1, 1) := by decide +kernel
theorem dX10_powerOf_43 : decode cX10_powerOf 43 = .ok (.iinc 3 1, 3) := by decide +kernel
theorem dX10_powerOf_46 : decode cX10_powerOf 46 = .ok (.goto (-42), 3) := by decide +kernel
theorem dX10_powerOf_49 : decode cX10_powerOf 49 = .ok (.lload_n 1, 1) := by decide +kernel
theorem dX10_powerOf_50 : decode cX10_powerOf 50 = .ok (.lreturn, 1) := by decide +kernel
theorem dX10_power_0 : decode cX10_power 0 = .ok (.aload_n 0, 1) := by decide +kernel
theorem dX10_power_1 : decode cX10_power 1 = .ok (.invokevirtual 154, 3) := by decide +kernel
theorem dX10_power_4 : decode cX10_power 4 = .ok (.aload_n 0, 1) := by decide +kernel
theorem dX10_power_5 : decode cX10_power 5 = .ok (.invokevirtual 161, 3) := by decide +kernel
theorem dX10_power_8 : decode cX10_power 8 = .ok (.lreturn, 1) := by decide +kernel
theorem dX10_noMode_0 : decode cX10_noMode 0 = .ok (.iload_n 0, 1) := by decide +kernel
theorem dX10_noMode_1 : decode cX10_noMode 1 = .ok (.i2l, 1) := by decide +kernel
theorem dX10_noMode_2 : decode cX10_noMode 2 = .ok (.lconst 0, 1) := by decide +kernel
theorem dX10_noMode_3 : decode cX10_noMode 3 = .ok (.ldc2_w 128, 3) := by decide +kernel
theorem dX10_noMode_6 : decode cX10_noMode 6 = .ok (.invokestatic 112, 3) := by decide +kernel
theorem dX10_noMode_9 : decode cX10_noMode 9 = .ok (.ifCond .ne 7, 3) := by decide +kernel
theorem dX10_noMode_12 : decode cX10_noMode 12 = .ok (.iconst 1, 1) := by decide +kernel
theorem dX10_noMode_13 : decode cX10_noMode 13 = .ok (.goto 4, 3) := by decide +kernel
theorem dX10_noMode_16 : decode cX10_noMode 16 = .ok (.iconst 0, 1) := by decide +kernel
theorem dX10_noMode_17 : decode cX10_noMode 17 = .ok (.ireturn, 1) := by decide +kernel
theorem dX10_noWish_0 : decode cX10_noWish 0 = .ok (.iload_n 1, 1) := by decide +kernel
theorem dX10_noWish_1 : decode cX10_noWish 1 = .ok (.i2l, 1) := by decide +kernel
theorem dX10_noWish_2 : decode cX10_noWish 2 = .ok (.lconst 0, 1) := by decide +kernel
theorem dX10_noWish_3 : decode cX10_noWish 3 = .ok (.aload_n 0, 1) := by decide +kernel
theorem dX10_noWish_4 : decode cX10_noWish 4 = .ok (.getfield 164, 3) := by decide +kernel
theorem dX10_noWish_7 : decode cX10_noWish 7 = .ok (.i2l, 1) := by decide +kernel
theorem dX10_noWish_8 : decode cX10_noWish 8 = .ok (.lconst 1, 1) := by decide +kernel
theorem dX10_noWish_9 : decode cX10_noWish 9 = .ok (.lsub, 1) := by decide +kernel
theorem dX10_noWish_10 : decode cX10_noWish 10 = .ok (.invokestatic 112, 3) := by decide +kernel
theorem dX10_noWish_13 : decode cX10_noWish 13 = .ok (.ifCond .ne 7, 3) := by decide +kernel
theorem dX10_noWish_16 : decode cX10_noWish 16 = .ok (.iconst 1, 1) := by decide +kernel
theorem dX10_noWish_17 : decode cX10_noWish 17 = .ok (.goto 4, 3) := by decide +kernel
theorem dX10_noWish_20 : decode cX10_noWish 20 = .ok (.iconst 0, 1) := by decide +kernel
theorem dX10_noWish_21 : decode cX10_noWish 21 = .ok (.ireturn, 1) := by decide +kernel
theorem dX10_addWish_0 : decode cX10_addWish 0 = .ok (.aload_n 0, 1) := by decide +kernel
theorem dX10_addWish_1 : decode cX10_addWish 1 = .ok (.getfield 164, 3) := by decide +kernel
theorem dX10_addWish_4 : decode cX10_addWish 4 = .ok (.bipush 12, 2) := by decide +kernel
theorem dX10_addWish_6 : decode cX10_addWish 6 = .ok (.if_icmp .ne 6, 3) := by decide +kernel
theorem dX10_addWish_9 : decode cX10_addWish 9 = .ok (.bipush (-4), 2) := by decide +kernel
theorem dX10_addWish_11 : decode cX10_addWish 11 = .ok (.ireturn, 1) := by decide +kernel
theorem dX10_addWish_12 : decode cX10_addWish 12 = .ok (.aload_n 0, 1) := by decide +kernel
theorem dX10_addWish_13 : decode cX10_addWish 13 = .ok (.getfield 48, 3) := by decide +kernel
theorem dX10_addWish_16 : decode cX10_addWish 16 = .ok (.aload_n 0, 1) := by decide +kernel
theorem dX10_addWish_17 : decode cX10_addWish 17 = .ok (.getfield 164, 3) := by decide +kernel
theorem dX10_addWish_20 : decode cX10_addWish 20 = .ok (.iload_n 1, 1) := by decide +kernel
theorem dX10_addWish_21 : decode cX10_addWish 21 = .ok (.iastore, 1) := by decide +kernel
theorem dX10_addWish_22 : decode cX10_addWish 22 = .ok (.aload_n 0, 1) := by decide +kernel
theorem dX10_addWish_23 : decode cX10_addWish 23 = .ok (.getfield 51, 3) := by decide +kernel
theorem dX10_addWish_26 : decode cX10_addWish 26 = .ok (.aload_n 0, 1) := by decide +kernel
theorem dX10_addWish_27 : decode cX10_addWish 27 = .ok (.getfield 164, 3) := by decide +kernel
theorem dX10_addWish_30 : decode cX10_addWish 30 = .ok (.iload_n 2, 1) := by decide +kernel
theorem dX10_addWish_31 : decode cX10_addWish 31 = .ok (.iastore, 1) := by decide +kernel
theorem dX10_addWish_32 : decode cX10_addWish 32 = .ok (.aload_n 0, 1) := by decide +kernel
theorem dX10_addWish_33 : decode cX10_addWish 33 = .ok (.getfield 54, 3) := by decide +kernel
theorem dX10_addWish_36 : decode cX10_addWish 36 = .ok (.aload_n 0, 1) := by decide +kernel
theorem dX10_addWish_37 : decode cX10_addWish 37 = .ok (.getfield 164, 3) := by decide +kernel
theorem dX10_addWish_40 : decode cX10_addWish 40 = .ok (.iload_n 3, 1) := by decide +kernel
theorem dX10_addWish_41 : decode cX10_addWish 41 = .ok (.iastore, 1) := by decide +kernel
theorem dX10_addWish_42 : decode cX10_addWish 42 = .ok (.aload_n 0, 1) := by decide +kernel
theorem dX10_addWish_43 : decode cX10_addWish 43 = .ok (.getfield 57, 3) := by decide +kernel
theorem dX10_addWish_46 : decode cX10_addWish 46 = .ok (.aload_n 0, 1) := by decide +kernel
theorem dX10_addWish_47 : decode cX10_addWish 47 = .ok (.getfield 164, 3) := by decide +kernel
theorem dX10_addWish_50 : decode cX10_addWish 50 = .ok (.iload 4, 2) := by decide +kernel
theorem dX10_addWish_52 : decode cX10_addWish 52 = .ok (.iastore, 1) := by decide +kernel
theorem dX10_addWish_53 : decode cX10_addWish 53 = .ok (.aload_n 0, 1) := by decide +kernel
theorem dX10_addWish_54 : decode cX10_addWish 54 = .ok (.getfield 60, 3) := by decide +kernel
theorem dX10_addWish_57 : decode cX10_addWish 57 = .ok (.aload_n 0, 1) := by decide +kernel
theorem dX10_addWish_58 : decode cX10_addWish 58 = .ok (.getfield 164, 3) := by decide +kernel
theorem dX10_addWish_61 : decode cX10_addWish 61 = .ok (.iload 5, 2) := by decide +kernel
theorem dX10_addWish_63 : decode cX10_addWish 63 = .ok (.iastore, 1) := by decide +kernel
theorem dX10_addWish_64 : decode cX10_addWish 64 = .ok (.aload_n 0, 1) := by decide +kernel
theorem dX10_addWish_65 : decode cX10_addWish 65 = .ok (.getfield 63, 3) := by decide +kernel
theorem dX10_addWish_68 : decode cX10_addWish 68 = .ok (.aload_n 0, 1) := by decide +kernel
theorem dX10_addWish_69 : decode cX10_addWish 69 = .ok (.getfield 164, 3) := by decide +kernel
theorem dX10_addWish_72 : decode cX10_addWish 72 = .ok (.iload 6, 2) := by decide +kernel
theorem dX10_addWish_74 : decode cX10_addWish 74 = .ok (.iastore, 1) := by decide +kernel
theorem dX10_addWish_75 : decode cX10_addWish 75 = .ok (.aload_n 0, 1) := by decide +kernel
theorem dX10_addWish_76 : decode cX10_addWish 76 = .ok (.dup, 1) := by decide +kernel
theorem dX10_addWish_77 : decode cX10_addWish 77 = .ok (.getfield 164, 3) := by decide +kernel
theorem dX10_addWish_80 : decode cX10_addWish 80 = .ok (.iconst 1, 1) := by decide +kernel
theorem dX10_addWish_81 : decode cX10_addWish 81 = .ok (.iadd, 1) := by decide +kernel
theorem dX10_addWish_82 : decode cX10_addWish 82 = .ok (.putfield 164, 3) := by decide +kernel
theorem dX10_addWish_85 : decode cX10_addWish 85 = .ok (.aload_n 0, 1) := by decide +kernel
theorem dX10_addWish_86 : decode cX10_addWish 86 = .ok (.getfield 164, 3) := by decide +kernel
theorem dX10_addWish_89 : decode cX10_addWish 89 = .ok (.iconst 1, 1) := by decide +kernel
theorem dX10_addWish_90 : decode cX10_addWish 90 = .ok (.isub, 1) := by decide +kernel
theorem dX10_addWish_91 : decode cX10_addWish 91 = .ok (.ireturn, 1) := by decide +kernel
theorem dX10_wish_0 : decode cX10_wish 0 = .ok (.iload_n 1, 1) := by decide +kernel
theorem dX10_wish_1 : decode cX10_wish 1 = .ok (.invokestatic 167, 3) := by decide +kernel
theorem dX10_wish_4 : decode cX10_wish 4 = .ok (.ifCond .ne 11, 3) := by decide +kernel
theorem dX10_wish_7 : decode cX10_wish 7 = .ok (.aload_n 0, 1) := by decide +kernel
theorem dX10_wish_8 : decode cX10_wish 8 = .ok (.iload_n 2, 1) := by decide +kernel
theorem dX10_wish_9 : decode cX10_wish 9 = .ok (.invokevirtual 124, 3) := by decide +kernel
theorem dX10_wish_12 : decode cX10_wish 12 = .ok (.ifCond .eq 5, 3) := by decide +kernel
theorem dX10_wish_15 : decode cX10_wish 15 = .ok (.iconst (-1), 1) := by decide +kernel
theorem dX10_wish_16 : decode cX10_wish 16 = .ok (.ireturn, 1) := by decide +kernel
theorem dX10_wish_17 : decode cX10_wish 17 = .ok (.iload_n 3, 1) := by decide +kernel
theorem dX10_wish_18 : decode cX10_wish 18 = .ok (.i2l, 1) := by decide +kernel
theorem dX10_wish_19 : decode cX10_wish 19 = .ok (.lconst 1, 1) := by decide +kernel
theorem dX10_wish_20 : decode cX10_wish 20 = .ok (.ldc2_w 118, 3) := by decide +kernel
theorem dX10_wish_23 : decode cX10_wish 23 = .ok (.invokestatic 112, 3) := by decide +kernel
theorem dX10_wish_26 : decode cX10_wish 26 = .ok (.ifCond .eq 29, 3) := by decide +kernel
theorem dX10_wish_29 : decode cX10_wish 29 = .ok (.iload 4, 2) := by decide +kernel
theorem dX10_wish_31 : decode cX10_wish 31 = .ok (.i2l, 1) := by decide +kernel
theorem dX10_wish_32 : decode cX10_wish 32 = .ok (.lconst 1, 1) := by decide +kernel
theorem dX10_wish_33 : decode cX10_wish 33 = .ok (.ldc2_w 170, 3) := by decide +kernel
theorem dX10_wish_36 : decode cX10_wish 36 = .ok (.invokestatic 112, 3) := by decide +kernel
theorem dX10_wish_39 : decode cX10_wish 39 = .ok (.ifCond .eq 16, 3) := by decide +kernel
theorem dX10_wish_42 : decode cX10_wish 42 = .ok (.iload 5, 2) := by decide +kernel
theorem dX10_wish_44 : decode cX10_wish 44 = .ok (.i2l, 1) := by decide +kernel
theorem dX10_wish_45 : decode cX10_wish 45 = .ok (.lconst 0, 1) := by decide +kernel
theorem dX10_wish_46 : decode cX10_wish 46 = .ok (.ldc2_w 172, 3) := by decide +kernel
theorem dX10_wish_49 : decode cX10_wish 49 = .ok (.invokestatic 112, 3) := by decide +kernel
theorem dX10_wish_52 : decode cX10_wish 52 = .ok (.ifCond .ne 6, 3) := by decide +kernel
theorem dX10_wish_55 : decode cX10_wish 55 = .ok (.bipush (-2), 2) := by decide +kernel
theorem dX10_wish_57 : decode cX10_wish 57 = .ok (.ireturn, 1) := by decide +kernel
theorem dX10_wish_58 : decode cX10_wish 58 = .ok (.aload_n 0, 1) := by decide +kernel
theorem dX10_wish_59 : decode cX10_wish 59 = .ok (.iconst 0, 1) := by decide +kernel
theorem dX10_wish_60 : decode cX10_wish 60 = .ok (.iload_n 1, 1) := by decide +kernel
theorem dX10_wish_61 : decode cX10_wish 61 = .ok (.iload_n 2, 1) := by decide +kernel
theorem dX10_wish_62 : decode cX10_wish 62 = .ok (.iload_n 3, 1) := by decide +kernel
theorem dX10_wish_63 : decode cX10_wish 63 = .ok (.iload 4, 2) := by decide +kernel
theorem dX10_wish_65 : decode cX10_wish 65 = .ok (.iload 5, 2) := by decide +kernel
theorem dX10_wish_67 : decode cX10_wish 67 = .ok (.invokevirtual 174, 3) := by decide +kernel
theorem dX10_wish_70 : decode cX10_wish 70 = .ok (.ireturn, 1) := by decide +kernel
theorem dX10_multiple_0 : decode cX10_multiple 0 = .ok (.iload_n 1, 1) := by decide +kernel
theorem dX10_multiple_1 : decode cX10_multiple 1 = .ok (.invokestatic 167, 3) := by decide +kernel
theorem dX10_multiple_4 : decode cX10_multiple 4 = .ok (.ifCond .ne 19, 3) := by decide +kernel
theorem dX10_multiple_7 : decode cX10_multiple 7 = .ok (.aload_n 0, 1) := by decide +kernel
theorem dX10_multiple_8 : decode cX10_multiple 8 = .ok (.iload_n 2, 1) := by decide +kernel
theorem dX10_multiple_9 : decode cX10_multiple 9 = .ok (.invokevirtual 124, 3) := by decide +kernel
theorem dX10_multiple_12 : decode cX10_multiple 12 = .ok (.ifCond .ne 11, 3) := by decide +kernel
theorem dX10_multiple_15 : decode cX10_multiple 15 = .ok (.aload_n 0, 1) := by decide +kernel
theorem dX10_multiple_16 : decode cX10_multiple 16 = .ok (.iload_n 3, 1) := by decide +kernel
theorem dX10_multiple_17 : decode cX10_multiple 17 = .ok (.invokevirtual 124, 3) := by decide +kernel
theorem dX10_multiple_20 : decode cX10_multiple 20 = .ok (.ifCond .eq 5, 3) := by decide +kernel
theorem dX10_multiple_23 : decode cX10_multiple 23 = .ok (.iconst (-1), 1) := by decide +kernel
theorem dX10_multiple_24 : decode cX10_multiple 24 = .ok (.ireturn, 1) := by decide +kernel
theorem dX10_multiple_25 : decode cX10_multiple 25 = .ok (.iload 4, 2) := by decide +kernel
theorem dX10_multiple_27 : decode cX10_multiple 27 = .ok (.i2l, 1) := by decide +kernel
theorem dX10_multiple_28 : decode cX10_multiple 28 = .ok (.lconst 1, 1) := by decide +kernel
theorem dX10_multiple_29 : decode cX10_multiple 29 = .ok (.ldc2_w 178, 3) := by decide +kernel
theorem dX10_multiple_32 : decode cX10_multiple 32 = .ok (.invokestatic 112, 3) := by decide +kernel
theorem dX10_multiple_35 : decode cX10_multiple 35 = .ok (.ifCond .eq 8, 3) := by decide +kernel
theorem dX10_multiple_38 : decode cX10_multiple 38 = .ok (.iload_n 2, 1) := by decide +kernel
theorem dX10_multiple_39 : decode cX10_multiple 39 = .ok (.iload_n 3, 1) := by decide +kernel
theorem dX10_multiple_40 : decode cX10_multiple 40 = .ok (.if_icmp .ne 6, 3) := by decide +kernel
theorem dX10_multiple_43 : decode cX10_multiple 43 = .ok (.bipush (-2), 2) := by decide +kernel
theorem dX10_multiple_45 : decode cX10_multiple 45 = .ok (.ireturn, 1) := by decide +kernel
theorem dX10_multiple_46 : decode cX10_multiple 46 = .ok (.aload_n 0, 1) := by decide +kernel
theorem dX10_multiple_47 : decode cX10_multiple 47 = .ok (.iconst 1, 1) := by decide +kernel
theorem dX10_multiple_48 : decode cX10_multiple 48 = .ok (.iload_n 1, 1) := by decide +kernel
theorem dX10_multiple_49 : decode cX10_multiple 49 = .ok (.iload_n 2, 1) := by decide +kernel
theorem dX10_multiple_50 : decode cX10_multiple 50 = .ok (.iload_n 3, 1) := by decide +kernel
theorem dX10_multiple_51 : decode cX10_multiple 51 = .ok (.iload 4, 2) := by decide +kernel
theorem dX10_multiple_53 : decode cX10_multiple 53 = .ok (.iconst 0, 1) := by decide +kernel
theorem dX10_multiple_54 : decode cX10_multiple 54 = .ok (.invokevirtual 174, 3) := by decide +kernel
theorem dX10_multiple_57 : decode cX10_multiple 57 = .ok (.ireturn, 1) := by decide +kernel
theorem dX10_missOf_0 : decode cX10_missOf 0 = .ok (.aload_n 0, 1) := by decide +kernel
theorem dX10_missOf_1 : decode cX10_missOf 1 = .ok (.getfield 54, 3) := by decide +kernel
theorem dX10_missOf_4 : decode cX10_missOf 4 = .ok (.iload_n 1, 1) := by decide +kernel
theorem dX10_missOf_5 : decode cX10_missOf 5 = .ok (.iaload, 1) := by decide +kernel
theorem dX10_missOf_6 : decode cX10_missOf 6 = .ok (.istore_n 2, 1) := by decide +kernel
theorem dX10_missOf_7 : decode cX10_missOf 7 = .ok (.aload_n 0, 1) := by decide +kernel
theorem dX10_missOf_8 : decode cX10_missOf 8 = .ok (.getfield 45, 3) := by decide +kernel
theorem dX10_missOf_11 : decode cX10_missOf 11 = .ok (.iload_n 2, 1) := by decide +kernel
theorem dX10_missOf_12 : decode cX10_missOf 12 = .ok (.laload, 1) := by decide +kernel
theorem dX10_missOf_13 : decode cX10_missOf 13 = .ok (.lconst 0, 1) := by decide +kernel
theorem dX10_missOf_14 : decode cX10_missOf 14 = .ok (.lcmp, 1) := by decide +kernel
theorem dX10_missOf_15 : decode cX10_missOf 15 = .ok (.ifCond .ne 6, 3) := by decide +kernel
theorem dX10_missOf_18 : decode cX10_missOf 18 = .ok (.ldc 180, 2) := by decide +kernel
theorem dX10_missOf_20 : decode cX10_missOf 20 = .ok (.ireturn, 1) := by decide +kernel
theorem dX10_missOf_21 : decode cX10_missOf 21 = .ok (.aload_n 0, 1) := by decide +kernel
theorem dX10_missOf_22 : decode cX10_missOf 22 = .ok (.getfield 57, 3) := by decide +kernel
theorem dX10_missOf_25 : decode cX10_missOf 25 = .ok (.iload_n 1, 1) := by decide +kernel
theorem dX10_missOf_26 : decode cX10_missOf 26 = .ok (.iaload, 1) := by decide +kernel
theorem dX10_missOf_27 : decode cX10_missOf 27 = .ok (.i2l, 1) := by decide +kernel
theorem dX10_missOf_28 : decode cX10_missOf 28 = .ok (.lstore_n 3, 1) := by decide +kernel
theorem dX10_missOf_29 : decode cX10_missOf 29 = .ok (.aload_n 0, 1) := by decide +kernel
theorem dX10_missOf_30 : decode cX10_missOf 30 = .ok (.getfield 60, 3) := by decide +kernel
theorem dX10_missOf_33 : decode cX10_missOf 33 = .ok (.iload_n 1, 1) := by decide +kernel
theorem dX10_missOf_34 : decode cX10_missOf 34 = .ok (.iaload, 1) := by decide +kernel
theorem dX10_missOf_35 : decode cX10_missOf 35 = .ok (.i2l, 1) := by decide +kernel
theorem dX10_missOf_36 : decode cX10_missOf 36 = .ok (.lstore 5, 2) := by decide +kernel
theorem dX10_missOf_38 : decode cX10_missOf 38 = .ok (.aload_n 0, 1) := by decide +kernel
theorem dX10_missOf_39 : decode cX10_missOf 39 = .ok (.getfield 48, 3) := by decide +kernel
theorem dX10_missOf_42 : decode cX10_missOf 42 = .ok (.iload_n 1, 1) := by decide +kernel
theorem dX10_missOf_43 : decode cX10_missOf 43 = .ok (.iaload, 1) := by decide +kernel
theorem dX10_missOf_44 : decode cX10_missOf 44 = .ok (.iconst 1, 1) := by decide +kernel
theorem dX10_missOf_45 : decode cX10_missOf 45 = .ok (.if_icmp .ne 90, 3) := by decide +kernel
theorem dX10_missOf_48 : decode cX10_missOf 48 = .ok (.aload_n 0, 1) := by decide +kernel
theorem dX10_missOf_49 : decode cX10_missOf 49 = .ok (.getfield 57, 3) := by decide +kernel
theorem dX10_missOf_52 : decode cX10_missOf 52 = .ok (.iload_n 1, 1) := by decide +kernel
theorem dX10_missOf_53 : decode cX10_missOf 53 = .ok (.iaload, 1) := by decide +kernel
theorem dX10_missOf_54 : decode cX10_missOf 54 = .ok (.istore 7, 2) := by decide +kernel
theorem dX10_missOf_56 : decode cX10_missOf 56 = .ok (.aload_n 0, 1) := by decide +kernel
theorem dX10_missOf_57 : decode cX10_missOf 57 = .ok (.getfield 45, 3) := by decide +kernel
theorem dX10_missOf_60 : decode cX10_missOf 60 = .ok (.iload 7, 2) := by decide +kernel
theorem dX10_missOf_62 : decode cX10_missOf 62 = .ok (.laload, 1) := by decide +kernel
theorem dX10_missOf_63 : decode cX10_missOf 63 = .ok (.lconst 0, 1) := by decide +kernel
theorem dX10_missOf_64 : decode cX10_missOf 64 = .ok (.lcmp, 1) := by decide +kernel
theorem dX10_missOf_65 : decode cX10_missOf 65 = .ok (.ifCond .ne 6, 3) := by decide +kernel
theorem dX10_missOf_68 : decode cX10_missOf 68 = .ok (.ldc 180, 2) := by decide +kernel
theorem dX10_missOf_70 : decode cX10_missOf 70 = .ok (.ireturn, 1) := by decide +kernel
theorem dX10_missOf_71 : decode cX10_missOf 71 = .ok (.lload 5, 2) := by decide +kernel
theorem dX10_missOf_73 : decode cX10_missOf 73 = .ok (.aload_n 0, 1) := by decide +kernel
theorem dX10_missOf_74 : decode cX10_missOf 74 = .ok (.getfield 45, 3) := by decide +kernel
theorem dX10_missOf_77 : decode cX10_missOf 77 = .ok (.iload 7, 2) := by decide +kernel
theorem dX10_missOf_79 : decode cX10_missOf 79 = .ok (.laload, 1) := by decide +kernel
theorem dX10_missOf_80 : decode cX10_missOf 80 = .ok (.invokestatic 132, 3) := by decide +kernel
theorem dX10_missOf_83 : decode cX10_missOf 83 = .ok (.lstore 8, 2) := by decide +kernel
theorem dX10_missOf_85 : decode cX10_missOf 85 = .ok (.aload_n 0, 1) := by decide +kernel
theorem dX10_missOf_86 : decode cX10_missOf 86 = .ok (.getfield 42, 3) := by decide +kernel
theorem dX10_missOf_89 : decode cX10_missOf 89 = .ok (.iload_n 2, 1) := by decide +kernel
theorem dX10_missOf_90 : decode cX10_missOf 90 = .ok (.laload, 1) := by decide +kernel
theorem dX10_missOf_91 : decode cX10_missOf 91 = .ok (.lload 5, 2) := by decide +kernel
theorem dX10_missOf_93 : decode cX10_missOf 93 = .ok (.lload 8, 2) := by decide +kernel
theorem dX10_missOf_95 : decode cX10_missOf 95 = .ok (.ldiv, 1) := by decide +kernel
theorem dX10_missOf_96 : decode cX10_missOf 96 = .ok (.aload_n 0, 1) := by decide +kernel
theorem dX10_missOf_97 : decode cX10_missOf 97 = .ok (.getfield 42, 3) := by decide +kernel
theorem dX10_missOf_100 : decode cX10_missOf 100 = .ok (.iload 7, 2) := by decide +kernel
theorem dX10_missOf_102 : decode cX10_missOf 102 = .ok (.laload, 1) := by decide +kernel
theorem dX10_missOf_103 : decode cX10_missOf 103 = .ok (.lmul, 1) := by decide +kernel
theorem dX10_missOf_104 : decode cX10_missOf 104 = .ok (.lcmp, 1) := by decide +kernel
theorem dX10_missOf_105 : decode cX10_missOf 105 = .ok (.ifCond .ne 27, 3) := by decide +kernel
theorem dX10_missOf_108 : decode cX10_missOf 108 = .ok (.aload_n 0, 1) := by decide +kernel
theorem dX10_missOf_109 : decode cX10_missOf 109 = .ok (.getfield 45, 3) := by decide +kernel
theorem dX10_missOf_112 : decode cX10_missOf 112 = .ok (.iload_n 2, 1) := by decide +kernel
theorem dX10_missOf_113 : decode cX10_missOf 113 = .ok (.laload, 1) := by decide +kernel
theorem dX10_missOf_114 : decode cX10_missOf 114 = .ok (.aload_n 0, 1) := by decide +kernel
theorem dX10_missOf_115 : decode cX10_missOf 115 = .ok (.getfield 45, 3) := by decide +kernel
theorem dX10_missOf_118 : decode cX10_missOf 118 = .ok (.iload 7, 2) := by decide +kernel
theorem dX10_missOf_120 : decode cX10_missOf 120 = .ok (.laload, 1) := by decide +kernel
theorem dX10_missOf_121 : decode cX10_missOf 121 = .ok (.lload 8, 2) := by decide +kernel
theorem dX10_missOf_123 : decode cX10_missOf 123 = .ok (.ldiv, 1) := by decide +kernel
theorem dX10_missOf_124 : decode cX10_missOf 124 = .ok (.lcmp, 1) := by decide +kernel
theorem dX10_missOf_125 : decode cX10_missOf 125 = .ok (.ifCond .ne 7, 3) := by decide +kernel
theorem dX10_missOf_128 : decode cX10_missOf 128 = .ok (.iconst 0, 1) := by decide +kernel
theorem dX10_missOf_129 : decode cX10_missOf 129 = .ok (.goto 5, 3) := by decide +kernel
theorem dX10_missOf_132 : decode cX10_missOf 132 = .ok (.ldc 180, 2) := by decide +kernel
theorem dX10_missOf_134 : decode cX10_missOf 134 = .ok (.ireturn, 1) := by decide +kernel
theorem dX10_missOf_135 : decode cX10_missOf 135 = .ok (.aload_n 0, 1) := by decide +kernel
theorem dX10_missOf_136 : decode cX10_missOf 136 = .ok (.getfield 42, 3) := by decide +kernel
theorem dX10_missOf_139 : decode cX10_missOf 139 = .ok (.iload_n 2, 1) := by decide +kernel
theorem dX10_missOf_140 : decode cX10_missOf 140 = .ok (.laload, 1) := by decide +kernel
theorem dX10_missOf_141 : decode cX10_missOf 141 = .ok (.lload 5, 2) := by decide +kernel
theorem dX10_missOf_143 : decode cX10_missOf 143 = .ok (.lmul, 1) := by decide +kernel
theorem dX10_missOf_144 : decode cX10_missOf 144 = .ok (.lstore 7, 2) := by decide +kernel
theorem dX10_missOf_146 : decode cX10_missOf 146 = .ok (.lload_n 3, 1) := by decide +kernel
theorem dX10_missOf_147 : decode cX10_missOf 147 = .ok (.aload_n 0, 1) := by decide +kernel
theorem dX10_missOf_148 : decode cX10_missOf 148 = .ok (.getfield 45, 3) := by decide +kernel
theorem dX10_missOf_151 : decode cX10_missOf 151 = .ok (.iload_n 2, 1) := by decide +kernel
theorem dX10_missOf_152 : decode cX10_missOf 152 = .ok (.laload, 1) := by decide +kernel
theorem dX10_missOf_153 : decode cX10_missOf 153 = .ok (.lmul, 1) := by decide +kernel
theorem dX10_missOf_154 : decode cX10_missOf 154 = .ok (.lstore 9, 2) := by decide +kernel
theorem dX10_missOf_156 : decode cX10_missOf 156 = .ok (.lload 7, 2) := by decide +kernel
theorem dX10_missOf_158 : decode cX10_missOf 158 = .ok (.lload 9, 2) := by decide +kernel
theorem dX10_missOf_160 : decode cX10_missOf 160 = .ok (.lcmp, 1) := by decide +kernel
theorem dX10_missOf_161 : decode cX10_missOf 161 = .ok (.ifCond .le 11, 3) := by decide +kernel
theorem dX10_missOf_164 : decode cX10_missOf 164 = .ok (.lload 7, 2) := by decide +kernel
theorem dX10_missOf_166 : decode cX10_missOf 166 = .ok (.lload 9, 2) := by decide +kernel
theorem dX10_missOf_168 : decode cX10_missOf 168 = .ok (.lsub, 1) := by decide +kernel
theorem dX10_missOf_169 : decode cX10_missOf 169 = .ok (.goto 8, 3) := by decide +kernel
theorem dX10_missOf_172 : decode cX10_missOf 172 = .ok (.lload 9, 2) := by decide +kernel
theorem dX10_missOf_174 : decode cX10_missOf 174 = .ok (.lload 7, 2) := by decide +kernel
theorem dX10_missOf_176 : decode cX10_missOf 176 = .ok (.lsub, 1) := by decide +kernel
theorem dX10_missOf_177 : decode cX10_missOf 177 = .ok (.ldc2_w 170, 3) := by decide +kernel
theorem dX10_missOf_180 : decode cX10_missOf 180 = .ok (.lmul, 1) := by decide +kernel
theorem dX10_missOf_181 : decode cX10_missOf 181 = .ok (.lload 9, 2) := by decide +kernel
theorem dX10_missOf_183 : decode cX10_missOf 183 = .ok (.ldiv, 1) := by decide +kernel
theorem dX10_missOf_184 : decode cX10_missOf 184 = .ok (.lstore 11, 2) := by decide +kernel
theorem dX10_missOf_186 : decode cX10_missOf 186 = .ok (.lload 11, 2) := by decide +kernel
theorem dX10_missOf_188 : decode cX10_missOf 188 = .ok (.ldc2_w 118, 3) := by decide +kernel
theorem dX10_missOf_191 : decode cX10_missOf 191 = .ok (.lcmp, 1) := by decide +kernel
theorem dX10_missOf_192 : decode cX10_missOf 192 = .ok (.ifCond .le 8, 3) := by decide +kernel
theorem dX10_missOf_195 : decode cX10_missOf 195 = .ok (.ldc 180, 2) := by decide +kernel
theorem dX10_missOf_197 : decode cX10_missOf 197 = .ok (.goto 6, 3) := by decide +kernel
theorem dX10_missOf_200 : decode cX10_missOf 200 = .ok (.lload 11, 2) := by decide +kernel
theorem dX10_missOf_202 : decode cX10_missOf 202 = .ok (.l2i, 1) := by decide +kernel
theorem dX10_missOf_203 : decode cX10_missOf 203 = .ok (.ireturn, 1) := by decide +kernel
theorem dX10_miss_0 : decode cX10_miss 0 = .ok (.aload_n 0, 1) := by decide +kernel
theorem dX10_miss_1 : decode cX10_miss 1 = .ok (.iload_n 1, 1) := by decide +kernel
theorem dX10_miss_2 : decode cX10_miss 2 = .ok (.invokevirtual 181, 3) := by decide +kernel
theorem dX10_miss_5 : decode cX10_miss 5 = .ok (.ifCond .eq 5, 3) := by decide +kernel
theorem dX10_miss_8 : decode cX10_miss 8 = .ok (.iconst (-1), 1) := by decide +kernel
theorem dX10_miss_9 : decode cX10_miss 9 = .ok (.ireturn, 1) := by decide +kernel
theorem dX10_miss_10 : decode cX10_miss 10 = .ok (.aload_n 0, 1) := by decide +kernel
theorem dX10_miss_11 : decode cX10_miss 11 = .ok (.invokevirtual 154, 3) := by decide +kernel
theorem dX10_miss_14 : decode cX10_miss 14 = .ok (.aload_n 0, 1) := by decide +kernel
theorem dX10_miss_15 : decode cX10_miss 15 = .ok (.iload_n 1, 1) := by decide +kernel
theorem dX10_miss_16 : decode cX10_miss 16 = .ok (.invokevirtual 184, 3) := by decide +kernel
theorem dX10_miss_19 : decode cX10_miss 19 = .ok (.ireturn, 1) := by decide +kernel
theorem dX10_wished_0 : decode cX10_wished 0 = .ok (.aload_n 0, 1) := by decide +kernel
theorem dX10_wished_1 : decode cX10_wished 1 = .ok (.iload_n 1, 1) := by decide +kernel
theorem dX10_wished_2 : decode cX10_wished 2 = .ok (.invokevirtual 181, 3) := by decide +kernel
theorem dX10_wished_5 : decode cX10_wished 5 = .ok (.ifCond .eq 5, 3) := by decide +kernel
theorem dX10_wished_8 : decode cX10_wished 8 = .ok (.iconst (-1), 1) := by decide +kernel
theorem dX10_wished_9 : decode cX10_wished 9 = .ok (.ireturn, 1) := by decide +kernel
theorem dX10_wished_10 : decode cX10_wished 10 = .ok (.iload_n 2, 1) := by decide +kernel
theorem dX10_wished_11 : decode cX10_wished 11 = .ok (.tableswitch 79 0 5 #[37, 44, 51, 58, 65, 72], 37) := by decide +kernel
theorem dX10_wished_48 : decode cX10_wished 48 = .ok (.aload_n 0, 1) := by decide +kernel
theorem dX10_wished_49 : decode cX10_wished 49 = .ok (.getfield 48, 3) := by decide +kernel
theorem dX10_wished_52 : decode cX10_wished 52 = .ok (.iload_n 1, 1) := by decide +kernel
theorem dX10_wished_53 : decode cX10_wished 53 = .ok (.iaload, 1) := by decide +kernel
theorem dX10_wished_54 : decode cX10_wished 54 = .ok (.ireturn, 1) := by decide +kernel
theorem dX10_wished_55 : decode cX10_wished 55 = .ok (.aload_n 0, 1) := by decide +kernel
theorem dX10_wished_56 : decode cX10_wished 56 = .ok (.getfield 51, 3) := by decide +kernel
theorem dX10_wished_59 : decode cX10_wished 59 = .ok (.iload_n 1, 1) := by decide +kernel
theorem dX10_wished_60 : decode cX10_wished 60 = .ok (.iaload, 1) := by decide +kernel
theorem dX10_wished_61 : decode cX10_wished 61 = .ok (.ireturn, 1) := by decide +kernel
theorem dX10_wished_62 : decode cX10_wished 62 = .ok (.aload_n 0, 1) := by decide +kernel
theorem dX10_wished_63 : decode cX10_wished 63 = .ok (.getfield 54, 3) := by decide +kernel
theorem dX10_wished_66 : decode cX10_wished 66 = .ok (.iload_n 1, 1) := by decide +kernel
theorem dX10_wished_67 : decode cX10_wished 67 = .ok (.iaload, 1) := by decide +kernel
theorem dX10_wished_68 : decode cX10_wished 68 = .ok (.ireturn, 1) := by decide +kernel
theorem dX10_wished_69 : decode cX10_wished 69 = .ok (.aload_n 0, 1) := by decide +kernel
theorem dX10_wished_70 : decode cX10_wished 70 = .ok (.getfield 57, 3) := by decide +kernel
theorem dX10_wished_73 : decode cX10_wished 73 = .ok (.iload_n 1, 1) := by decide +kernel
theorem dX10_wished_74 : decode cX10_wished 74 = .ok (.iaload, 1) := by decide +kernel
theorem dX10_wished_75 : decode cX10_wished 75 = .ok (.ireturn, 1) := by decide +kernel
theorem dX10_wished_76 : decode cX10_wished 76 = .ok (.aload_n 0, 1) := by decide +kernel
theorem dX10_wished_77 : decode cX10_wished 77 = .ok (.getfield 60, 3) := by decide +kernel
theorem dX10_wished_80 : decode cX10_wished 80 = .ok (.iload_n 1, 1) := by decide +kernel
theorem dX10_wished_81 : decode cX10_wished 81 = .ok (.iaload, 1) := by decide +kernel
theorem dX10_wished_82 : decode cX10_wished 82 = .ok (.ireturn, 1) := by decide +kernel
theorem dX10_wished_83 : decode cX10_wished 83 = .ok (.aload_n 0, 1) := by decide +kernel
theorem dX10_wished_84 : decode cX10_wished 84 = .ok (.getfield 63, 3) := by decide +kernel
theorem dX10_wished_87 : decode cX10_wished 87 = .ok (.iload_n 1, 1) := by decide +kernel
theorem dX10_wished_88 : decode cX10_wished 88 = .ok (.iaload, 1) := by decide +kernel
theorem dX10_wished_89 : decode cX10_wished 89 = .ok (.ireturn, 1) := by decide +kernel
theorem dX10_wished_90 : decode cX10_wished 90 = .ok (.bipush (-2), 2) := by decide +kernel
theorem dX10_wished_92 : decode cX10_wished 92 = .ok (.ireturn, 1) := by decide +kernel
theorem dX10_rows_0 : decode cX10_rows 0 = .ok (.lconst 1, 1) := by decide +kernel
theorem dX10_rows_1 : decode cX10_rows 1 = .ok (.lstore_n 1, 1) := by decide +kernel
theorem dX10_rows_2 : decode cX10_rows 2 = .ok (.iconst 0, 1) := by decide +kernel
theorem dX10_rows_3 : decode cX10_rows 3 = .ok (.istore_n 3, 1) := by decide +kernel
theorem dX10_rows_4 : decode cX10_rows 4 = .ok (.iload_n 3, 1) := by decide +kernel
theorem dX10_rows_5 : decode cX10_rows 5 = .ok (.aload_n 0, 1) := by decide +kernel
theorem dX10_rows_6 : decode cX10_rows 6 = .ok (.getfield 109, 3) := by decide +kernel
theorem dX10_rows_9 : decode cX10_rows 9 = .ok (.if_icmp .ge 57, 3) := by decide +kernel
theorem dX10_rows_12 : decode cX10_rows 12 = .ok (.aload_n 0, 1) := by decide +kernel
theorem dX10_rows_13 : decode cX10_rows 13 = .ok (.getfield 28, 3) := by decide +kernel
theorem dX10_rows_16 : decode cX10_rows 16 = .ok (.iload_n 3, 1) := by decide +kernel
theorem dX10_rows_17 : decode cX10_rows 17 = .ok (.baload, 1) := by decide +kernel
theorem dX10_rows_18 : decode cX10_rows 18 = .ok (.ifCond .eq 7, 3) := by decide +kernel
theorem dX10_rows_21 : decode cX10_rows 21 = .ok (.lload_n 1, 1) := by decide +kernel
theorem dX10_rows_22 : decode cX10_rows 22 = .ok (.goto 21, 3) := by decide +kernel
theorem dX10_rows_25 : decode cX10_rows 25 = .ok (.lload_n 1, 1) := by decide +kernel
theorem dX10_rows_26 : decode cX10_rows 26 = .ok (.aload_n 0, 1) := by decide +kernel
theorem dX10_rows_27 : decode cX10_rows 27 = .ok (.getfield 22, 3) := by decide +kernel
theorem dX10_rows_30 : decode cX10_rows 30 = .ok (.iload_n 3, 1) := by decide +kernel
theorem dX10_rows_31 : decode cX10_rows 31 = .ok (.iaload, 1) := by decide +kernel
theorem dX10_rows_32 : decode cX10_rows 32 = .ok (.aload_n 0, 1) := by decide +kernel
theorem dX10_rows_33 : decode cX10_rows 33 = .ok (.getfield 19, 3) := by decide +kernel
theorem dX10_rows_36 : decode cX10_rows 36 = .ok (.iload_n 3, 1) := by decide +kernel
theorem dX10_rows_37 : decode cX10_rows 37 = .ok (.iaload, 1) := by decide +kernel
theorem dX10_rows_38 : decode cX10_rows 38 = .ok (.isub, 1) := by decide +kernel
theorem dX10_rows_39 : decode cX10_rows 39 = .ok (.iconst 1, 1) := by decide +kernel
theorem dX10_rows_40 : decode cX10_rows 40 = .ok (.iadd, 1) := by decide +kernel
theorem dX10_rows_41 : decode cX10_rows 41 = .ok (.i2l, 1) := by decide +kernel
theorem dX10_rows_42 : decode cX10_rows 42 = .ok (.lmul, 1) := by decide +kernel
theorem dX10_rows_43 : decode cX10_rows 43 = .ok (.lstore_n 1, 1) := by decide +kernel
theorem dX10_rows_44 : decode cX10_rows 44 = .ok (.lload_n 1, 1) := by decide +kernel
theorem dX10_rows_45 : decode cX10_rows 45 = .ok (.ldc2_w 118, 3) := by decide +kernel
theorem dX10_rows_48 : decode cX10_rows 48 = .ok (.lcmp, 1) := by decide +kernel
theorem dX10_rows_49 : decode cX10_rows 49 = .ok (.ifCond .le 9, 3) := by decide +kernel
theorem dX10_rows_52 : decode cX10_rows 52 = .ok (.ldc2_w 118, 3) := by decide +kernel
theorem dX10_rows_55 : decode cX10_rows 55 = .ok (.goto 4, 3) := by decide +kernel
theorem dX10_rows_58 : decode cX10_rows 58 = .ok (.lload_n 1, 1) := by decide +kernel
theorem dX10_rows_59 : decode cX10_rows 59 = .ok (.lstore_n 1, 1) := by decide +kernel
theorem dX10_rows_60 : decode cX10_rows 60 = .ok (.iinc 3 1, 3) := by decide +kernel
theorem dX10_rows_63 : decode cX10_rows 63 = .ok (.goto (-59), 3) := by decide +kernel
theorem dX10_rows_66 : decode cX10_rows 66 = .ok (.lload_n 1, 1) := by decide +kernel
theorem dX10_rows_67 : decode cX10_rows 67 = .ok (.l2i, 1) := by decide +kernel
theorem dX10_rows_68 : decode cX10_rows 68 = .ok (.ireturn, 1) := by decide +kernel
theorem dX10_layFirst_0 : decode cX10_layFirst 0 = .ok (.iconst 0, 1) := by decide +kernel
theorem dX10_layFirst_1 : decode cX10_layFirst 1 = .ok (.istore_n 1, 1) := by decide +kernel
theorem dX10_layFirst_2 : decode cX10_layFirst 2 = .ok (.iload_n 1, 1) := by decide +kernel
theorem dX10_layFirst_3 : decode cX10_layFirst 3 = .ok (.aload_n 0, 1) := by decide +kernel
theorem dX10_layFirst_4 : decode cX10_layFirst 4 = .ok (.getfield 109, 3) := by decide +kernel
theorem dX10_layFirst_7 : decode cX10_layFirst 7 = .ok (.if_icmp .ge 39, 3) := by decide +kernel
theorem dX10_layFirst_10 : decode cX10_layFirst 10 = .ok (.aload_n 0, 1) := by decide +kernel
theorem dX10_layFirst_11 : decode cX10_layFirst 11 = .ok (.getfield 39, 3) := by decide +kernel
theorem dX10_layFirst_14 : decode cX10_layFirst 14 = .ok (.iload_n 1, 1) := by decide +kernel
theorem dX10_layFirst_15 : decode cX10_layFirst 15 = .ok (.aload_n 0, 1) := by decide +kernel
theorem dX10_layFirst_16 : decode cX10_layFirst 16 = .ok (.getfield 28, 3) := by decide +kernel
theorem dX10_layFirst_19 : decode cX10_layFirst 19 = .ok (.iload_n 1, 1) := by decide +kernel
theorem dX10_layFirst_20 : decode cX10_layFirst 20 = .ok (.baload, 1) := by decide +kernel
theorem dX10_layFirst_21 : decode cX10_layFirst 21 = .ok (.ifCond .eq 12, 3) := by decide +kernel
theorem dX10_layFirst_24 : decode cX10_layFirst 24 = .ok (.aload_n 0, 1) := by decide +kernel
theorem dX10_layFirst_25 : decode cX10_layFirst 25 = .ok (.getfield 25, 3) := by decide +kernel
theorem dX10_layFirst_28 : decode cX10_layFirst 28 = .ok (.iload_n 1, 1) := by decide +kernel
theorem dX10_layFirst_29 : decode cX10_layFirst 29 = .ok (.iaload, 1) := by decide +kernel
theorem dX10_layFirst_30 : decode cX10_layFirst 30 = .ok (.goto 9, 3) := by decide +kernel
theorem dX10_layFirst_33 : decode cX10_layFirst 33 = .ok (.aload_n 0, 1) := by decide +kernel
theorem dX10_layFirst_34 : decode cX10_layFirst 34 = .ok (.getfield 19, 3) := by decide +kernel
theorem dX10_layFirst_37 : decode cX10_layFirst 37 = .ok (.iload_n 1, 1) := by decide +kernel
theorem dX10_layFirst_38 : decode cX10_layFirst 38 = .ok (.iaload, 1) := by decide +kernel
theorem dX10_layFirst_39 : decode cX10_layFirst 39 = .ok (.iastore, 1) := by decide +kernel
theorem dX10_layFirst_40 : decode cX10_layFirst 40 = .ok (.iinc 1 1, 3) := by decide +kernel
theorem dX10_layFirst_43 : decode cX10_layFirst 43 = .ok (.goto (-41), 3) := by decide +kernel
theorem dX10_layFirst_46 : decode cX10_layFirst 46 = .ok (.aload_n 0, 1) := by decide +kernel
theorem dX10_layFirst_47 : decode cX10_layFirst 47 = .ok (.iconst 0, 1) := by decide +kernel
theorem dX10_layFirst_48 : decode cX10_layFirst 48 = .ok (.invokevirtual 148, 3) := by decide +kernel
theorem dX10_layFirst_51 : decode cX10_layFirst 51 = .ok (.aload_n 0, 1) := by decide +kernel
theorem dX10_layFirst_52 : decode cX10_layFirst 52 = .ok (.iconst 1, 1) := by decide +kernel
theorem dX10_layFirst_53 : decode cX10_layFirst 53 = .ok (.putfield 188, 3) := by decide +kernel
theorem dX10_layFirst_56 : decode cX10_layFirst 56 = .ok (.return_, 1) := by decide +kernel
theorem dX10_goesOn_0 : decode cX10_goesOn 0 = .ok (.aload_n 0, 1) := by decide +kernel
theorem dX10_goesOn_1 : decode cX10_goesOn 1 = .ok (.getfield 109, 3) := by decide +kernel
theorem dX10_goesOn_4 : decode cX10_goesOn 4 = .ok (.iconst 1, 1) := by decide +kernel
theorem dX10_goesOn_5 : decode cX10_goesOn 5 = .ok (.isub, 1) := by decide +kernel
theorem dX10_goesOn_6 : decode cX10_goesOn 6 = .ok (.istore_n 1, 1) := by decide +kernel
theorem dX10_goesOn_7 : decode cX10_goesOn 7 = .ok (.iload_n 1, 1) := by decide +kernel
theorem dX10_goesOn_8 : decode cX10_goesOn 8 = .ok (.ifCond .lt 72, 3) := by decide +kernel
theorem dX10_goesOn_11 : decode cX10_goesOn 11 = .ok (.aload_n 0, 1) := by decide +kernel
theorem dX10_goesOn_12 : decode cX10_goesOn 12 = .ok (.getfield 28, 3) := by decide +kernel
theorem dX10_goesOn_15 : decode cX10_goesOn 15 = .ok (.iload_n 1, 1) := by decide +kernel
theorem dX10_goesOn_16 : decode cX10_goesOn 16 = .ok (.baload, 1) := by decide +kernel
theorem dX10_goesOn_17 : decode cX10_goesOn 17 = .ok (.ifCond .ne 57, 3) := by decide +kernel
theorem dX10_goesOn_20 : decode cX10_goesOn 20 = .ok (.aload_n 0, 1) := by decide +kernel
theorem dX10_goesOn_21 : decode cX10_goesOn 21 = .ok (.getfield 39, 3) := by decide +kernel
theorem dX10_goesOn_24 : decode cX10_goesOn 24 = .ok (.iload_n 1, 1) := by decide +kernel
theorem dX10_goesOn_25 : decode cX10_goesOn 25 = .ok (.iaload, 1) := by decide +kernel
theorem dX10_goesOn_26 : decode cX10_goesOn 26 = .ok (.aload_n 0, 1) := by decide +kernel
theorem dX10_goesOn_27 : decode cX10_goesOn 27 = .ok (.getfield 22, 3) := by decide +kernel
theorem dX10_goesOn_30 : decode cX10_goesOn 30 = .ok (.iload_n 1, 1) := by decide +kernel
theorem dX10_goesOn_31 : decode cX10_goesOn 31 = .ok (.iaload, 1) := by decide +kernel
theorem dX10_goesOn_32 : decode cX10_goesOn 32 = .ok (.if_icmp .ge 30, 3) := by decide +kernel
theorem dX10_goesOn_35 : decode cX10_goesOn 35 = .ok (.aload_n 0, 1) := by decide +kernel
theorem dX10_goesOn_36 : decode cX10_goesOn 36 = .ok (.getfield 39, 3) := by decide +kernel
theorem dX10_goesOn_39 : decode cX10_goesOn 39 = .ok (.iload_n 1, 1) := by decide +kernel
theorem dX10_goesOn_40 : decode cX10_goesOn 40 = .ok (.dup2, 1) := by decide +kernel
theorem dX10_goesOn_41 : decode cX10_goesOn 41 = .ok (.iaload, 1) := by decide +kernel
theorem dX10_goesOn_42 : decode cX10_goesOn 42 = .ok (.iconst 1, 1) := by decide +kernel
theorem dX10_goesOn_43 : decode cX10_goesOn 43 = .ok (.iadd, 1) := by decide +kernel
theorem dX10_goesOn_44 : decode cX10_goesOn 44 = .ok (.iastore, 1) := by decide +kernel
theorem dX10_goesOn_45 : decode cX10_goesOn 45 = .ok (.aload_n 0, 1) := by decide +kernel
theorem dX10_goesOn_46 : decode cX10_goesOn 46 = .ok (.iload_n 1, 1) := by decide +kernel
theorem dX10_goesOn_47 : decode cX10_goesOn 47 = .ok (.invokevirtual 148, 3) := by decide +kernel
theorem dX10_goesOn_50 : decode cX10_goesOn 50 = .ok (.aload_n 0, 1) := by decide +kernel
theorem dX10_goesOn_51 : decode cX10_goesOn 51 = .ok (.dup, 1) := by decide +kernel
theorem dX10_goesOn_52 : decode cX10_goesOn 52 = .ok (.getfield 188, 3) := by decide +kernel
theorem dX10_goesOn_55 : decode cX10_goesOn 55 = .ok (.iconst 1, 1) := by decide +kernel
theorem dX10_goesOn_56 : decode cX10_goesOn 56 = .ok (.iadd, 1) := by decide +kernel
theorem dX10_goesOn_57 : decode cX10_goesOn 57 = .ok (.putfield 188, 3) := by decide +kernel
theorem dX10_goesOn_60 : decode cX10_goesOn 60 = .ok (.iconst 1, 1) := by decide +kernel
theorem dX10_goesOn_61 : decode cX10_goesOn 61 = .ok (.ireturn, 1) := by decide +kernel
theorem dX10_goesOn_62 : decode cX10_goesOn 62 = .ok (.aload_n 0, 1) := by decide +kernel
theorem dX10_goesOn_63 : decode cX10_goesOn 63 = .ok (.getfield 39, 3) := by decide +kernel
theorem dX10_goesOn_66 : decode cX10_goesOn 66 = .ok (.iload_n 1, 1) := by decide +kernel
theorem dX10_goesOn_67 : decode cX10_goesOn 67 = .ok (.aload_n 0, 1) := by decide +kernel
theorem dX10_goesOn_68 : decode cX10_goesOn 68 = .ok (.getfield 19, 3) := by decide +kernel
theorem dX10_goesOn_71 : decode cX10_goesOn 71 = .ok (.iload_n 1, 1) := by decide +kernel
theorem dX10_goesOn_72 : decode cX10_goesOn 72 = .ok (.iaload, 1) := by decide +kernel
theorem dX10_goesOn_73 : decode cX10_goesOn 73 = .ok (.iastore, 1) := by decide +kernel
theorem dX10_goesOn_74 : decode cX10_goesOn 74 = .ok (.iinc 1 (-1), 3) := by decide +kernel
theorem dX10_goesOn_77 : decode cX10_goesOn 77 = .ok (.goto (-70), 3) := by decide +kernel
theorem dX10_goesOn_80 : decode cX10_goesOn 80 = .ok (.iconst 0, 1) := by decide +kernel
theorem dX10_goesOn_81 : decode cX10_goesOn 81 = .ok (.ireturn, 1) := by decide +kernel
theorem dX10_judge_0 : decode cX10_judge 0 = .ok (.iconst 0, 1) := by decide +kernel
theorem dX10_judge_1 : decode cX10_judge 1 = .ok (.istore_n 2, 1) := by decide +kernel
theorem dX10_judge_2 : decode cX10_judge 2 = .ok (.lconst 0, 1) := by decide +kernel
theorem dX10_judge_3 : decode cX10_judge 3 = .ok (.lstore_n 3, 1) := by decide +kernel
theorem dX10_judge_4 : decode cX10_judge 4 = .ok (.iconst 0, 1) := by decide +kernel
theorem dX10_judge_5 : decode cX10_judge 5 = .ok (.istore 5, 2) := by decide +kernel
theorem dX10_judge_7 : decode cX10_judge 7 = .ok (.iload 5, 2) := by decide +kernel
theorem dX10_judge_9 : decode cX10_judge 9 = .ok (.aload_n 0, 1) := by decide +kernel
theorem dX10_judge_10 : decode cX10_judge 10 = .ok (.getfield 164, 3) := by decide +kernel
theorem dX10_judge_13 : decode cX10_judge 13 = .ok (.if_icmp .ge 60, 3) := by decide +kernel
theorem dX10_judge_16 : decode cX10_judge 16 = .ok (.aload_n 0, 1) := by decide +kernel
theorem dX10_judge_17 : decode cX10_judge 17 = .ok (.getfield 51, 3) := by decide +kernel
theorem dX10_judge_20 : decode cX10_judge 20 = .ok (.iload 5, 2) := by decide +kernel
theorem dX10_judge_22 : decode cX10_judge 22 = .ok (.iaload, 1) := by decide +kernel
theorem dX10_judge_23 : decode cX10_judge 23 = .ok (.iload_n 1, 1) := by decide +kernel
theorem dX10_judge_24 : decode cX10_judge 24 = .ok (.if_icmp .ne 43, 3) := by decide +kernel
theorem dX10_judge_27 : decode cX10_judge 27 = .ok (.aload_n 0, 1) := by decide +kernel
theorem dX10_judge_28 : decode cX10_judge 28 = .ok (.iload 5, 2) := by decide +kernel
theorem dX10_judge_30 : decode cX10_judge 30 = .ok (.invokevirtual 184, 3) := by decide +kernel
theorem dX10_judge_33 : decode cX10_judge 33 = .ok (.istore 6, 2) := by decide +kernel
theorem dX10_judge_35 : decode cX10_judge 35 = .ok (.iload 6, 2) := by decide +kernel
theorem dX10_judge_37 : decode cX10_judge 37 = .ok (.aload_n 0, 1) := by decide +kernel
theorem dX10_judge_38 : decode cX10_judge 38 = .ok (.getfield 63, 3) := by decide +kernel
theorem dX10_judge_41 : decode cX10_judge 41 = .ok (.iload 5, 2) := by decide +kernel
theorem dX10_judge_43 : decode cX10_judge 43 = .ok (.iaload, 1) := by decide +kernel
theorem dX10_judge_44 : decode cX10_judge 44 = .ok (.if_icmp .le 4, 3) := by decide +kernel
theorem dX10_judge_47 : decode cX10_judge 47 = .ok (.return_, 1) := by decide +kernel
theorem dX10_judge_48 : decode cX10_judge 48 = .ok (.iload 6, 2) := by decide +kernel
theorem dX10_judge_50 : decode cX10_judge 50 = .ok (.iload_n 2, 1) := by decide +kernel
theorem dX10_judge_51 : decode cX10_judge 51 = .ok (.if_icmp .le 8, 3) := by decide +kernel
theorem dX10_judge_54 : decode cX10_judge 54 = .ok (.iload 6, 2) := by decide +kernel
theorem dX10_judge_56 : decode cX10_judge 56 = .ok (.goto 4, 3) := by decide +kernel
theorem dX10_judge_59 : decode cX10_judge 59 = .ok (.iload_n 2, 1) := by decide +kernel
theorem dX10_judge_60 : decode cX10_judge 60 = .ok (.istore_n 2, 1) := by decide +kernel
theorem dX10_judge_61 : decode cX10_judge 61 = .ok (.lload_n 3, 1) := by decide +kernel
theorem dX10_judge_62 : decode cX10_judge 62 = .ok (.iload 6, 2) := by decide +kernel
theorem dX10_judge_64 : decode cX10_judge 64 = .ok (.i2l, 1) := by decide +kernel
theorem dX10_judge_65 : decode cX10_judge 65 = .ok (.ladd, 1) := by decide +kernel
theorem dX10_judge_66 : decode cX10_judge 66 = .ok (.lstore_n 3, 1) := by decide +kernel
theorem dX10_judge_67 : decode cX10_judge 67 = .ok (.iinc 5 1, 3) := by decide +kernel
theorem dX10_judge_70 : decode cX10_judge 70 = .ok (.goto (-63), 3) := by decide +kernel
theorem dX10_judge_73 : decode cX10_judge 73 = .ok (.aload_n 0, 1) := by decide +kernel
theorem dX10_judge_74 : decode cX10_judge 74 = .ok (.invokevirtual 161, 3) := by decide +kernel
theorem dX10_judge_77 : decode cX10_judge 77 = .ok (.lstore 5, 2) := by decide +kernel
theorem dX10_judge_79 : decode cX10_judge 79 = .ok (.aload_n 0, 1) := by decide +kernel
theorem dX10_judge_80 : decode cX10_judge 80 = .ok (.getfield 191, 3) := by decide +kernel
theorem dX10_judge_83 : decode cX10_judge 83 = .ok (.ifCond .lt 47, 3) := by decide +kernel
theorem dX10_judge_86 : decode cX10_judge 86 = .ok (.iload_n 2, 1) := by decide +kernel
theorem dX10_judge_87 : decode cX10_judge 87 = .ok (.aload_n 0, 1) := by decide +kernel
theorem dX10_judge_88 : decode cX10_judge 88 = .ok (.getfield 191, 3) := by decide +kernel
theorem dX10_judge_91 : decode cX10_judge 91 = .ok (.if_icmp .lt 39, 3) := by decide +kernel
theorem dX10_judge_94 : decode cX10_judge 94 = .ok (.iload_n 2, 1) := by decide +kernel
theorem dX10_judge_95 : decode cX10_judge 95 = .ok (.aload_n 0, 1) := by decide +kernel
theorem dX10_judge_96 : decode cX10_judge 96 = .ok (.getfield 191, 3) := by decide +kernel
theorem dX10_judge_99 : decode cX10_judge 99 = .ok (.if_icmp .ne 35, 3) := by decide +kernel
theorem dX10_judge_102 : decode cX10_judge 102 = .ok (.lload_n 3, 1) := by decide +kernel
theorem dX10_judge_103 : decode cX10_judge 103 = .ok (.aload_n 0, 1) := by decide +kernel
theorem dX10_judge_104 : decode cX10_judge 104 = .ok (.getfield 194, 3) := by decide +kernel
theorem dX10_judge_107 : decode cX10_judge 107 = .ok (.lcmp, 1) := by decide +kernel
theorem dX10_judge_108 : decode cX10_judge 108 = .ok (.ifCond .lt 22, 3) := by decide +kernel
theorem dX10_judge_111 : decode cX10_judge 111 = .ok (.lload_n 3, 1) := by decide +kernel
theorem dX10_judge_112 : decode cX10_judge 112 = .ok (.aload_n 0, 1) := by decide +kernel
theorem dX10_judge_113 : decode cX10_judge 113 = .ok (.getfield 194, 3) := by decide +kernel
theorem dX10_judge_116 : decode cX10_judge 116 = .ok (.lcmp, 1) := by decide +kernel
theorem dX10_judge_117 : decode cX10_judge 117 = .ok (.ifCond .ne 17, 3) := by decide +kernel
theorem dX10_judge_120 : decode cX10_judge 120 = .ok (.lload 5, 2) := by decide +kernel
theorem dX10_judge_122 : decode cX10_judge 122 = .ok (.aload_n 0, 1) := by decide +kernel
theorem dX10_judge_123 : decode cX10_judge 123 = .ok (.getfield 198, 3) := by decide +kernel
theorem dX10_judge_126 : decode cX10_judge 126 = .ok (.lcmp, 1) := by decide +kernel
theorem dX10_judge_127 : decode cX10_judge 127 = .ok (.ifCond .ge 7, 3) := by decide +kernel
theorem dX10_judge_130 : decode cX10_judge 130 = .ok (.iconst 1, 1) := by decide +kernel
theorem dX10_judge_131 : decode cX10_judge 131 = .ok (.goto 4, 3) := by decide +kernel
theorem dX10_judge_134 : decode cX10_judge 134 = .ok (.iconst 0, 1) := by decide +kernel
theorem dX10_judge_135 : decode cX10_judge 135 = .ok (.istore 7, 2) := by decide +kernel
theorem dX10_judge_137 : decode cX10_judge 137 = .ok (.iload 7, 2) := by decide +kernel
theorem dX10_judge_139 : decode cX10_judge 139 = .ok (.ifCond .eq 51, 3) := by decide +kernel
theorem dX10_judge_142 : decode cX10_judge 142 = .ok (.aload_n 0, 1) := by decide +kernel
theorem dX10_judge_143 : decode cX10_judge 143 = .ok (.iload_n 2, 1) := by decide +kernel
theorem dX10_judge_144 : decode cX10_judge 144 = .ok (.putfield 191, 3) := by decide +kernel
theorem dX10_judge_147 : decode cX10_judge 147 = .ok (.aload_n 0, 1) := by decide +kernel
theorem dX10_judge_148 : decode cX10_judge 148 = .ok (.lload_n 3, 1) := by decide +kernel
theorem dX10_judge_149 : decode cX10_judge 149 = .ok (.putfield 194, 3) := by decide +kernel
theorem dX10_judge_152 : decode cX10_judge 152 = .ok (.aload_n 0, 1) := by decide +kernel
theorem dX10_judge_153 : decode cX10_judge 153 = .ok (.lload 5, 2) := by decide +kernel
theorem dX10_judge_155 : decode cX10_judge 155 = .ok (.putfield 198, 3) := by decide +kernel
theorem dX10_judge_158 : decode cX10_judge 158 = .ok (.iconst 0, 1) := by decide +kernel
theorem dX10_judge_159 : decode cX10_judge 159 = .ok (.istore 8, 2) := by decide +kernel
theorem dX10_judge_161 : decode cX10_judge 161 = .ok (.iload 8, 2) := by decide +kernel
theorem dX10_judge_163 : decode cX10_judge 163 = .ok (.aload_n 0, 1) := by decide +kernel
theorem dX10_judge_164 : decode cX10_judge 164 = .ok (.getfield 109, 3) := by decide +kernel
theorem dX10_judge_167 : decode cX10_judge 167 = .ok (.if_icmp .ge 23, 3) := by decide +kernel
theorem dX10_judge_170 : decode cX10_judge 170 = .ok (.aload_n 0, 1) := by decide +kernel
theorem dX10_judge_171 : decode cX10_judge 171 = .ok (.getfield 69, 3) := by decide +kernel
theorem dX10_judge_174 : decode cX10_judge 174 = .ok (.iload 8, 2) := by decide +kernel
theorem dX10_judge_176 : decode cX10_judge 176 = .ok (.aload_n 0, 1) := by decide +kernel
theorem dX10_judge_177 : decode cX10_judge 177 = .ok (.getfield 39, 3) := by decide +kernel
theorem dX10_judge_180 : decode cX10_judge 180 = .ok (.iload 8, 2) := by decide +kernel
theorem dX10_judge_182 : decode cX10_judge 182 = .ok (.iaload, 1) := by decide +kernel
theorem dX10_judge_183 : decode cX10_judge 183 = .ok (.iastore, 1) := by decide +kernel
theorem dX10_judge_184 : decode cX10_judge 184 = .ok (.iinc 8 1, 3) := by decide +kernel
theorem dX10_judge_187 : decode cX10_judge 187 = .ok (.goto (-26), 3) := by decide +kernel
theorem dX10_judge_190 : decode cX10_judge 190 = .ok (.return_, 1) := by decide +kernel
theorem dX10_search_0 : decode cX10_search 0 = .ok (.iload_n 1, 1) := by decide +kernel
theorem dX10_search_1 : decode cX10_search 1 = .ok (.invokestatic 167, 3) := by decide +kernel
theorem dX10_search_4 : decode cX10_search 4 = .ok (.ifCond .eq 5, 3) := by decide +kernel
theorem dX10_search_7 : decode cX10_search 7 = .ok (.iconst (-1), 1) := by decide +kernel
theorem dX10_search_8 : decode cX10_search 8 = .ok (.ireturn, 1) := by decide +kernel
theorem dX10_search_9 : decode cX10_search 9 = .ok (.aload_n 0, 1) := by decide +kernel
theorem dX10_search_10 : decode cX10_search 10 = .ok (.invokevirtual 201, 3) := by decide +kernel
theorem dX10_search_13 : decode cX10_search 13 = .ok (.sipush 20000, 3) := by decide +kernel
theorem dX10_search_16 : decode cX10_search 16 = .ok (.if_icmp .le 6, 3) := by decide +kernel
theorem dX10_search_19 : decode cX10_search 19 = .ok (.bipush (-6), 2) := by decide +kernel
theorem dX10_search_21 : decode cX10_search 21 = .ok (.ireturn, 1) := by decide +kernel
theorem dX10_search_22 : decode cX10_search 22 = .ok (.aload_n 0, 1) := by decide +kernel
theorem dX10_search_23 : decode cX10_search 23 = .ok (.bipush (-9), 2) := by decide +kernel
theorem dX10_search_25 : decode cX10_search 25 = .ok (.putfield 191, 3) := by decide +kernel
theorem dX10_search_28 : decode cX10_search 28 = .ok (.aload_n 0, 1) := by decide +kernel
theorem dX10_search_29 : decode cX10_search 29 = .ok (.invokevirtual 205, 3) := by decide +kernel
theorem dX10_search_32 : decode cX10_search 32 = .ok (.iconst 1, 1) := by decide +kernel
theorem dX10_search_33 : decode cX10_search 33 = .ok (.istore_n 2, 1) := by decide +kernel
theorem dX10_search_34 : decode cX10_search 34 = .ok (.iload_n 2, 1) := by decide +kernel
theorem dX10_search_35 : decode cX10_search 35 = .ok (.ifCond .eq 23, 3) := by decide +kernel
theorem dX10_search_38 : decode cX10_search 38 = .ok (.aload_n 0, 1) := by decide +kernel
theorem dX10_search_39 : decode cX10_search 39 = .ok (.invokevirtual 157, 3) := by decide +kernel
theorem dX10_search_42 : decode cX10_search 42 = .ok (.ifCond .eq 8, 3) := by decide +kernel
theorem dX10_search_45 : decode cX10_search 45 = .ok (.aload_n 0, 1) := by decide +kernel
theorem dX10_search_46 : decode cX10_search 46 = .ok (.iload_n 1, 1) := by decide +kernel
theorem dX10_search_47 : decode cX10_search 47 = .ok (.invokevirtual 208, 3) := by decide +kernel
theorem dX10_search_50 : decode cX10_search 50 = .ok (.aload_n 0, 1) := by decide +kernel
theorem dX10_search_51 : decode cX10_search 51 = .ok (.invokevirtual 211, 3) := by decide +kernel
theorem dX10_search_54 : decode cX10_search 54 = .ok (.istore_n 2, 1) := by decide +kernel
theorem dX10_search_55 : decode cX10_search 55 = .ok (.goto (-21), 3) := by decide +kernel
theorem dX10_search_58 : decode cX10_search 58 = .ok (.aload_n 0, 1) := by decide +kernel
theorem dX10_search_59 : decode cX10_search 59 = .ok (.bipush (-9), 2) := by decide +kernel
theorem dX10_search_61 : decode cX10_search 61 = .ok (.putfield 97, 3) := by decide +kernel
theorem dX10_search_64 : decode cX10_search 64 = .ok (.aload_n 0, 1) := by decide +kernel
theorem dX10_search_65 : decode cX10_search 65 = .ok (.aload_n 0, 1) := by decide +kernel
theorem dX10_search_66 : decode cX10_search 66 = .ok (.getfield 191, 3) := by decide +kernel
theorem dX10_search_69 : decode cX10_search 69 = .ok (.ifCond .ge 7, 3) := by decide +kernel
theorem dX10_search_72 : decode cX10_search 72 = .ok (.iconst (-1), 1) := by decide +kernel
theorem dX10_search_73 : decode cX10_search 73 = .ok (.goto 7, 3) := by decide +kernel
theorem dX10_search_76 : decode cX10_search 76 = .ok (.aload_n 0, 1) := by decide +kernel
theorem dX10_search_77 : decode cX10_search 77 = .ok (.getfield 109, 3) := by decide +kernel
theorem dX10_search_80 : decode cX10_search 80 = .ok (.putfield 93, 3) := by decide +kernel
theorem dX10_search_83 : decode cX10_search 83 = .ok (.iconst 0, 1) := by decide +kernel
theorem dX10_search_84 : decode cX10_search 84 = .ok (.istore_n 3, 1) := by decide +kernel
theorem dX10_search_85 : decode cX10_search 85 = .ok (.iload_n 3, 1) := by decide +kernel
theorem dX10_search_86 : decode cX10_search 86 = .ok (.aload_n 0, 1) := by decide +kernel
theorem dX10_search_87 : decode cX10_search 87 = .ok (.getfield 93, 3) := by decide +kernel
theorem dX10_search_90 : decode cX10_search 90 = .ok (.if_icmp .ge 21, 3) := by decide +kernel
theorem dX10_search_93 : decode cX10_search 93 = .ok (.aload_n 0, 1) := by decide +kernel
theorem dX10_search_94 : decode cX10_search 94 = .ok (.getfield 66, 3) := by decide +kernel
theorem dX10_search_97 : decode cX10_search 97 = .ok (.iload_n 3, 1) := by decide +kernel
theorem dX10_search_98 : decode cX10_search 98 = .ok (.aload_n 0, 1) := by decide +kernel
theorem dX10_search_99 : decode cX10_search 99 = .ok (.getfield 69, 3) := by decide +kernel
theorem dX10_search_102 : decode cX10_search 102 = .ok (.iload_n 3, 1) := by decide +kernel
theorem dX10_search_103 : decode cX10_search 103 = .ok (.iaload, 1) := by decide +kernel
theorem dX10_search_104 : decode cX10_search 104 = .ok (.iastore, 1) := by decide +kernel
theorem dX10_search_105 : decode cX10_search 105 = .ok (.iinc 3 1, 3) := by decide +kernel
theorem dX10_search_108 : decode cX10_search 108 = .ok (.goto (-23), 3) := by decide +kernel
theorem dX10_search_111 : decode cX10_search 111 = .ok (.aload_n 0, 1) := by decide +kernel
theorem dX10_search_112 : decode cX10_search 112 = .ok (.getfield 191, 3) := by decide +kernel
theorem dX10_search_115 : decode cX10_search 115 = .ok (.ireturn, 1) := by decide +kernel
theorem dX10_hopeless_0 : decode cX10_hopeless 0 = .ok (.iload_n 1, 1) := by decide +kernel
theorem dX10_hopeless_1 : decode cX10_hopeless 1 = .ok (.invokestatic 167, 3) := by decide +kernel
theorem dX10_hopeless_4 : decode cX10_hopeless 4 = .ok (.ifCond .eq 5, 3) := by decide +kernel
theorem dX10_hopeless_7 : decode cX10_hopeless 7 = .ok (.iconst (-1), 1) := by decide +kernel
theorem dX10_hopeless_8 : decode cX10_hopeless 8 = .ok (.ireturn, 1) := by decide +kernel
theorem dX10_hopeless_9 : decode cX10_hopeless 9 = .ok (.aload_n 0, 1) := by decide +kernel
theorem dX10_hopeless_10 : decode cX10_hopeless 10 = .ok (.invokevirtual 201, 3) := by decide +kernel
theorem dX10_hopeless_13 : decode cX10_hopeless 13 = .ok (.sipush 20000, 3) := by decide +kernel
theorem dX10_hopeless_16 : decode cX10_hopeless 16 = .ok (.if_icmp .le 6, 3) := by decide +kernel
theorem dX10_hopeless_19 : decode cX10_hopeless 19 = .ok (.bipush (-6), 2) := by decide +kernel
theorem dX10_hopeless_21 : decode cX10_hopeless 21 = .ok (.ireturn, 1) := by decide +kernel
theorem dX10_hopeless_22 : decode cX10_hopeless 22 = .ok (.iconst 0, 1) := by decide +kernel
theorem dX10_hopeless_23 : decode cX10_hopeless 23 = .ok (.istore_n 2, 1) := by decide +kernel
theorem dX10_hopeless_24 : decode cX10_hopeless 24 = .ok (.iconst 0, 1) := by decide +kernel
theorem dX10_hopeless_25 : decode cX10_hopeless 25 = .ok (.istore_n 3, 1) := by decide +kernel
theorem dX10_hopeless_26 : decode cX10_hopeless 26 = .ok (.iload_n 3, 1) := by decide +kernel
theorem dX10_hopeless_27 : decode cX10_hopeless 27 = .ok (.aload_n 0, 1) := by decide +kernel
theorem dX10_hopeless_28 : decode cX10_hopeless 28 = .ok (.getfield 164, 3) := by decide +kernel
theorem dX10_hopeless_31 : decode cX10_hopeless 31 = .ok (.if_icmp .ge 29, 3) := by decide +kernel
theorem dX10_hopeless_34 : decode cX10_hopeless 34 = .ok (.iload_n 2, 1) := by decide +kernel
theorem dX10_hopeless_35 : decode cX10_hopeless 35 = .ok (.aload_n 0, 1) := by decide +kernel
theorem dX10_hopeless_36 : decode cX10_hopeless 36 = .ok (.getfield 51, 3) := by decide +kernel
theorem dX10_hopeless_39 : decode cX10_hopeless 39 = .ok (.iload_n 3, 1) := by decide +kernel
theorem dX10_hopeless_40 : decode cX10_hopeless 40 = .ok (.iaload, 1) := by decide +kernel
theorem dX10_hopeless_41 : decode cX10_hopeless 41 = .ok (.iload_n 1, 1) := by decide +kernel
theorem dX10_hopeless_42 : decode cX10_hopeless 42 = .ok (.if_icmp .ne 9, 3) := by decide +kernel
theorem dX10_hopeless_45 : decode cX10_hopeless 45 = .ok (.iconst 1, 1) := by decide +kernel
theorem dX10_hopeless_46 : decode cX10_hopeless 46 = .ok (.iload_n 3, 1) := by decide +kernel
theorem dX10_hopeless_47 : decode cX10_hopeless 47 = .ok (.ishl, 1) := by decide +kernel
theorem dX10_hopeless_48 : decode cX10_hopeless 48 = .ok (.goto 4, 3) := by decide +kernel
theorem dX10_hopeless_51 : decode cX10_hopeless 51 = .ok (.iconst 0, 1) := by decide +kernel
theorem dX10_hopeless_52 : decode cX10_hopeless 52 = .ok (.ior, 1) := by decide +kernel
theorem dX10_hopeless_53 : decode cX10_hopeless 53 = .ok (.istore_n 2, 1) := by decide +kernel
theorem dX10_hopeless_54 : decode cX10_hopeless 54 = .ok (.iinc 3 1, 3) := by decide +kernel
theorem dX10_hopeless_57 : decode cX10_hopeless 57 = .ok (.goto (-31), 3) := by decide +kernel
theorem dX10_hopeless_60 : decode cX10_hopeless 60 = .ok (.aload_n 0, 1) := by decide +kernel
theorem dX10_hopeless_61 : decode cX10_hopeless 61 = .ok (.invokevirtual 205, 3) := by decide +kernel
theorem dX10_hopeless_64 : decode cX10_hopeless 64 = .ok (.iconst 1, 1) := by decide +kernel
theorem dX10_hopeless_65 : decode cX10_hopeless 65 = .ok (.istore_n 3, 1) := by decide +kernel
theorem dX10_hopeless_66 : decode cX10_hopeless 66 = .ok (.iload_n 3, 1) := by decide +kernel
theorem dX10_hopeless_67 : decode cX10_hopeless 67 = .ok (.ifCond .eq 92, 3) := by decide +kernel
theorem dX10_hopeless_70 : decode cX10_hopeless 70 = .ok (.iload_n 2, 1) := by decide +kernel
theorem dX10_hopeless_71 : decode cX10_hopeless 71 = .ok (.ifCond .eq 14, 3) := by decide +kernel
theorem dX10_hopeless_74 : decode cX10_hopeless 74 = .ok (.aload_n 0, 1) := by decide +kernel
theorem dX10_hopeless_75 : decode cX10_hopeless 75 = .ok (.invokevirtual 157, 3) := by decide +kernel
theorem dX10_hopeless_78 : decode cX10_hopeless 78 = .ok (.ifCond .eq 7, 3) := by decide +kernel
theorem dX10_hopeless_81 : decode cX10_hopeless 81 = .ok (.iconst 1, 1) := by decide +kernel
theorem dX10_hopeless_82 : decode cX10_hopeless 82 = .ok (.goto 4, 3) := by decide +kernel
theorem dX10_hopeless_85 : decode cX10_hopeless 85 = .ok (.iconst 0, 1) := by decide +kernel
theorem dX10_hopeless_86 : decode cX10_hopeless 86 = .ok (.istore 4, 2) := by decide +kernel
theorem dX10_hopeless_88 : decode cX10_hopeless 88 = .ok (.iconst 0, 1) := by decide +kernel
theorem dX10_hopeless_89 : decode cX10_hopeless 89 = .ok (.istore 5, 2) := by decide +kernel
theorem dX10_hopeless_91 : decode cX10_hopeless 91 = .ok (.iload 5, 2) := by decide +kernel
theorem dX10_hopeless_93 : decode cX10_hopeless 93 = .ok (.aload_n 0, 1) := by decide +kernel
theorem dX10_hopeless_94 : decode cX10_hopeless 94 = .ok (.getfield 164, 3) := by decide +kernel
theorem dX10_hopeless_97 : decode cX10_hopeless 97 = .ok (.if_icmp .ge 54, 3) := by decide +kernel
theorem dX10_hopeless_100 : decode cX10_hopeless 100 = .ok (.iload 4, 2) := by decide +kernel
theorem dX10_hopeless_102 : decode cX10_hopeless 102 = .ok (.ifCond .eq 49, 3) := by decide +kernel
theorem dX10_hopeless_105 : decode cX10_hopeless 105 = .ok (.iload_n 2, 1) := by decide +kernel
theorem dX10_hopeless_106 : decode cX10_hopeless 106 = .ok (.aload_n 0, 1) := by decide +kernel
theorem dX10_hopeless_107 : decode cX10_hopeless 107 = .ok (.getfield 51, 3) := by decide +kernel
theorem dX10_hopeless_110 : decode cX10_hopeless 110 = .ok (.iload 5, 2) := by decide +kernel
theorem dX10_hopeless_112 : decode cX10_hopeless 112 = .ok (.iaload, 1) := by decide +kernel
theorem dX10_hopeless_113 : decode cX10_hopeless 113 = .ok (.iload_n 1, 1) := by decide +kernel
theorem dX10_hopeless_114 : decode cX10_hopeless 114 = .ok (.if_icmp .ne 28, 3) := by decide +kernel
theorem dX10_hopeless_117 : decode cX10_hopeless 117 = .ok (.aload_n 0, 1) := by decide +kernel
theorem dX10_hopeless_118 : decode cX10_hopeless 118 = .ok (.iload 5, 2) := by decide +kernel
theorem dX10_hopeless_120 : decode cX10_hopeless 120 = .ok (.invokevirtual 184, 3) := by decide +kernel
theorem dX10_hopeless_123 : decode cX10_hopeless 123 = .ok (.aload_n 0, 1) := by decide +kernel
theorem dX10_hopeless_124 : decode cX10_hopeless 124 = .ok (.getfield 63, 3) := by decide +kernel
theorem dX10_hopeless_127 : decode cX10_hopeless 127 = .ok (.iload 5, 2) := by decide +kernel
theorem dX10_hopeless_129 : decode cX10_hopeless 129 = .ok (.iaload, 1) := by decide +kernel
theorem dX10_hopeless_130 : decode cX10_hopeless 130 = .ok (.if_icmp .gt 12, 3) := by decide +kernel
theorem dX10_hopeless_133 : decode cX10_hopeless 133 = .ok (.iconst 1, 1) := by decide +kernel
theorem dX10_hopeless_134 : decode cX10_hopeless 134 = .ok (.iload 5, 2) := by decide +kernel
theorem dX10_hopeless_136 : decode cX10_hopeless 136 = .ok (.ishl, 1) := by decide +kernel
theorem dX10_hopeless_137 : decode cX10_hopeless 137 = .ok (.iconst (-1), 1) := by decide +kernel
theorem dX10_hopeless_138 : decode cX10_hopeless 138 = .ok (.ixor, 1) := by decide +kernel
theorem dX10_hopeless_139 : decode cX10_hopeless 139 = .ok (.goto 4, 3) := by decide +kernel
theorem dX10_hopeless_142 : decode cX10_hopeless 142 = .ok (.iconst (-1), 1) := by decide +kernel
theorem dX10_hopeless_143 : decode cX10_hopeless 143 = .ok (.iand, 1) := by decide +kernel
theorem dX10_hopeless_144 : decode cX10_hopeless 144 = .ok (.istore_n 2, 1) := by decide +kernel
theorem dX10_hopeless_145 : decode cX10_hopeless 145 = .ok (.iinc 5 1, 3) := by decide +kernel
theorem dX10_hopeless_148 : decode cX10_hopeless 148 = .ok (.goto (-57), 3) := by decide +kernel
theorem dX10_hopeless_151 : decode cX10_hopeless 151 = .ok (.aload_n 0, 1) := by decide +kernel
theorem dX10_hopeless_152 : decode cX10_hopeless 152 = .ok (.invokevirtual 211, 3) := by decide +kernel
theorem dX10_hopeless_155 : decode cX10_hopeless 155 = .ok (.istore_n 3, 1) := by decide +kernel
theorem dX10_hopeless_156 : decode cX10_hopeless 156 = .ok (.goto (-90), 3) := by decide +kernel
theorem dX10_hopeless_159 : decode cX10_hopeless 159 = .ok (.iload_n 2, 1) := by decide +kernel
theorem dX10_hopeless_160 : decode cX10_hopeless 160 = .ok (.ireturn, 1) := by decide +kernel
theorem dX10_planned_0 : decode cX10_planned 0 = .ok (.aload_n 0, 1) := by decide +kernel
theorem dX10_planned_1 : decode cX10_planned 1 = .ok (.iload_n 1, 1) := by decide +kernel
theorem dX10_planned_2 : decode cX10_planned 2 = .ok (.invokevirtual 124, 3) := by decide +kernel
theorem dX10_planned_5 : decode cX10_planned 5 = .ok (.ifCond .eq 5, 3) := by decide +kernel
theorem dX10_planned_8 : decode cX10_planned 8 = .ok (.iconst (-1), 1) := by decide +kernel
theorem dX10_planned_9 : decode cX10_planned 9 = .ok (.ireturn, 1) := by decide +kernel
theorem dX10_planned_10 : decode cX10_planned 10 = .ok (.aload_n 0, 1) := by decide +kernel
theorem dX10_planned_11 : decode cX10_planned 11 = .ok (.getfield 93, 3) := by decide +kernel
theorem dX10_planned_14 : decode cX10_planned 14 = .ok (.ifCond .ge 8, 3) := by decide +kernel
theorem dX10_planned_17 : decode cX10_planned 17 = .ok (.bipush (-3), 2) := by decide +kernel
theorem dX10_planned_19 : decode cX10_planned 19 = .ok (.goto 21, 3) := by decide +kernel
theorem dX10_planned_22 : decode cX10_planned 22 = .ok (.iload_n 1, 1) := by decide +kernel
theorem dX10_planned_23 : decode cX10_planned 23 = .ok (.aload_n 0, 1) := by decide +kernel
theorem dX10_planned_24 : decode cX10_planned 24 = .ok (.getfield 93, 3) := by decide +kernel
theorem dX10_planned_27 : decode cX10_planned 27 = .ok (.if_icmp .ge 12, 3) := by decide +kernel
theorem dX10_planned_30 : decode cX10_planned 30 = .ok (.aload_n 0, 1) := by decide +kernel
theorem dX10_planned_31 : decode cX10_planned 31 = .ok (.getfield 66, 3) := by decide +kernel
theorem dX10_planned_34 : decode cX10_planned 34 = .ok (.iload_n 1, 1) := by decide +kernel
theorem dX10_planned_35 : decode cX10_planned 35 = .ok (.iaload, 1) := by decide +kernel
theorem dX10_planned_36 : decode cX10_planned 36 = .ok (.goto 4, 3) := by decide +kernel
theorem dX10_planned_39 : decode cX10_planned 39 = .ok (.iconst (-1), 1) := by decide +kernel
theorem dX10_planned_40 : decode cX10_planned 40 = .ok (.ireturn, 1) := by decide +kernel
theorem dX10_tried_0 : decode cX10_tried 0 = .ok (.aload_n 0, 1) := by decide +kernel
theorem dX10_tried_1 : decode cX10_tried 1 = .ok (.getfield 188, 3) := by decide +kernel
theorem dX10_tried_4 : decode cX10_tried 4 = .ok (.ireturn, 1) := by decide +kernel
theorem dX10_noSheet_0 : decode cX10_noSheet 0 = .ok (.iload_n 0, 1) := by decide +kernel
theorem dX10_noSheet_1 : decode cX10_noSheet 1 = .ok (.i2l, 1) := by decide +kernel
theorem dX10_noSheet_2 : decode cX10_noSheet 2 = .ok (.lconst 0, 1) := by decide +kernel
theorem dX10_noSheet_3 : decode cX10_noSheet 3 = .ok (.ldc2_w 214, 3) := by decide +kernel
theorem dX10_noSheet_6 : decode cX10_noSheet 6 = .ok (.invokestatic 112, 3) := by decide +kernel
theorem dX10_noSheet_9 : decode cX10_noSheet 9 = .ok (.ifCond .ne 7, 3) := by decide +kernel
theorem dX10_noSheet_12 : decode cX10_noSheet 12 = .ok (.iconst 1, 1) := by decide +kernel
theorem dX10_noSheet_13 : decode cX10_noSheet 13 = .ok (.goto 4, 3) := by decide +kernel
theorem dX10_noSheet_16 : decode cX10_noSheet 16 = .ok (.iconst 0, 1) := by decide +kernel
theorem dX10_noSheet_17 : decode cX10_noSheet 17 = .ok (.ireturn, 1) := by decide +kernel
theorem dX10_sheet_0 : decode cX10_sheet 0 = .ok (.iload_n 1, 1) := by decide +kernel
theorem dX10_sheet_1 : decode cX10_sheet 1 = .ok (.invokestatic 216, 3) := by decide +kernel
theorem dX10_sheet_4 : decode cX10_sheet 4 = .ok (.ifCond .eq 9, 3) := by decide +kernel
theorem dX10_sheet_7 : decode cX10_sheet 7 = .ok (.aload_n 0, 1) := by decide +kernel
theorem dX10_sheet_8 : decode cX10_sheet 8 = .ok (.iconst (-1), 1) := by decide +kernel
theorem dX10_sheet_9 : decode cX10_sheet 9 = .ok (.invokevirtual 219, 3) := by decide +kernel
theorem dX10_sheet_12 : decode cX10_sheet 12 = .ok (.ireturn, 1) := by decide +kernel
theorem dX10_sheet_13 : decode cX10_sheet 13 = .ok (.iload_n 2, 1) := by decide +kernel
theorem dX10_sheet_14 : decode cX10_sheet 14 = .ok (.i2l, 1) := by decide +kernel
theorem dX10_sheet_15 : decode cX10_sheet 15 = .ok (.lconst 0, 1) := by decide +kernel
theorem dX10_sheet_16 : decode cX10_sheet 16 = .ok (.ldc2_w 128, 3) := by decide +kernel
theorem dX10_sheet_19 : decode cX10_sheet 19 = .ok (.invokestatic 112, 3) := by decide +kernel
theorem dX10_sheet_22 : decode cX10_sheet 22 = .ok (.ifCond .eq 9, 3) := by decide +kernel
theorem dX10_sheet_25 : decode cX10_sheet 25 = .ok (.iload_n 3, 1) := by decide +kernel
theorem dX10_sheet_26 : decode cX10_sheet 26 = .ok (.bipush 24, 2) := by decide +kernel
theorem dX10_sheet_28 : decode cX10_sheet 28 = .ok (.if_icmp .le 10, 3) := by decide +kernel
theorem dX10_sheet_31 : decode cX10_sheet 31 = .ok (.aload_n 0, 1) := by decide +kernel
theorem dX10_sheet_32 : decode cX10_sheet 32 = .ok (.bipush (-2), 2) := by decide +kernel
theorem dX10_sheet_34 : decode cX10_sheet 34 = .ok (.invokevirtual 219, 3) := by decide +kernel
theorem dX10_sheet_37 : decode cX10_sheet 37 = .ok (.ireturn, 1) := by decide +kernel
theorem dX10_sheet_38 : decode cX10_sheet 38 = .ok (.iload_n 3, 1) := by decide +kernel
theorem dX10_sheet_39 : decode cX10_sheet 39 = .ok (.ifCond .ge 9, 3) := by decide +kernel
theorem dX10_sheet_42 : decode cX10_sheet 42 = .ok (.aload_n 0, 1) := by decide +kernel
theorem dX10_sheet_43 : decode cX10_sheet 43 = .ok (.iconst 4, 1) := by decide +kernel
theorem dX10_sheet_44 : decode cX10_sheet 44 = .ok (.invokevirtual 222, 3) := by decide +kernel
theorem dX10_sheet_47 : decode cX10_sheet 47 = .ok (.ireturn, 1) := by decide +kernel
theorem dX10_sheet_48 : decode cX10_sheet 48 = .ok (.aload_n 0, 1) := by decide +kernel
theorem dX10_sheet_49 : decode cX10_sheet 49 = .ok (.getfield 72, 3) := by decide +kernel
theorem dX10_sheet_52 : decode cX10_sheet 52 = .ok (.iload_n 1, 1) := by decide +kernel
theorem dX10_sheet_53 : decode cX10_sheet 53 = .ok (.iload_n 3, 1) := by decide +kernel
theorem dX10_sheet_54 : decode cX10_sheet 54 = .ok (.iastore, 1) := by decide +kernel
theorem dX10_sheet_55 : decode cX10_sheet 55 = .ok (.aload_n 0, 1) := by decide +kernel
theorem dX10_sheet_56 : decode cX10_sheet 56 = .ok (.getfield 75, 3) := by decide +kernel
theorem dX10_sheet_59 : decode cX10_sheet 59 = .ok (.iload_n 1, 1) := by decide +kernel
theorem dX10_sheet_60 : decode cX10_sheet 60 = .ok (.iload_n 2, 1) := by decide +kernel
theorem dX10_sheet_61 : decode cX10_sheet 61 = .ok (.iastore, 1) := by decide +kernel
theorem dX10_sheet_62 : decode cX10_sheet 62 = .ok (.iconst 0, 1) := by decide +kernel
theorem dX10_sheet_63 : decode cX10_sheet 63 = .ok (.istore 4, 2) := by decide +kernel
theorem dX10_sheet_65 : decode cX10_sheet 65 = .ok (.iload 4, 2) := by decide +kernel
theorem dX10_sheet_67 : decode cX10_sheet 67 = .ok (.iload_n 3, 1) := by decide +kernel
theorem dX10_sheet_68 : decode cX10_sheet 68 = .ok (.if_icmp .ge 22, 3) := by decide +kernel
theorem dX10_sheet_71 : decode cX10_sheet 71 = .ok (.aload_n 0, 1) := by decide +kernel
theorem dX10_sheet_72 : decode cX10_sheet 72 = .ok (.getfield 78, 3) := by decide +kernel
theorem dX10_sheet_75 : decode cX10_sheet 75 = .ok (.bipush 24, 2) := by decide +kernel
theorem dX10_sheet_77 : decode cX10_sheet 77 = .ok (.iload_n 1, 1) := by decide +kernel
theorem dX10_sheet_78 : decode cX10_sheet 78 = .ok (.imul, 1) := by decide +kernel
theorem dX10_sheet_79 : decode cX10_sheet 79 = .ok (.iload 4, 2) := by decide +kernel
theorem dX10_sheet_81 : decode cX10_sheet 81 = .ok (.iadd, 1) := by decide +kernel
theorem dX10_sheet_82 : decode cX10_sheet 82 = .ok (.iconst 0, 1) := by decide +kernel
theorem dX10_sheet_83 : decode cX10_sheet 83 = .ok (.iastore, 1) := by decide +kernel
theorem dX10_sheet_84 : decode cX10_sheet 84 = .ok (.iinc 4 1, 3) := by decide +kernel
theorem dX10_sheet_87 : decode cX10_sheet 87 = .ok (.goto (-22), 3) := by decide +kernel
theorem dX10_sheet_90 : decode cX10_sheet 90 = .ok (.aload_n 0, 1) := by decide +kernel
theorem dX10_sheet_91 : decode cX10_sheet 91 = .ok (.iconst 1, 1) := by decide +kernel
theorem dX10_sheet_92 : decode cX10_sheet 92 = .ok (.invokevirtual 219, 3) := by decide +kernel
theorem dX10_sheet_95 : decode cX10_sheet 95 = .ok (.ireturn, 1) := by decide +kernel
theorem dX10_lose_0 : decode cX10_lose 0 = .ok (.iload_n 1, 1) := by decide +kernel
theorem dX10_lose_1 : decode cX10_lose 1 = .ok (.invokestatic 216, 3) := by decide +kernel
theorem dX10_lose_4 : decode cX10_lose 4 = .ok (.ifCond .eq 5, 3) := by decide +kernel
theorem dX10_lose_7 : decode cX10_lose 7 = .ok (.iconst (-1), 1) := by decide +kernel
theorem dX10_lose_8 : decode cX10_lose 8 = .ok (.ireturn, 1) := by decide +kernel
theorem dX10_lose_9 : decode cX10_lose 9 = .ok (.aload_n 0, 1) := by decide +kernel
theorem dX10_lose_10 : decode cX10_lose 10 = .ok (.getfield 72, 3) := by decide +kernel
theorem dX10_lose_13 : decode cX10_lose 13 = .ok (.iload_n 1, 1) := by decide +kernel
theorem dX10_lose_14 : decode cX10_lose 14 = .ok (.iaload, 1) := by decide +kernel
theorem dX10_lose_15 : decode cX10_lose 15 = .ok (.ifCond .ge 7, 3) := by decide +kernel
theorem dX10_lose_18 : decode cX10_lose 18 = .ok (.iconst 0, 1) := by decide +kernel
theorem dX10_lose_19 : decode cX10_lose 19 = .ok (.goto 4, 3) := by decide +kernel
theorem dX10_lose_22 : decode cX10_lose 22 = .ok (.iconst 1, 1) := by decide +kernel
theorem dX10_lose_23 : decode cX10_lose 23 = .ok (.istore_n 2, 1) := by decide +kernel
theorem dX10_lose_24 : decode cX10_lose 24 = .ok (.aload_n 0, 1) := by decide +kernel
theorem dX10_lose_25 : decode cX10_lose 25 = .ok (.getfield 72, 3) := by decide +kernel
theorem dX10_lose_28 : decode cX10_lose 28 = .ok (.iload_n 1, 1) := by decide +kernel
theorem dX10_lose_29 : decode cX10_lose 29 = .ok (.iconst (-1), 1) := by decide +kernel
theorem dX10_lose_30 : decode cX10_lose 30 = .ok (.iastore, 1) := by decide +kernel
theorem dX10_lose_31 : decode cX10_lose 31 = .ok (.iload_n 2, 1) := by decide +kernel
theorem dX10_lose_32 : decode cX10_lose 32 = .ok (.ireturn, 1) := by decide +kernel
theorem dX10_noCell_0 : decode cX10_noCell 0 = .ok (.aload_n 0, 1) := by decide +kernel
theorem dX10_noCell_1 : decode cX10_noCell 1 = .ok (.getfield 72, 3) := by decide +kernel
theorem dX10_noCell_4 : decode cX10_noCell 4 = .ok (.iload_n 1, 1) := by decide +kernel
theorem dX10_noCell_5 : decode cX10_noCell 5 = .ok (.iaload, 1) := by decide +kernel
theorem dX10_noCell_6 : decode cX10_noCell 6 = .ok (.ifCond .ge 7, 3) := by decide +kernel
theorem dX10_noCell_9 : decode cX10_noCell 9 = .ok (.iconst 1, 1) := by decide +kernel
theorem dX10_noCell_10 : decode cX10_noCell 10 = .ok (.goto 26, 3) := by decide +kernel
theorem dX10_noCell_13 : decode cX10_noCell 13 = .ok (.iload_n 2, 1) := by decide +kernel
theorem dX10_noCell_14 : decode cX10_noCell 14 = .ok (.i2l, 1) := by decide +kernel
theorem dX10_noCell_15 : decode cX10_noCell 15 = .ok (.lconst 0, 1) := by decide +kernel
theorem dX10_noCell_16 : decode cX10_noCell 16 = .ok (.aload_n 0, 1) := by decide +kernel
theorem dX10_noCell_17 : decode cX10_noCell 17 = .ok (.getfield 72, 3) := by decide +kernel
theorem dX10_noCell_20 : decode cX10_noCell 20 = .ok (.iload_n 1, 1) := by decide +kernel
theorem dX10_noCell_21 : decode cX10_noCell 21 = .ok (.iaload, 1) := by decide +kernel
theorem dX10_noCell_22 : decode cX10_noCell 22 = .ok (.i2l, 1) := by decide +kernel
theorem dX10_noCell_23 : decode cX10_noCell 23 = .ok (.lconst 1, 1) := by decide +kernel
theorem dX10_noCell_24 : decode cX10_noCell 24 = .ok (.lsub, 1) := by decide +kernel
theorem dX10_noCell_25 : decode cX10_noCell 25 = .ok (.invokestatic 112, 3) := by decide +kernel
theorem dX10_noCell_28 : decode cX10_noCell 28 = .ok (.ifCond .eq 7, 3) := by decide +kernel
theorem dX10_noCell_31 : decode cX10_noCell 31 = .ok (.iconst 0, 1) := by decide +kernel
theorem dX10_noCell_32 : decode cX10_noCell 32 = .ok (.goto 4, 3) := by decide +kernel
theorem dX10_noCell_35 : decode cX10_noCell 35 = .ok (.iconst 3, 1) := by decide +kernel
theorem dX10_noCell_36 : decode cX10_noCell 36 = .ok (.ireturn, 1) := by decide +kernel
theorem dX10_put_0 : decode cX10_put 0 = .ok (.iload_n 1, 1) := by decide +kernel
theorem dX10_put_1 : decode cX10_put 1 = .ok (.invokestatic 216, 3) := by decide +kernel
theorem dX10_put_4 : decode cX10_put 4 = .ok (.ifCond .eq 9, 3) := by decide +kernel
theorem dX10_put_7 : decode cX10_put 7 = .ok (.aload_n 0, 1) := by decide +kernel
theorem dX10_put_8 : decode cX10_put 8 = .ok (.iconst (-1), 1) := by decide +kernel
theorem dX10_put_9 : decode cX10_put 9 = .ok (.invokevirtual 219, 3) := by decide +kernel
theorem dX10_put_12 : decode cX10_put 12 = .ok (.ireturn, 1) := by decide +kernel
theorem dX10_put_13 : decode cX10_put 13 = .ok (.aload_n 0, 1) := by decide +kernel
theorem dX10_put_14 : decode cX10_put 14 = .ok (.iload_n 1, 1) := by decide +kernel
theorem dX10_put_15 : decode cX10_put 15 = .ok (.iload_n 2, 1) := by decide +kernel
theorem dX10_put_16 : decode cX10_put 16 = .ok (.invokevirtual 225, 3) := by decide +kernel
theorem dX10_put_19 : decode cX10_put 19 = .ok (.ifCond .le 14, 3) := by decide +kernel
theorem dX10_put_22 : decode cX10_put 22 = .ok (.aload_n 0, 1) := by decide +kernel
theorem dX10_put_23 : decode cX10_put 23 = .ok (.aload_n 0, 1) := by decide +kernel
theorem dX10_put_24 : decode cX10_put 24 = .ok (.iload_n 1, 1) := by decide +kernel
theorem dX10_put_25 : decode cX10_put 25 = .ok (.iload_n 2, 1) := by decide +kernel
theorem dX10_put_26 : decode cX10_put 26 = .ok (.invokevirtual 225, 3) := by decide +kernel
theorem dX10_put_29 : decode cX10_put 29 = .ok (.invokevirtual 222, 3) := by decide +kernel
theorem dX10_put_32 : decode cX10_put 32 = .ok (.ireturn, 1) := by decide +kernel
theorem dX10_put_33 : decode cX10_put 33 = .ok (.aload_n 0, 1) := by decide +kernel
theorem dX10_put_34 : decode cX10_put 34 = .ok (.getfield 78, 3) := by decide +kernel
theorem dX10_put_37 : decode cX10_put 37 = .ok (.bipush 24, 2) := by decide +kernel
theorem dX10_put_39 : decode cX10_put 39 = .ok (.iload_n 1, 1) := by decide +kernel
theorem dX10_put_40 : decode cX10_put 40 = .ok (.imul, 1) := by decide +kernel
theorem dX10_put_41 : decode cX10_put 41 = .ok (.iload_n 2, 1) := by decide +kernel
theorem dX10_put_42 : decode cX10_put 42 = .ok (.iadd, 1) := by decide +kernel
theorem dX10_put_43 : decode cX10_put 43 = .ok (.aload_n 0, 1) := by decide +kernel
theorem dX10_put_44 : decode cX10_put 44 = .ok (.getfield 75, 3) := by decide +kernel
theorem dX10_put_47 : decode cX10_put 47 = .ok (.iload_n 1, 1) := by decide +kernel
theorem dX10_put_48 : decode cX10_put 48 = .ok (.iaload, 1) := by decide +kernel
theorem dX10_put_49 : decode cX10_put 49 = .ok (.ifCond .ne 8, 3) := by decide +kernel
theorem dX10_put_52 : decode cX10_put 52 = .ok (.iload_n 3, 1) := by decide +kernel
theorem dX10_put_53 : decode cX10_put 53 = .ok (.i2b, 1) := by decide +kernel
theorem dX10_put_54 : decode cX10_put 54 = .ok (.goto 19, 3) := by decide +kernel
theorem dX10_put_57 : decode cX10_put 57 = .ok (.aload_n 0, 1) := by decide +kernel
theorem dX10_put_58 : decode cX10_put 58 = .ok (.getfield 75, 3) := by decide +kernel
theorem dX10_put_61 : decode cX10_put 61 = .ok (.iload_n 1, 1) := by decide +kernel
theorem dX10_put_62 : decode cX10_put 62 = .ok (.iaload, 1) := by decide +kernel
theorem dX10_put_63 : decode cX10_put 63 = .ok (.iconst 1, 1) := by decide +kernel
theorem dX10_put_64 : decode cX10_put 64 = .ok (.if_icmp .ne 8, 3) := by decide +kernel
theorem dX10_put_67 : decode cX10_put 67 = .ok (.iload_n 3, 1) := by decide +kernel
theorem dX10_put_68 : decode cX10_put 68 = .ok (.i2s, 1) := by decide +kernel
theorem dX10_put_69 : decode cX10_put 69 = .ok (.goto 4, 3) := by decide +kernel
theorem dX10_put_72 : decode cX10_put 72 = .ok (.iload_n 3, 1) := by decide +kernel
theorem dX10_put_73 : decode cX10_put 73 = .ok (.iastore, 1) := by decide +kernel
theorem dX10_put_74 : decode cX10_put 74 = .ok (.aload_n 0, 1) := by decide +kernel
theorem dX10_put_75 : decode cX10_put 75 = .ok (.iconst 1, 1) := by decide +kernel
theorem dX10_put_76 : decode cX10_put 76 = .ok (.invokevirtual 219, 3) := by decide +kernel
theorem dX10_put_79 : decode cX10_put 79 = .ok (.ireturn, 1) := by decide +kernel
theorem dX10_cell_0 : decode cX10_cell 0 = .ok (.aload_n 0, 1) := by decide +kernel
theorem dX10_cell_1 : decode cX10_cell 1 = .ok (.iconst 0, 1) := by decide +kernel
theorem dX10_cell_2 : decode cX10_cell 2 = .ok (.putfield 102, 3) := by decide +kernel
theorem dX10_cell_5 : decode cX10_cell 5 = .ok (.iload_n 1, 1) := by decide +kernel
theorem dX10_cell_6 : decode cX10_cell 6 = .ok (.invokestatic 216, 3) := by decide +kernel
theorem dX10_cell_9 : decode cX10_cell 9 = .ok (.ifCond .ne 15, 3) := by decide +kernel
theorem dX10_cell_12 : decode cX10_cell 12 = .ok (.iload_n 3, 1) := by decide +kernel
theorem dX10_cell_13 : decode cX10_cell 13 = .ok (.i2l, 1) := by decide +kernel
theorem dX10_cell_14 : decode cX10_cell 14 = .ok (.lconst 0, 1) := by decide +kernel
theorem dX10_cell_15 : decode cX10_cell 15 = .ok (.ldc2_w 128, 3) := by decide +kernel
theorem dX10_cell_18 : decode cX10_cell 18 = .ok (.invokestatic 112, 3) := by decide +kernel
theorem dX10_cell_21 : decode cX10_cell 21 = .ok (.ifCond .ne 7, 3) := by decide +kernel
theorem dX10_cell_24 : decode cX10_cell 24 = .ok (.invokestatic 105, 3) := by decide +kernel
theorem dX10_cell_27 : decode cX10_cell 27 = .ok (.lreturn, 1) := by decide +kernel
theorem dX10_cell_28 : decode cX10_cell 28 = .ok (.aload_n 0, 1) := by decide +kernel
theorem dX10_cell_29 : decode cX10_cell 29 = .ok (.getfield 72, 3) := by decide +kernel
theorem dX10_cell_32 : decode cX10_cell 32 = .ok (.iload_n 1, 1) := by decide +kernel
theorem dX10_cell_33 : decode cX10_cell 33 = .ok (.iaload, 1) := by decide +kernel
theorem dX10_cell_34 : decode cX10_cell 34 = .ok (.ifCond .lt 19, 3) := by decide +kernel
theorem dX10_cell_37 : decode cX10_cell 37 = .ok (.aload_n 0, 1) := by decide +kernel
theorem dX10_cell_38 : decode cX10_cell 38 = .ok (.getfield 75, 3) := by decide +kernel
theorem dX10_cell_41 : decode cX10_cell 41 = .ok (.iload_n 1, 1) := by decide +kernel
theorem dX10_cell_42 : decode cX10_cell 42 = .ok (.iaload, 1) := by decide +kernel
theorem dX10_cell_43 : decode cX10_cell 43 = .ok (.iload_n 3, 1) := by decide +kernel
theorem dX10_cell_44 : decode cX10_cell 44 = .ok (.if_icmp .eq 9, 3) := by decide +kernel
theorem dX10_cell_47 : decode cX10_cell 47 = .ok (.aload_n 0, 1) := by decide +kernel
theorem dX10_cell_48 : decode cX10_cell 48 = .ok (.iconst 2, 1) := by decide +kernel
theorem dX10_cell_49 : decode cX10_cell 49 = .ok (.invokevirtual 229, 3) := by decide +kernel
theorem dX10_cell_52 : decode cX10_cell 52 = .ok (.lreturn, 1) := by decide +kernel
theorem dX10_cell_53 : decode cX10_cell 53 = .ok (.aload_n 0, 1) := by decide +kernel
theorem dX10_cell_54 : decode cX10_cell 54 = .ok (.iload_n 1, 1) := by decide +kernel
theorem dX10_cell_55 : decode cX10_cell 55 = .ok (.iload_n 2, 1) := by decide +kernel
theorem dX10_cell_56 : decode cX10_cell 56 = .ok (.invokevirtual 225, 3) := by decide +kernel
theorem dX10_cell_59 : decode cX10_cell 59 = .ok (.ifCond .le 16, 3) := by decide +kernel
theorem dX10_cell_62 : decode cX10_cell 62 = .ok (.aload_n 0, 1) := by decide +kernel
theorem dX10_cell_63 : decode cX10_cell 63 = .ok (.aload_n 0, 1) := by decide +kernel
theorem dX10_cell_64 : decode cX10_cell 64 = .ok (.iload_n 1, 1) := by decide +kernel
theorem dX10_cell_65 : decode cX10_cell 65 = .ok (.iload_n 2, 1) := by decide +kernel
theorem dX10_cell_66 : decode cX10_cell 66 = .ok (.invokevirtual 225, 3) := by decide +kernel
theorem dX10_cell_69 : decode cX10_cell 69 = .ok (.invokevirtual 229, 3) := by decide +kernel
theorem dX10_cell_72 : decode cX10_cell 72 = .ok (.goto 15, 3) := by decide +kernel
theorem dX10_cell_75 : decode cX10_cell 75 = .ok (.aload_n 0, 1) := by decide +kernel
theorem dX10_cell_76 : decode cX10_cell 76 = .ok (.getfield 78, 3) := by decide +kernel
theorem dX10_cell_79 : decode cX10_cell 79 = .ok (.bipush 24, 2) := by decide +kernel
theorem dX10_cell_81 : decode cX10_cell 81 = .ok (.iload_n 1, 1) := by decide +kernel
theorem dX10_cell_82 : decode cX10_cell 82 = .ok (.imul, 1) := by decide +kernel
theorem dX10_cell_83 : decode cX10_cell 83 = .ok (.iload_n 2, 1) := by decide +kernel
theorem dX10_cell_84 : decode cX10_cell 84 = .ok (.iadd, 1) := by decide +kernel
theorem dX10_cell_85 : decode cX10_cell 85 = .ok (.iaload, 1) := by decide +kernel
theorem dX10_cell_86 : decode cX10_cell 86 = .ok (.i2l, 1) := by decide +kernel
theorem dX10_cell_87 : decode cX10_cell 87 = .ok (.lreturn, 1) := by decide +kernel
theorem dX10_isBeyond_0 : decode cX10_isBeyond 0 = .ok (.iload_n 0, 1) := by decide +kernel
theorem dX10_isBeyond_1 : decode cX10_isBeyond 1 = .ok (.ifCond .lt 18, 3) := by decide +kernel
theorem dX10_isBeyond_4 : decode cX10_isBeyond 4 = .ok (.iload_n 1, 1) := by decide +kernel
theorem dX10_isBeyond_5 : decode cX10_isBeyond 5 = .ok (.ifCond .lt 14, 3) := by decide +kernel
theorem dX10_isBeyond_8 : decode cX10_isBeyond 8 = .ok (.iload_n 0, 1) := by decide +kernel
theorem dX10_isBeyond_9 : decode cX10_isBeyond 9 = .ok (.i2l, 1) := by decide +kernel
theorem dX10_isBeyond_10 : decode cX10_isBeyond 10 = .ok (.iload_n 1, 1) := by decide +kernel
theorem dX10_isBeyond_11 : decode cX10_isBeyond 11 = .ok (.i2l, 1) := by decide +kernel
theorem dX10_isBeyond_12 : decode cX10_isBeyond 12 = .ok (.ladd, 1) := by decide +kernel
theorem dX10_isBeyond_13 : decode cX10_isBeyond 13 = .ok (.iload_n 2, 1) := by decide +kernel
theorem dX10_isBeyond_14 : decode cX10_isBeyond 14 = .ok (.i2l, 1) := by decide +kernel
theorem dX10_isBeyond_15 : decode cX10_isBeyond 15 = .ok (.lcmp, 1) := by decide +kernel
theorem dX10_isBeyond_16 : decode cX10_isBeyond 16 = .ok (.ifCond .le 7, 3) := by decide +kernel
theorem dX10_isBeyond_19 : decode cX10_isBeyond 19 = .ok (.iconst 1, 1) := by decide +kernel
theorem dX10_isBeyond_20 : decode cX10_isBeyond 20 = .ok (.goto 4, 3) := by decide +kernel
theorem dX10_isBeyond_23 : decode cX10_isBeyond 23 = .ok (.iconst 0, 1) := by decide +kernel
theorem dX10_isBeyond_24 : decode cX10_isBeyond 24 = .ok (.ireturn, 1) := by decide +kernel
theorem dX10_copy_0 : decode cX10_copy 0 = .ok (.iload_n 1, 1) := by decide +kernel
theorem dX10_copy_1 : decode cX10_copy 1 = .ok (.invokestatic 216, 3) := by decide +kernel
theorem dX10_copy_4 : decode cX10_copy 4 = .ok (.ifCond .ne 10, 3) := by decide +kernel
theorem dX10_copy_7 : decode cX10_copy 7 = .ok (.iload_n 3, 1) := by decide +kernel
theorem dX10_copy_8 : decode cX10_copy 8 = .ok (.invokestatic 216, 3) := by decide +kernel
theorem dX10_copy_11 : decode cX10_copy 11 = .ok (.ifCond .eq 9, 3) := by decide +kernel
theorem dX10_copy_14 : decode cX10_copy 14 = .ok (.aload_n 0, 1) := by decide +kernel
theorem dX10_copy_15 : decode cX10_copy 15 = .ok (.iconst (-1), 1) := by decide +kernel
theorem dX10_copy_16 : decode cX10_copy 16 = .ok (.invokevirtual 219, 3) := by decide +kernel
theorem dX10_copy_19 : decode cX10_copy 19 = .ok (.ireturn, 1) := by decide +kernel
theorem dX10_copy_20 : decode cX10_copy 20 = .ok (.aload_n 0, 1) := by decide +kernel
theorem dX10_copy_21 : decode cX10_copy 21 = .ok (.getfield 72, 3) := by decide +kernel
theorem dX10_copy_24 : decode cX10_copy 24 = .ok (.iload_n 1, 1) := by decide +kernel
theorem dX10_copy_25 : decode cX10_copy 25 = .ok (.iaload, 1) := by decide +kernel
theorem dX10_copy_26 : decode cX10_copy 26 = .ok (.ifCond .lt 12, 3) := by decide +kernel
theorem dX10_copy_29 : decode cX10_copy 29 = .ok (.aload_n 0, 1) := by decide +kernel
theorem dX10_copy_30 : decode cX10_copy 30 = .ok (.getfield 72, 3) := by decide +kernel
theorem dX10_copy_33 : decode cX10_copy 33 = .ok (.iload_n 3, 1) := by decide +kernel
theorem dX10_copy_34 : decode cX10_copy 34 = .ok (.iaload, 1) := by decide +kernel
theorem dX10_copy_35 : decode cX10_copy 35 = .ok (.ifCond .ge 9, 3) := by decide +kernel
theorem dX10_copy_38 : decode cX10_copy 38 = .ok (.aload_n 0, 1) := by decide +kernel
theorem dX10_copy_39 : decode cX10_copy 39 = .ok (.iconst 1, 1) := by decide +kernel
theorem dX10_copy_40 : decode cX10_copy 40 = .ok (.invokevirtual 222, 3) := by decide +kernel
theorem dX10_copy_43 : decode cX10_copy 43 = .ok (.ireturn, 1) := by decide +kernel
theorem dX10_copy_44 : decode cX10_copy 44 = .ok (.aload_n 0, 1) := by decide +kernel
theorem dX10_copy_45 : decode cX10_copy 45 = .ok (.getfield 75, 3) := by decide +kernel
theorem dX10_copy_48 : decode cX10_copy 48 = .ok (.iload_n 1, 1) := by decide +kernel
theorem dX10_copy_49 : decode cX10_copy 49 = .ok (.iaload, 1) := by decide +kernel
theorem dX10_copy_50 : decode cX10_copy 50 = .ok (.aload_n 0, 1) := by decide +kernel
theorem dX10_copy_51 : decode cX10_copy 51 = .ok (.getfield 75, 3) := by decide +kernel
theorem dX10_copy_54 : decode cX10_copy 54 = .ok (.iload_n 3, 1) := by decide +kernel
theorem dX10_copy_55 : decode cX10_copy 55 = .ok (.iaload, 1) := by decide +kernel
theorem dX10_copy_56 : decode cX10_copy 56 = .ok (.if_icmp .eq 9, 3) := by decide +kernel
theorem dX10_copy_59 : decode cX10_copy 59 = .ok (.aload_n 0, 1) := by decide +kernel
theorem dX10_copy_60 : decode cX10_copy 60 = .ok (.iconst 2, 1) := by decide +kernel
theorem dX10_copy_61 : decode cX10_copy 61 = .ok (.invokevirtual 222, 3) := by decide +kernel
theorem dX10_copy_64 : decode cX10_copy 64 = .ok (.ireturn, 1) := by decide +kernel
theorem dX10_copy_65 : decode cX10_copy 65 = .ok (.iload_n 2, 1) := by decide +kernel
theorem dX10_copy_66 : decode cX10_copy 66 = .ok (.iload 5, 2) := by decide +kernel
theorem dX10_copy_68 : decode cX10_copy 68 = .ok (.aload_n 0, 1) := by decide +kernel
theorem dX10_copy_69 : decode cX10_copy 69 = .ok (.getfield 72, 3) := by decide +kernel
theorem dX10_copy_72 : decode cX10_copy 72 = .ok (.iload_n 1, 1) := by decide +kernel
theorem dX10_copy_73 : decode cX10_copy 73 = .ok (.iaload, 1) := by decide +kernel
theorem dX10_copy_74 : decode cX10_copy 74 = .ok (.invokestatic 233, 3) := by decide +kernel
theorem dX10_copy_77 : decode cX10_copy 77 = .ok (.ifCond .ne 19, 3) := by decide +kernel
theorem dX10_copy_80 : decode cX10_copy 80 = .ok (.iload 4, 2) := by decide +kernel
theorem dX10_copy_82 : decode cX10_copy 82 = .ok (.iload 5, 2) := by decide +kernel
theorem dX10_copy_84 : decode cX10_copy 84 = .ok (.aload_n 0, 1) := by decide +kernel
theorem dX10_copy_85 : decode cX10_copy 85 = .ok (.getfield 72, 3) := by decide +kernel
theorem dX10_copy_88 : decode cX10_copy 88 = .ok (.iload_n 3, 1) := by decide +kernel
theorem dX10_copy_89 : decode cX10_copy 89 = .ok (.iaload, 1) := by decide +kernel
theorem dX10_copy_90 : decode cX10_copy 90 = .ok (.invokestatic 233, 3) := by decide +kernel
theorem dX10_copy_93 : decode cX10_copy 93 = .ok (.ifCond .eq 9, 3) := by decide +kernel
theorem dX10_copy_96 : decode cX10_copy 96 = .ok (.aload_n 0, 1) := by decide +kernel
theorem dX10_copy_97 : decode cX10_copy 97 = .ok (.iconst 3, 1) := by decide +kernel
theorem dX10_copy_98 : decode cX10_copy 98 = .ok (.invokevirtual 222, 3) := by decide +kernel
theorem dX10_copy_101 : decode cX10_copy 101 = .ok (.ireturn, 1) := by decide +kernel
theorem dX10_copy_102 : decode cX10_copy 102 = .ok (.iconst 0, 1) := by decide +kernel
theorem dX10_copy_103 : decode cX10_copy 103 = .ok (.istore 6, 2) := by decide +kernel
theorem dX10_copy_105 : decode cX10_copy 105 = .ok (.iload 6, 2) := by decide +kernel
theorem dX10_copy_107 : decode cX10_copy 107 = .ok (.iload 5, 2) := by decide +kernel
theorem dX10_copy_109 : decode cX10_copy 109 = .ok (.if_icmp .ge 30, 3) := by decide +kernel
theorem dX10_copy_112 : decode cX10_copy 112 = .ok (.aload_n 0, 1) := by decide +kernel
theorem dX10_copy_113 : decode cX10_copy 113 = .ok (.getfield 81, 3) := by decide +kernel
theorem dX10_copy_116 : decode cX10_copy 116 = .ok (.iload 6, 2) := by decide +kernel
theorem dX10_copy_118 : decode cX10_copy 118 = .ok (.aload_n 0, 1) := by decide +kernel
theorem dX10_copy_119 : decode cX10_copy 119 = .ok (.getfield 78, 3) := by decide +kernel
theorem dX10_copy_122 : decode cX10_copy 122 = .ok (.bipush 24, 2) := by decide +kernel
theorem dX10_copy_124 : decode cX10_copy 124 = .ok (.iload_n 1, 1) := by decide +kernel
theorem dX10_copy_125 : decode cX10_copy 125 = .ok (.imul, 1) := by decide +kernel
theorem dX10_copy_126 : decode cX10_copy 126 = .ok (.iload_n 2, 1) := by decide +kernel
theorem dX10_copy_127 : decode cX10_copy 127 = .ok (.iadd, 1) := by decide +kernel
theorem dX10_copy_128 : decode cX10_copy 128 = .ok (.iload 6, 2) := by decide +kernel
theorem dX10_copy_130 : decode cX10_copy 130 = .ok (.iadd, 1) := by decide +kernel
theorem dX10_copy_131 : decode cX10_copy 131 = .ok (.iaload, 1) := by decide +kernel
theorem dX10_copy_132 : decode cX10_copy 132 = .ok (.iastore, 1) := by decide +kernel
theorem dX10_copy_133 : decode cX10_copy 133 = .ok (.iinc 6 1, 3) := by decide +kernel
theorem dX10_copy_136 : decode cX10_copy 136 = .ok (.goto (-31), 3) := by decide +kernel
theorem dX10_copy_139 : decode cX10_copy 139 = .ok (.iconst 0, 1) := by decide +kernel
theorem dX10_copy_140 : decode cX10_copy 140 = .ok (.istore 6, 2) := by decide +kernel
theorem dX10_copy_142 : decode cX10_copy 142 = .ok (.iload 6, 2) := by decide +kernel
theorem dX10_copy_144 : decode cX10_copy 144 = .ok (.iload 5, 2) := by decide +kernel
theorem dX10_copy_146 : decode cX10_copy 146 = .ok (.if_icmp .ge 31, 3) := by decide +kernel
theorem dX10_copy_149 : decode cX10_copy 149 = .ok (.aload_n 0, 1) := by decide +kernel
theorem dX10_copy_150 : decode cX10_copy 150 = .ok (.getfield 78, 3) := by decide +kernel
theorem dX10_copy_153 : decode cX10_copy 153 = .ok (.bipush 24, 2) := by decide +kernel
theorem dX10_copy_155 : decode cX10_copy 155 = .ok (.iload_n 3, 1) := by decide +kernel
theorem dX10_copy_156 : decode cX10_copy 156 = .ok (.imul, 1) := by decide +kernel
theorem dX10_copy_157 : decode cX10_copy 157 = .ok (.iload 4, 2) := by decide +kernel
theorem dX10_copy_159 : decode cX10_copy 159 = .ok (.iadd, 1) := by decide +kernel
theorem dX10_copy_160 : decode cX10_copy 160 = .ok (.iload 6, 2) := by decide +kernel
theorem dX10_copy_162 : decode cX10_copy 162 = .ok (.iadd, 1) := by decide +kernel
theorem dX10_copy_163 : decode cX10_copy 163 = .ok (.aload_n 0, 1) := by decide +kernel
theorem dX10_copy_164 : decode cX10_copy 164 = .ok (.getfield 81, 3) := by decide +kernel
theorem dX10_copy_167 : decode cX10_copy 167 = .ok (.iload 6, 2) := by decide +kernel
theorem dX10_copy_169 : decode cX10_copy 169 = .ok (.iaload, 1) := by decide +kernel
theorem dX10_copy_170 : decode cX10_copy 170 = .ok (.iastore, 1) := by decide +kernel
theorem dX10_copy_171 : decode cX10_copy 171 = .ok (.iinc 6 1, 3) := by decide +kernel
theorem dX10_copy_174 : decode cX10_copy 174 = .ok (.goto (-32), 3) := by decide +kernel
theorem dX10_copy_177 : decode cX10_copy 177 = .ok (.aload_n 0, 1) := by decide +kernel
theorem dX10_copy_178 : decode cX10_copy 178 = .ok (.iload 5, 2) := by decide +kernel
theorem dX10_copy_180 : decode cX10_copy 180 = .ok (.invokevirtual 219, 3) := by decide +kernel
theorem dX10_copy_183 : decode cX10_copy 183 = .ok (.ireturn, 1) := by decide +kernel
theorem dX10_refusalOf_0 : decode cX10_refusalOf 0 = .ok (.iconst 0, 1) := by decide +kernel
theorem dX10_refusalOf_1 : decode cX10_refusalOf 1 = .ok (.istore_n 2, 1) := by decide +kernel
theorem dX10_refusalOf_2 : decode cX10_refusalOf 2 = .ok (.iload_n 2, 1) := by decide +kernel
theorem dX10_refusalOf_3 : decode cX10_refusalOf 3 = .ok (.aload_n 0, 1) := by decide +kernel
theorem dX10_refusalOf_4 : decode cX10_refusalOf 4 = .ok (.getfield 109, 3) := by decide +kernel
theorem dX10_refusalOf_7 : decode cX10_refusalOf 7 = .ok (.if_icmp .ge 41, 3) := by decide +kernel
theorem dX10_refusalOf_10 : decode cX10_refusalOf 10 = .ok (.aload_n 0, 1) := by decide +kernel
theorem dX10_refusalOf_11 : decode cX10_refusalOf 11 = .ok (.getfield 78, 3) := by decide +kernel
theorem dX10_refusalOf_14 : decode cX10_refusalOf 14 = .ok (.iload_n 1, 1) := by decide +kernel
theorem dX10_refusalOf_15 : decode cX10_refusalOf 15 = .ok (.iload_n 2, 1) := by decide +kernel
theorem dX10_refusalOf_16 : decode cX10_refusalOf 16 = .ok (.iadd, 1) := by decide +kernel
theorem dX10_refusalOf_17 : decode cX10_refusalOf 17 = .ok (.iaload, 1) := by decide +kernel
theorem dX10_refusalOf_18 : decode cX10_refusalOf 18 = .ok (.i2l, 1) := by decide +kernel
theorem dX10_refusalOf_19 : decode cX10_refusalOf 19 = .ok (.aload_n 0, 1) := by decide +kernel
theorem dX10_refusalOf_20 : decode cX10_refusalOf 20 = .ok (.getfield 19, 3) := by decide +kernel
theorem dX10_refusalOf_23 : decode cX10_refusalOf 23 = .ok (.iload_n 2, 1) := by decide +kernel
theorem dX10_refusalOf_24 : decode cX10_refusalOf 24 = .ok (.iaload, 1) := by decide +kernel
theorem dX10_refusalOf_25 : decode cX10_refusalOf 25 = .ok (.i2l, 1) := by decide +kernel
theorem dX10_refusalOf_26 : decode cX10_refusalOf 26 = .ok (.aload_n 0, 1) := by decide +kernel
theorem dX10_refusalOf_27 : decode cX10_refusalOf 27 = .ok (.getfield 22, 3) := by decide +kernel
theorem dX10_refusalOf_30 : decode cX10_refusalOf 30 = .ok (.iload_n 2, 1) := by decide +kernel
theorem dX10_refusalOf_31 : decode cX10_refusalOf 31 = .ok (.iaload, 1) := by decide +kernel
theorem dX10_refusalOf_32 : decode cX10_refusalOf 32 = .ok (.i2l, 1) := by decide +kernel
theorem dX10_refusalOf_33 : decode cX10_refusalOf 33 = .ok (.invokestatic 112, 3) := by decide +kernel
theorem dX10_refusalOf_36 : decode cX10_refusalOf 36 = .ok (.ifCond .ne 6, 3) := by decide +kernel
theorem dX10_refusalOf_39 : decode cX10_refusalOf 39 = .ok (.bipush (-2), 2) := by decide +kernel
theorem dX10_refusalOf_41 : decode cX10_refusalOf 41 = .ok (.ireturn, 1) := by decide +kernel
theorem dX10_refusalOf_42 : decode cX10_refusalOf 42 = .ok (.iinc 2 1, 3) := by decide +kernel
theorem dX10_refusalOf_45 : decode cX10_refusalOf 45 = .ok (.goto (-43), 3) := by decide +kernel
theorem dX10_refusalOf_48 : decode cX10_refusalOf 48 = .ok (.iconst 0, 1) := by decide +kernel
theorem dX10_refusalOf_49 : decode cX10_refusalOf 49 = .ok (.istore_n 2, 1) := by decide +kernel
theorem dX10_refusalOf_50 : decode cX10_refusalOf 50 = .ok (.iload_n 2, 1) := by decide +kernel
theorem dX10_refusalOf_51 : decode cX10_refusalOf 51 = .ok (.aload_n 0, 1) := by decide +kernel
theorem dX10_refusalOf_52 : decode cX10_refusalOf 52 = .ok (.getfield 109, 3) := by decide +kernel
theorem dX10_refusalOf_55 : decode cX10_refusalOf 55 = .ok (.if_icmp .ge 38, 3) := by decide +kernel
theorem dX10_refusalOf_58 : decode cX10_refusalOf 58 = .ok (.aload_n 0, 1) := by decide +kernel
theorem dX10_refusalOf_59 : decode cX10_refusalOf 59 = .ok (.getfield 28, 3) := by decide +kernel
theorem dX10_refusalOf_62 : decode cX10_refusalOf 62 = .ok (.iload_n 2, 1) := by decide +kernel
theorem dX10_refusalOf_63 : decode cX10_refusalOf 63 = .ok (.baload, 1) := by decide +kernel
theorem dX10_refusalOf_64 : decode cX10_refusalOf 64 = .ok (.ifCond .eq 23, 3) := by decide +kernel
theorem dX10_refusalOf_67 : decode cX10_refusalOf 67 = .ok (.aload_n 0, 1) := by decide +kernel
theorem dX10_refusalOf_68 : decode cX10_refusalOf 68 = .ok (.getfield 78, 3) := by decide +kernel
