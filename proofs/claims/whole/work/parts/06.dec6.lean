theorem dX10_refusalOf_71 : decode cX10_refusalOf 71 = .ok (.iload_n 1, 1) := by decide +kernel
theorem dX10_refusalOf_72 : decode cX10_refusalOf 72 = .ok (.iload_n 2, 1) := by decide +kernel
theorem dX10_refusalOf_73 : decode cX10_refusalOf 73 = .ok (.iadd, 1) := by decide +kernel
theorem dX10_refusalOf_74 : decode cX10_refusalOf 74 = .ok (.iaload, 1) := by decide +kernel
theorem dX10_refusalOf_75 : decode cX10_refusalOf 75 = .ok (.aload_n 0, 1) := by decide +kernel
theorem dX10_refusalOf_76 : decode cX10_refusalOf 76 = .ok (.getfield 25, 3) := by decide +kernel
theorem dX10_refusalOf_79 : decode cX10_refusalOf 79 = .ok (.iload_n 2, 1) := by decide +kernel
theorem dX10_refusalOf_80 : decode cX10_refusalOf 80 = .ok (.iaload, 1) := by decide +kernel
theorem dX10_refusalOf_81 : decode cX10_refusalOf 81 = .ok (.if_icmp .eq 6, 3) := by decide +kernel
theorem dX10_refusalOf_84 : decode cX10_refusalOf 84 = .ok (.bipush (-3), 2) := by decide +kernel
theorem dX10_refusalOf_86 : decode cX10_refusalOf 86 = .ok (.ireturn, 1) := by decide +kernel
theorem dX10_refusalOf_87 : decode cX10_refusalOf 87 = .ok (.iinc 2 1, 3) := by decide +kernel
theorem dX10_refusalOf_90 : decode cX10_refusalOf 90 = .ok (.goto (-40), 3) := by decide +kernel
theorem dX10_refusalOf_93 : decode cX10_refusalOf 93 = .ok (.iconst 0, 1) := by decide +kernel
theorem dX10_refusalOf_94 : decode cX10_refusalOf 94 = .ok (.ireturn, 1) := by decide +kernel
theorem dX10_plan_0 : decode cX10_plan 0 = .ok (.iload_n 1, 1) := by decide +kernel
theorem dX10_plan_1 : decode cX10_plan 1 = .ok (.invokestatic 216, 3) := by decide +kernel
theorem dX10_plan_4 : decode cX10_plan 4 = .ok (.ifCond .eq 9, 3) := by decide +kernel
theorem dX10_plan_7 : decode cX10_plan 7 = .ok (.aload_n 0, 1) := by decide +kernel
theorem dX10_plan_8 : decode cX10_plan 8 = .ok (.iconst (-1), 1) := by decide +kernel
theorem dX10_plan_9 : decode cX10_plan 9 = .ok (.invokevirtual 219, 3) := by decide +kernel
theorem dX10_plan_12 : decode cX10_plan 12 = .ok (.ireturn, 1) := by decide +kernel
theorem dX10_plan_13 : decode cX10_plan 13 = .ok (.iload_n 2, 1) := by decide +kernel
theorem dX10_plan_14 : decode cX10_plan 14 = .ok (.i2l, 1) := by decide +kernel
theorem dX10_plan_15 : decode cX10_plan 15 = .ok (.lconst 0, 1) := by decide +kernel
theorem dX10_plan_16 : decode cX10_plan 16 = .ok (.ldc2_w 128, 3) := by decide +kernel
theorem dX10_plan_19 : decode cX10_plan 19 = .ok (.invokestatic 112, 3) := by decide +kernel
theorem dX10_plan_22 : decode cX10_plan 22 = .ok (.ifCond .ne 10, 3) := by decide +kernel
theorem dX10_plan_25 : decode cX10_plan 25 = .ok (.aload_n 0, 1) := by decide +kernel
theorem dX10_plan_26 : decode cX10_plan 26 = .ok (.bipush (-2), 2) := by decide +kernel
theorem dX10_plan_28 : decode cX10_plan 28 = .ok (.invokevirtual 219, 3) := by decide +kernel
theorem dX10_plan_31 : decode cX10_plan 31 = .ok (.ireturn, 1) := by decide +kernel
theorem dX10_plan_32 : decode cX10_plan 32 = .ok (.aload_n 0, 1) := by decide +kernel
theorem dX10_plan_33 : decode cX10_plan 33 = .ok (.getfield 72, 3) := by decide +kernel
theorem dX10_plan_36 : decode cX10_plan 36 = .ok (.iload_n 1, 1) := by decide +kernel
theorem dX10_plan_37 : decode cX10_plan 37 = .ok (.iaload, 1) := by decide +kernel
theorem dX10_plan_38 : decode cX10_plan 38 = .ok (.ifCond .lt 19, 3) := by decide +kernel
theorem dX10_plan_41 : decode cX10_plan 41 = .ok (.aload_n 0, 1) := by decide +kernel
theorem dX10_plan_42 : decode cX10_plan 42 = .ok (.getfield 75, 3) := by decide +kernel
theorem dX10_plan_45 : decode cX10_plan 45 = .ok (.iload_n 1, 1) := by decide +kernel
theorem dX10_plan_46 : decode cX10_plan 46 = .ok (.iaload, 1) := by decide +kernel
theorem dX10_plan_47 : decode cX10_plan 47 = .ok (.iload_n 2, 1) := by decide +kernel
theorem dX10_plan_48 : decode cX10_plan 48 = .ok (.if_icmp .eq 9, 3) := by decide +kernel
theorem dX10_plan_51 : decode cX10_plan 51 = .ok (.aload_n 0, 1) := by decide +kernel
theorem dX10_plan_52 : decode cX10_plan 52 = .ok (.iconst 2, 1) := by decide +kernel
theorem dX10_plan_53 : decode cX10_plan 53 = .ok (.invokevirtual 222, 3) := by decide +kernel
theorem dX10_plan_56 : decode cX10_plan 56 = .ok (.ireturn, 1) := by decide +kernel
theorem dX10_plan_57 : decode cX10_plan 57 = .ok (.aload_n 0, 1) := by decide +kernel
theorem dX10_plan_58 : decode cX10_plan 58 = .ok (.getfield 72, 3) := by decide +kernel
theorem dX10_plan_61 : decode cX10_plan 61 = .ok (.iload_n 1, 1) := by decide +kernel
theorem dX10_plan_62 : decode cX10_plan 62 = .ok (.iaload, 1) := by decide +kernel
theorem dX10_plan_63 : decode cX10_plan 63 = .ok (.ifCond .ge 9, 3) := by decide +kernel
theorem dX10_plan_66 : decode cX10_plan 66 = .ok (.aload_n 0, 1) := by decide +kernel
theorem dX10_plan_67 : decode cX10_plan 67 = .ok (.iconst 1, 1) := by decide +kernel
theorem dX10_plan_68 : decode cX10_plan 68 = .ok (.invokevirtual 222, 3) := by decide +kernel
theorem dX10_plan_71 : decode cX10_plan 71 = .ok (.ireturn, 1) := by decide +kernel
theorem dX10_plan_72 : decode cX10_plan 72 = .ok (.iload_n 3, 1) := by decide +kernel
theorem dX10_plan_73 : decode cX10_plan 73 = .ok (.aload_n 0, 1) := by decide +kernel
theorem dX10_plan_74 : decode cX10_plan 74 = .ok (.getfield 109, 3) := by decide +kernel
theorem dX10_plan_77 : decode cX10_plan 77 = .ok (.aload_n 0, 1) := by decide +kernel
theorem dX10_plan_78 : decode cX10_plan 78 = .ok (.getfield 72, 3) := by decide +kernel
theorem dX10_plan_81 : decode cX10_plan 81 = .ok (.iload_n 1, 1) := by decide +kernel
theorem dX10_plan_82 : decode cX10_plan 82 = .ok (.iaload, 1) := by decide +kernel
theorem dX10_plan_83 : decode cX10_plan 83 = .ok (.invokestatic 233, 3) := by decide +kernel
theorem dX10_plan_86 : decode cX10_plan 86 = .ok (.ifCond .eq 9, 3) := by decide +kernel
theorem dX10_plan_89 : decode cX10_plan 89 = .ok (.aload_n 0, 1) := by decide +kernel
theorem dX10_plan_90 : decode cX10_plan 90 = .ok (.iconst 3, 1) := by decide +kernel
theorem dX10_plan_91 : decode cX10_plan 91 = .ok (.invokevirtual 222, 3) := by decide +kernel
theorem dX10_plan_94 : decode cX10_plan 94 = .ok (.ireturn, 1) := by decide +kernel
theorem dX10_plan_95 : decode cX10_plan 95 = .ok (.aload_n 0, 1) := by decide +kernel
theorem dX10_plan_96 : decode cX10_plan 96 = .ok (.bipush 24, 2) := by decide +kernel
theorem dX10_plan_98 : decode cX10_plan 98 = .ok (.iload_n 1, 1) := by decide +kernel
theorem dX10_plan_99 : decode cX10_plan 99 = .ok (.imul, 1) := by decide +kernel
theorem dX10_plan_100 : decode cX10_plan 100 = .ok (.iload_n 3, 1) := by decide +kernel
theorem dX10_plan_101 : decode cX10_plan 101 = .ok (.iadd, 1) := by decide +kernel
theorem dX10_plan_102 : decode cX10_plan 102 = .ok (.invokevirtual 237, 3) := by decide +kernel
theorem dX10_plan_105 : decode cX10_plan 105 = .ok (.istore 4, 2) := by decide +kernel
theorem dX10_plan_107 : decode cX10_plan 107 = .ok (.iload 4, 2) := by decide +kernel
theorem dX10_plan_109 : decode cX10_plan 109 = .ok (.ifCond .ge 10, 3) := by decide +kernel
theorem dX10_plan_112 : decode cX10_plan 112 = .ok (.aload_n 0, 1) := by decide +kernel
theorem dX10_plan_113 : decode cX10_plan 113 = .ok (.iload 4, 2) := by decide +kernel
theorem dX10_plan_115 : decode cX10_plan 115 = .ok (.invokevirtual 219, 3) := by decide +kernel
theorem dX10_plan_118 : decode cX10_plan 118 = .ok (.ireturn, 1) := by decide +kernel
theorem dX10_plan_119 : decode cX10_plan 119 = .ok (.iconst 0, 1) := by decide +kernel
theorem dX10_plan_120 : decode cX10_plan 120 = .ok (.istore 5, 2) := by decide +kernel
theorem dX10_plan_122 : decode cX10_plan 122 = .ok (.iload 5, 2) := by decide +kernel
theorem dX10_plan_124 : decode cX10_plan 124 = .ok (.aload_n 0, 1) := by decide +kernel
theorem dX10_plan_125 : decode cX10_plan 125 = .ok (.getfield 109, 3) := by decide +kernel
theorem dX10_plan_128 : decode cX10_plan 128 = .ok (.if_icmp .ge 30, 3) := by decide +kernel
theorem dX10_plan_131 : decode cX10_plan 131 = .ok (.aload_n 0, 1) := by decide +kernel
theorem dX10_plan_132 : decode cX10_plan 132 = .ok (.getfield 66, 3) := by decide +kernel
theorem dX10_plan_135 : decode cX10_plan 135 = .ok (.iload 5, 2) := by decide +kernel
theorem dX10_plan_137 : decode cX10_plan 137 = .ok (.aload_n 0, 1) := by decide +kernel
theorem dX10_plan_138 : decode cX10_plan 138 = .ok (.getfield 78, 3) := by decide +kernel
theorem dX10_plan_141 : decode cX10_plan 141 = .ok (.bipush 24, 2) := by decide +kernel
theorem dX10_plan_143 : decode cX10_plan 143 = .ok (.iload_n 1, 1) := by decide +kernel
theorem dX10_plan_144 : decode cX10_plan 144 = .ok (.imul, 1) := by decide +kernel
theorem dX10_plan_145 : decode cX10_plan 145 = .ok (.iload_n 3, 1) := by decide +kernel
theorem dX10_plan_146 : decode cX10_plan 146 = .ok (.iadd, 1) := by decide +kernel
theorem dX10_plan_147 : decode cX10_plan 147 = .ok (.iload 5, 2) := by decide +kernel
theorem dX10_plan_149 : decode cX10_plan 149 = .ok (.iadd, 1) := by decide +kernel
theorem dX10_plan_150 : decode cX10_plan 150 = .ok (.iaload, 1) := by decide +kernel
theorem dX10_plan_151 : decode cX10_plan 151 = .ok (.iastore, 1) := by decide +kernel
theorem dX10_plan_152 : decode cX10_plan 152 = .ok (.iinc 5 1, 3) := by decide +kernel
theorem dX10_plan_155 : decode cX10_plan 155 = .ok (.goto (-33), 3) := by decide +kernel
theorem dX10_plan_158 : decode cX10_plan 158 = .ok (.aload_n 0, 1) := by decide +kernel
theorem dX10_plan_159 : decode cX10_plan 159 = .ok (.aload_n 0, 1) := by decide +kernel
theorem dX10_plan_160 : decode cX10_plan 160 = .ok (.getfield 109, 3) := by decide +kernel
theorem dX10_plan_163 : decode cX10_plan 163 = .ok (.putfield 93, 3) := by decide +kernel
theorem dX10_plan_166 : decode cX10_plan 166 = .ok (.aload_n 0, 1) := by decide +kernel
theorem dX10_plan_167 : decode cX10_plan 167 = .ok (.bipush (-9), 2) := by decide +kernel
theorem dX10_plan_169 : decode cX10_plan 169 = .ok (.putfield 97, 3) := by decide +kernel
theorem dX10_plan_172 : decode cX10_plan 172 = .ok (.aload_n 0, 1) := by decide +kernel
theorem dX10_plan_173 : decode cX10_plan 173 = .ok (.aload_n 0, 1) := by decide +kernel
theorem dX10_plan_174 : decode cX10_plan 174 = .ok (.getfield 109, 3) := by decide +kernel
theorem dX10_plan_177 : decode cX10_plan 177 = .ok (.invokevirtual 219, 3) := by decide +kernel
theorem dX10_plan_180 : decode cX10_plan 180 = .ok (.ireturn, 1) := by decide +kernel
theorem dX10_isSoundWith_0 : decode cX10_isSoundWith 0 = .ok (.iconst 0, 1) := by decide +kernel
theorem dX10_isSoundWith_1 : decode cX10_isSoundWith 1 = .ok (.istore_n 2, 1) := by decide +kernel
theorem dX10_isSoundWith_2 : decode cX10_isSoundWith 2 = .ok (.iload_n 2, 1) := by decide +kernel
theorem dX10_isSoundWith_3 : decode cX10_isSoundWith 3 = .ok (.aload_n 0, 1) := by decide +kernel
theorem dX10_isSoundWith_4 : decode cX10_isSoundWith 4 = .ok (.getfield 109, 3) := by decide +kernel
theorem dX10_isSoundWith_7 : decode cX10_isSoundWith 7 = .ok (.if_icmp .ge 21, 3) := by decide +kernel
theorem dX10_isSoundWith_10 : decode cX10_isSoundWith 10 = .ok (.aload_n 0, 1) := by decide +kernel
theorem dX10_isSoundWith_11 : decode cX10_isSoundWith 11 = .ok (.getfield 39, 3) := by decide +kernel
theorem dX10_isSoundWith_14 : decode cX10_isSoundWith 14 = .ok (.iload_n 2, 1) := by decide +kernel
theorem dX10_isSoundWith_15 : decode cX10_isSoundWith 15 = .ok (.aload_n 0, 1) := by decide +kernel
theorem dX10_isSoundWith_16 : decode cX10_isSoundWith 16 = .ok (.getfield 25, 3) := by decide +kernel
theorem dX10_isSoundWith_19 : decode cX10_isSoundWith 19 = .ok (.iload_n 2, 1) := by decide +kernel
theorem dX10_isSoundWith_20 : decode cX10_isSoundWith 20 = .ok (.iaload, 1) := by decide +kernel
theorem dX10_isSoundWith_21 : decode cX10_isSoundWith 21 = .ok (.iastore, 1) := by decide +kernel
theorem dX10_isSoundWith_22 : decode cX10_isSoundWith 22 = .ok (.iinc 2 1, 3) := by decide +kernel
theorem dX10_isSoundWith_25 : decode cX10_isSoundWith 25 = .ok (.goto (-23), 3) := by decide +kernel
theorem dX10_isSoundWith_28 : decode cX10_isSoundWith 28 = .ok (.iconst 0, 1) := by decide +kernel
theorem dX10_isSoundWith_29 : decode cX10_isSoundWith 29 = .ok (.istore_n 2, 1) := by decide +kernel
theorem dX10_isSoundWith_30 : decode cX10_isSoundWith 30 = .ok (.iload_n 2, 1) := by decide +kernel
theorem dX10_isSoundWith_31 : decode cX10_isSoundWith 31 = .ok (.aload_n 0, 1) := by decide +kernel
theorem dX10_isSoundWith_32 : decode cX10_isSoundWith 32 = .ok (.getfield 240, 3) := by decide +kernel
theorem dX10_isSoundWith_35 : decode cX10_isSoundWith 35 = .ok (.if_icmp .ge 54, 3) := by decide +kernel
theorem dX10_isSoundWith_38 : decode cX10_isSoundWith 38 = .ok (.aload_n 0, 1) := by decide +kernel
theorem dX10_isSoundWith_39 : decode cX10_isSoundWith 39 = .ok (.getfield 39, 3) := by decide +kernel
theorem dX10_isSoundWith_42 : decode cX10_isSoundWith 42 = .ok (.aload_n 0, 1) := by decide +kernel
theorem dX10_isSoundWith_43 : decode cX10_isSoundWith 43 = .ok (.getfield 87, 3) := by decide +kernel
theorem dX10_isSoundWith_46 : decode cX10_isSoundWith 46 = .ok (.iload_n 2, 1) := by decide +kernel
theorem dX10_isSoundWith_47 : decode cX10_isSoundWith 47 = .ok (.iaload, 1) := by decide +kernel
theorem dX10_isSoundWith_48 : decode cX10_isSoundWith 48 = .ok (.iload_n 1, 1) := by decide +kernel
theorem dX10_isSoundWith_49 : decode cX10_isSoundWith 49 = .ok (.iload_n 2, 1) := by decide +kernel
theorem dX10_isSoundWith_50 : decode cX10_isSoundWith 50 = .ok (.ishr, 1) := by decide +kernel
theorem dX10_isSoundWith_51 : decode cX10_isSoundWith 51 = .ok (.iconst 1, 1) := by decide +kernel
theorem dX10_isSoundWith_52 : decode cX10_isSoundWith 52 = .ok (.iand, 1) := by decide +kernel
theorem dX10_isSoundWith_53 : decode cX10_isSoundWith 53 = .ok (.iconst 1, 1) := by decide +kernel
theorem dX10_isSoundWith_54 : decode cX10_isSoundWith 54 = .ok (.if_icmp .ne 17, 3) := by decide +kernel
theorem dX10_isSoundWith_57 : decode cX10_isSoundWith 57 = .ok (.aload_n 0, 1) := by decide +kernel
theorem dX10_isSoundWith_58 : decode cX10_isSoundWith 58 = .ok (.getfield 66, 3) := by decide +kernel
theorem dX10_isSoundWith_61 : decode cX10_isSoundWith 61 = .ok (.aload_n 0, 1) := by decide +kernel
theorem dX10_isSoundWith_62 : decode cX10_isSoundWith 62 = .ok (.getfield 87, 3) := by decide +kernel
theorem dX10_isSoundWith_65 : decode cX10_isSoundWith 65 = .ok (.iload_n 2, 1) := by decide +kernel
theorem dX10_isSoundWith_66 : decode cX10_isSoundWith 66 = .ok (.iaload, 1) := by decide +kernel
theorem dX10_isSoundWith_67 : decode cX10_isSoundWith 67 = .ok (.iaload, 1) := by decide +kernel
theorem dX10_isSoundWith_68 : decode cX10_isSoundWith 68 = .ok (.goto 14, 3) := by decide +kernel
theorem dX10_isSoundWith_71 : decode cX10_isSoundWith 71 = .ok (.aload_n 0, 1) := by decide +kernel
theorem dX10_isSoundWith_72 : decode cX10_isSoundWith 72 = .ok (.getfield 25, 3) := by decide +kernel
theorem dX10_isSoundWith_75 : decode cX10_isSoundWith 75 = .ok (.aload_n 0, 1) := by decide +kernel
theorem dX10_isSoundWith_76 : decode cX10_isSoundWith 76 = .ok (.getfield 87, 3) := by decide +kernel
theorem dX10_isSoundWith_79 : decode cX10_isSoundWith 79 = .ok (.iload_n 2, 1) := by decide +kernel
theorem dX10_isSoundWith_80 : decode cX10_isSoundWith 80 = .ok (.iaload, 1) := by decide +kernel
theorem dX10_isSoundWith_81 : decode cX10_isSoundWith 81 = .ok (.iaload, 1) := by decide +kernel
theorem dX10_isSoundWith_82 : decode cX10_isSoundWith 82 = .ok (.iastore, 1) := by decide +kernel
theorem dX10_isSoundWith_83 : decode cX10_isSoundWith 83 = .ok (.iinc 2 1, 3) := by decide +kernel
theorem dX10_isSoundWith_86 : decode cX10_isSoundWith 86 = .ok (.goto (-56), 3) := by decide +kernel
theorem dX10_isSoundWith_89 : decode cX10_isSoundWith 89 = .ok (.aload_n 0, 1) := by decide +kernel
theorem dX10_isSoundWith_90 : decode cX10_isSoundWith 90 = .ok (.iconst 0, 1) := by decide +kernel
theorem dX10_isSoundWith_91 : decode cX10_isSoundWith 91 = .ok (.invokevirtual 148, 3) := by decide +kernel
theorem dX10_isSoundWith_94 : decode cX10_isSoundWith 94 = .ok (.aload_n 0, 1) := by decide +kernel
theorem dX10_isSoundWith_95 : decode cX10_isSoundWith 95 = .ok (.invokevirtual 157, 3) := by decide +kernel
theorem dX10_isSoundWith_98 : decode cX10_isSoundWith 98 = .ok (.ireturn, 1) := by decide +kernel
theorem dX10_countOthers_0 : decode cX10_countOthers 0 = .ok (.iconst 0, 1) := by decide +kernel
theorem dX10_countOthers_1 : decode cX10_countOthers 1 = .ok (.istore_n 1, 1) := by decide +kernel
theorem dX10_countOthers_2 : decode cX10_countOthers 2 = .ok (.iconst 0, 1) := by decide +kernel
theorem dX10_countOthers_3 : decode cX10_countOthers 3 = .ok (.istore_n 2, 1) := by decide +kernel
theorem dX10_countOthers_4 : decode cX10_countOthers 4 = .ok (.iload_n 2, 1) := by decide +kernel
theorem dX10_countOthers_5 : decode cX10_countOthers 5 = .ok (.aload_n 0, 1) := by decide +kernel
theorem dX10_countOthers_6 : decode cX10_countOthers 6 = .ok (.getfield 93, 3) := by decide +kernel
theorem dX10_countOthers_9 : decode cX10_countOthers 9 = .ok (.if_icmp .ge 32, 3) := by decide +kernel
theorem dX10_countOthers_12 : decode cX10_countOthers 12 = .ok (.iload_n 1, 1) := by decide +kernel
theorem dX10_countOthers_13 : decode cX10_countOthers 13 = .ok (.aload_n 0, 1) := by decide +kernel
theorem dX10_countOthers_14 : decode cX10_countOthers 14 = .ok (.getfield 66, 3) := by decide +kernel
theorem dX10_countOthers_17 : decode cX10_countOthers 17 = .ok (.iload_n 2, 1) := by decide +kernel
theorem dX10_countOthers_18 : decode cX10_countOthers 18 = .ok (.iaload, 1) := by decide +kernel
theorem dX10_countOthers_19 : decode cX10_countOthers 19 = .ok (.aload_n 0, 1) := by decide +kernel
theorem dX10_countOthers_20 : decode cX10_countOthers 20 = .ok (.getfield 25, 3) := by decide +kernel
theorem dX10_countOthers_23 : decode cX10_countOthers 23 = .ok (.iload_n 2, 1) := by decide +kernel
theorem dX10_countOthers_24 : decode cX10_countOthers 24 = .ok (.iaload, 1) := by decide +kernel
theorem dX10_countOthers_25 : decode cX10_countOthers 25 = .ok (.if_icmp .eq 7, 3) := by decide +kernel
theorem dX10_countOthers_28 : decode cX10_countOthers 28 = .ok (.iconst 1, 1) := by decide +kernel
theorem dX10_countOthers_29 : decode cX10_countOthers 29 = .ok (.goto 4, 3) := by decide +kernel
theorem dX10_countOthers_32 : decode cX10_countOthers 32 = .ok (.iconst 0, 1) := by decide +kernel
theorem dX10_countOthers_33 : decode cX10_countOthers 33 = .ok (.iadd, 1) := by decide +kernel
theorem dX10_countOthers_34 : decode cX10_countOthers 34 = .ok (.istore_n 1, 1) := by decide +kernel
theorem dX10_countOthers_35 : decode cX10_countOthers 35 = .ok (.iinc 2 1, 3) := by decide +kernel
theorem dX10_countOthers_38 : decode cX10_countOthers 38 = .ok (.goto (-34), 3) := by decide +kernel
theorem dX10_countOthers_41 : decode cX10_countOthers 41 = .ok (.iload_n 1, 1) := by decide +kernel
theorem dX10_countOthers_42 : decode cX10_countOthers 42 = .ok (.ireturn, 1) := by decide +kernel
theorem dX10_isOtherLocked_0 : decode cX10_isOtherLocked 0 = .ok (.iconst 0, 1) := by decide +kernel
theorem dX10_isOtherLocked_1 : decode cX10_isOtherLocked 1 = .ok (.istore_n 1, 1) := by decide +kernel
theorem dX10_isOtherLocked_2 : decode cX10_isOtherLocked 2 = .ok (.iconst 0, 1) := by decide +kernel
theorem dX10_isOtherLocked_3 : decode cX10_isOtherLocked 3 = .ok (.istore_n 2, 1) := by decide +kernel
theorem dX10_isOtherLocked_4 : decode cX10_isOtherLocked 4 = .ok (.iload_n 2, 1) := by decide +kernel
theorem dX10_isOtherLocked_5 : decode cX10_isOtherLocked 5 = .ok (.aload_n 0, 1) := by decide +kernel
theorem dX10_isOtherLocked_6 : decode cX10_isOtherLocked 6 = .ok (.getfield 93, 3) := by decide +kernel
theorem dX10_isOtherLocked_9 : decode cX10_isOtherLocked 9 = .ok (.if_icmp .ge 43, 3) := by decide +kernel
theorem dX10_isOtherLocked_12 : decode cX10_isOtherLocked 12 = .ok (.iload_n 1, 1) := by decide +kernel
theorem dX10_isOtherLocked_13 : decode cX10_isOtherLocked 13 = .ok (.ifCond .ne 27, 3) := by decide +kernel
theorem dX10_isOtherLocked_16 : decode cX10_isOtherLocked 16 = .ok (.aload_n 0, 1) := by decide +kernel
theorem dX10_isOtherLocked_17 : decode cX10_isOtherLocked 17 = .ok (.getfield 66, 3) := by decide +kernel
theorem dX10_isOtherLocked_20 : decode cX10_isOtherLocked 20 = .ok (.iload_n 2, 1) := by decide +kernel
theorem dX10_isOtherLocked_21 : decode cX10_isOtherLocked 21 = .ok (.iaload, 1) := by decide +kernel
theorem dX10_isOtherLocked_22 : decode cX10_isOtherLocked 22 = .ok (.aload_n 0, 1) := by decide +kernel
theorem dX10_isOtherLocked_23 : decode cX10_isOtherLocked 23 = .ok (.getfield 25, 3) := by decide +kernel
theorem dX10_isOtherLocked_26 : decode cX10_isOtherLocked 26 = .ok (.iload_n 2, 1) := by decide +kernel
theorem dX10_isOtherLocked_27 : decode cX10_isOtherLocked 27 = .ok (.iaload, 1) := by decide +kernel
theorem dX10_isOtherLocked_28 : decode cX10_isOtherLocked 28 = .ok (.if_icmp .eq 16, 3) := by decide +kernel
theorem dX10_isOtherLocked_31 : decode cX10_isOtherLocked 31 = .ok (.aload_n 0, 1) := by decide +kernel
theorem dX10_isOtherLocked_32 : decode cX10_isOtherLocked 32 = .ok (.getfield 28, 3) := by decide +kernel
theorem dX10_isOtherLocked_35 : decode cX10_isOtherLocked 35 = .ok (.iload_n 2, 1) := by decide +kernel
theorem dX10_isOtherLocked_36 : decode cX10_isOtherLocked 36 = .ok (.baload, 1) := by decide +kernel
theorem dX10_isOtherLocked_37 : decode cX10_isOtherLocked 37 = .ok (.ifCond .eq 7, 3) := by decide +kernel
theorem dX10_isOtherLocked_40 : decode cX10_isOtherLocked 40 = .ok (.iconst 1, 1) := by decide +kernel
theorem dX10_isOtherLocked_41 : decode cX10_isOtherLocked 41 = .ok (.goto 4, 3) := by decide +kernel
theorem dX10_isOtherLocked_44 : decode cX10_isOtherLocked 44 = .ok (.iconst 0, 1) := by decide +kernel
theorem dX10_isOtherLocked_45 : decode cX10_isOtherLocked 45 = .ok (.istore_n 1, 1) := by decide +kernel
theorem dX10_isOtherLocked_46 : decode cX10_isOtherLocked 46 = .ok (.iinc 2 1, 3) := by decide +kernel
theorem dX10_isOtherLocked_49 : decode cX10_isOtherLocked 49 = .ok (.goto (-45), 3) := by decide +kernel
theorem dX10_isOtherLocked_52 : decode cX10_isOtherLocked 52 = .ok (.iload_n 1, 1) := by decide +kernel
theorem dX10_isOtherLocked_53 : decode cX10_isOtherLocked 53 = .ok (.ireturn, 1) := by decide +kernel
theorem dX10_findLeads_0 : decode cX10_findLeads 0 = .ok (.iconst 1, 1) := by decide +kernel
theorem dX10_findLeads_1 : decode cX10_findLeads 1 = .ok (.aload_n 0, 1) := by decide +kernel
theorem dX10_findLeads_2 : decode cX10_findLeads 2 = .ok (.getfield 240, 3) := by decide +kernel
theorem dX10_findLeads_5 : decode cX10_findLeads 5 = .ok (.ishl, 1) := by decide +kernel
theorem dX10_findLeads_6 : decode cX10_findLeads 6 = .ok (.iconst 1, 1) := by decide +kernel
theorem dX10_findLeads_7 : decode cX10_findLeads 7 = .ok (.isub, 1) := by decide +kernel
theorem dX10_findLeads_8 : decode cX10_findLeads 8 = .ok (.istore_n 1, 1) := by decide +kernel
theorem dX10_findLeads_9 : decode cX10_findLeads 9 = .ok (.aload_n 0, 1) := by decide +kernel
theorem dX10_findLeads_10 : decode cX10_findLeads 10 = .ok (.getfield 90, 3) := by decide +kernel
theorem dX10_findLeads_13 : decode cX10_findLeads 13 = .ok (.iload_n 1, 1) := by decide +kernel
theorem dX10_findLeads_14 : decode cX10_findLeads 14 = .ok (.aload_n 0, 1) := by decide +kernel
theorem dX10_findLeads_15 : decode cX10_findLeads 15 = .ok (.getfield 240, 3) := by decide +kernel
theorem dX10_findLeads_18 : decode cX10_findLeads 18 = .ok (.ifCond .eq 11, 3) := by decide +kernel
theorem dX10_findLeads_21 : decode cX10_findLeads 21 = .ok (.aload_n 0, 1) := by decide +kernel
theorem dX10_findLeads_22 : decode cX10_findLeads 22 = .ok (.iload_n 1, 1) := by decide +kernel
theorem dX10_findLeads_23 : decode cX10_findLeads 23 = .ok (.invokevirtual 243, 3) := by decide +kernel
theorem dX10_findLeads_26 : decode cX10_findLeads 26 = .ok (.ifCond .eq 7, 3) := by decide +kernel
theorem dX10_findLeads_29 : decode cX10_findLeads 29 = .ok (.iconst 1, 1) := by decide +kernel
theorem dX10_findLeads_30 : decode cX10_findLeads 30 = .ok (.goto 4, 3) := by decide +kernel
theorem dX10_findLeads_33 : decode cX10_findLeads 33 = .ok (.iconst 0, 1) := by decide +kernel
theorem dX10_findLeads_34 : decode cX10_findLeads 34 = .ok (.bastore, 1) := by decide +kernel
theorem dX10_findLeads_35 : decode cX10_findLeads 35 = .ok (.iload_n 1, 1) := by decide +kernel
theorem dX10_findLeads_36 : decode cX10_findLeads 36 = .ok (.iconst 1, 1) := by decide +kernel
theorem dX10_findLeads_37 : decode cX10_findLeads 37 = .ok (.isub, 1) := by decide +kernel
theorem dX10_findLeads_38 : decode cX10_findLeads 38 = .ok (.istore_n 2, 1) := by decide +kernel
theorem dX10_findLeads_39 : decode cX10_findLeads 39 = .ok (.iload_n 2, 1) := by decide +kernel
theorem dX10_findLeads_40 : decode cX10_findLeads 40 = .ok (.ifCond .lt 89, 3) := by decide +kernel
theorem dX10_findLeads_43 : decode cX10_findLeads 43 = .ok (.iconst 0, 1) := by decide +kernel
theorem dX10_findLeads_44 : decode cX10_findLeads 44 = .ok (.istore_n 3, 1) := by decide +kernel
theorem dX10_findLeads_45 : decode cX10_findLeads 45 = .ok (.iconst 0, 1) := by decide +kernel
theorem dX10_findLeads_46 : decode cX10_findLeads 46 = .ok (.istore 4, 2) := by decide +kernel
theorem dX10_findLeads_48 : decode cX10_findLeads 48 = .ok (.iload 4, 2) := by decide +kernel
theorem dX10_findLeads_50 : decode cX10_findLeads 50 = .ok (.aload_n 0, 1) := by decide +kernel
theorem dX10_findLeads_51 : decode cX10_findLeads 51 = .ok (.getfield 240, 3) := by decide +kernel
theorem dX10_findLeads_54 : decode cX10_findLeads 54 = .ok (.if_icmp .ge 42, 3) := by decide +kernel
theorem dX10_findLeads_57 : decode cX10_findLeads 57 = .ok (.iload_n 3, 1) := by decide +kernel
theorem dX10_findLeads_58 : decode cX10_findLeads 58 = .ok (.ifCond .ne 26, 3) := by decide +kernel
theorem dX10_findLeads_61 : decode cX10_findLeads 61 = .ok (.iload_n 2, 1) := by decide +kernel
theorem dX10_findLeads_62 : decode cX10_findLeads 62 = .ok (.iload 4, 2) := by decide +kernel
theorem dX10_findLeads_64 : decode cX10_findLeads 64 = .ok (.ishr, 1) := by decide +kernel
theorem dX10_findLeads_65 : decode cX10_findLeads 65 = .ok (.iconst 1, 1) := by decide +kernel
theorem dX10_findLeads_66 : decode cX10_findLeads 66 = .ok (.iand, 1) := by decide +kernel
theorem dX10_findLeads_67 : decode cX10_findLeads 67 = .ok (.ifCond .ne 21, 3) := by decide +kernel
theorem dX10_findLeads_70 : decode cX10_findLeads 70 = .ok (.aload_n 0, 1) := by decide +kernel
theorem dX10_findLeads_71 : decode cX10_findLeads 71 = .ok (.getfield 90, 3) := by decide +kernel
theorem dX10_findLeads_74 : decode cX10_findLeads 74 = .ok (.iload_n 2, 1) := by decide +kernel
theorem dX10_findLeads_75 : decode cX10_findLeads 75 = .ok (.iconst 1, 1) := by decide +kernel
theorem dX10_findLeads_76 : decode cX10_findLeads 76 = .ok (.iload 4, 2) := by decide +kernel
theorem dX10_findLeads_78 : decode cX10_findLeads 78 = .ok (.ishl, 1) := by decide +kernel
theorem dX10_findLeads_79 : decode cX10_findLeads 79 = .ok (.ior, 1) := by decide +kernel
theorem dX10_findLeads_80 : decode cX10_findLeads 80 = .ok (.baload, 1) := by decide +kernel
theorem dX10_findLeads_81 : decode cX10_findLeads 81 = .ok (.ifCond .eq 7, 3) := by decide +kernel
theorem dX10_findLeads_84 : decode cX10_findLeads 84 = .ok (.iconst 1, 1) := by decide +kernel
theorem dX10_findLeads_85 : decode cX10_findLeads 85 = .ok (.goto 4, 3) := by decide +kernel
theorem dX10_findLeads_88 : decode cX10_findLeads 88 = .ok (.iconst 0, 1) := by decide +kernel
theorem dX10_findLeads_89 : decode cX10_findLeads 89 = .ok (.istore_n 3, 1) := by decide +kernel
theorem dX10_findLeads_90 : decode cX10_findLeads 90 = .ok (.iinc 4 1, 3) := by decide +kernel
theorem dX10_findLeads_93 : decode cX10_findLeads 93 = .ok (.goto (-45), 3) := by decide +kernel
theorem dX10_findLeads_96 : decode cX10_findLeads 96 = .ok (.aload_n 0, 1) := by decide +kernel
theorem dX10_findLeads_97 : decode cX10_findLeads 97 = .ok (.getfield 90, 3) := by decide +kernel
theorem dX10_findLeads_100 : decode cX10_findLeads 100 = .ok (.iload_n 2, 1) := by decide +kernel
theorem dX10_findLeads_101 : decode cX10_findLeads 101 = .ok (.iload_n 3, 1) := by decide +kernel
theorem dX10_findLeads_102 : decode cX10_findLeads 102 = .ok (.ifCond .eq 19, 3) := by decide +kernel
theorem dX10_findLeads_105 : decode cX10_findLeads 105 = .ok (.iload_n 2, 1) := by decide +kernel
theorem dX10_findLeads_106 : decode cX10_findLeads 106 = .ok (.ifCond .eq 11, 3) := by decide +kernel
theorem dX10_findLeads_109 : decode cX10_findLeads 109 = .ok (.aload_n 0, 1) := by decide +kernel
theorem dX10_findLeads_110 : decode cX10_findLeads 110 = .ok (.iload_n 2, 1) := by decide +kernel
theorem dX10_findLeads_111 : decode cX10_findLeads 111 = .ok (.invokevirtual 243, 3) := by decide +kernel
theorem dX10_findLeads_114 : decode cX10_findLeads 114 = .ok (.ifCond .eq 7, 3) := by decide +kernel
theorem dX10_findLeads_117 : decode cX10_findLeads 117 = .ok (.iconst 1, 1) := by decide +kernel
theorem dX10_findLeads_118 : decode cX10_findLeads 118 = .ok (.goto 4, 3) := by decide +kernel
theorem dX10_findLeads_121 : decode cX10_findLeads 121 = .ok (.iconst 0, 1) := by decide +kernel
theorem dX10_findLeads_122 : decode cX10_findLeads 122 = .ok (.bastore, 1) := by decide +kernel
theorem dX10_findLeads_123 : decode cX10_findLeads 123 = .ok (.iinc 2 (-1), 3) := by decide +kernel
theorem dX10_findLeads_126 : decode cX10_findLeads 126 = .ok (.goto (-87), 3) := by decide +kernel
theorem dX10_findLeads_129 : decode cX10_findLeads 129 = .ok (.return_, 1) := by decide +kernel
theorem dX10_change_0 : decode cX10_change 0 = .ok (.aload_n 0, 1) := by decide +kernel
theorem dX10_change_1 : decode cX10_change 1 = .ok (.getfield 93, 3) := by decide +kernel
theorem dX10_change_4 : decode cX10_change 4 = .ok (.aload_n 0, 1) := by decide +kernel
theorem dX10_change_5 : decode cX10_change 5 = .ok (.getfield 109, 3) := by decide +kernel
theorem dX10_change_8 : decode cX10_change 8 = .ok (.if_icmp .ne 10, 3) := by decide +kernel
theorem dX10_change_11 : decode cX10_change 11 = .ok (.aload_n 0, 1) := by decide +kernel
theorem dX10_change_12 : decode cX10_change 12 = .ok (.invokevirtual 246, 3) := by decide +kernel
theorem dX10_change_15 : decode cX10_change 15 = .ok (.ifCond .eq 6, 3) := by decide +kernel
theorem dX10_change_18 : decode cX10_change 18 = .ok (.bipush (-3), 2) := by decide +kernel
theorem dX10_change_20 : decode cX10_change 20 = .ok (.ireturn, 1) := by decide +kernel
theorem dX10_change_21 : decode cX10_change 21 = .ok (.aload_n 0, 1) := by decide +kernel
theorem dX10_change_22 : decode cX10_change 22 = .ok (.invokevirtual 249, 3) := by decide +kernel
theorem dX10_change_25 : decode cX10_change 25 = .ok (.bipush 12, 2) := by decide +kernel
theorem dX10_change_27 : decode cX10_change 27 = .ok (.if_icmp .le 6, 3) := by decide +kernel
theorem dX10_change_30 : decode cX10_change 30 = .ok (.bipush (-6), 2) := by decide +kernel
theorem dX10_change_32 : decode cX10_change 32 = .ok (.ireturn, 1) := by decide +kernel
theorem dX10_change_33 : decode cX10_change 33 = .ok (.aload_n 0, 1) := by decide +kernel
theorem dX10_change_34 : decode cX10_change 34 = .ok (.iconst 0, 1) := by decide +kernel
theorem dX10_change_35 : decode cX10_change 35 = .ok (.putfield 240, 3) := by decide +kernel
theorem dX10_change_38 : decode cX10_change 38 = .ok (.iconst 0, 1) := by decide +kernel
theorem dX10_change_39 : decode cX10_change 39 = .ok (.istore_n 1, 1) := by decide +kernel
theorem dX10_change_40 : decode cX10_change 40 = .ok (.iload_n 1, 1) := by decide +kernel
theorem dX10_change_41 : decode cX10_change 41 = .ok (.aload_n 0, 1) := by decide +kernel
theorem dX10_change_42 : decode cX10_change 42 = .ok (.getfield 109, 3) := by decide +kernel
theorem dX10_change_45 : decode cX10_change 45 = .ok (.if_icmp .ge 44, 3) := by decide +kernel
theorem dX10_change_48 : decode cX10_change 48 = .ok (.aload_n 0, 1) := by decide +kernel
theorem dX10_change_49 : decode cX10_change 49 = .ok (.getfield 66, 3) := by decide +kernel
theorem dX10_change_52 : decode cX10_change 52 = .ok (.iload_n 1, 1) := by decide +kernel
theorem dX10_change_53 : decode cX10_change 53 = .ok (.iaload, 1) := by decide +kernel
theorem dX10_change_54 : decode cX10_change 54 = .ok (.aload_n 0, 1) := by decide +kernel
theorem dX10_change_55 : decode cX10_change 55 = .ok (.getfield 25, 3) := by decide +kernel
theorem dX10_change_58 : decode cX10_change 58 = .ok (.iload_n 1, 1) := by decide +kernel
theorem dX10_change_59 : decode cX10_change 59 = .ok (.iaload, 1) := by decide +kernel
theorem dX10_change_60 : decode cX10_change 60 = .ok (.if_icmp .eq 23, 3) := by decide +kernel
theorem dX10_change_63 : decode cX10_change 63 = .ok (.aload_n 0, 1) := by decide +kernel
theorem dX10_change_64 : decode cX10_change 64 = .ok (.getfield 87, 3) := by decide +kernel
theorem dX10_change_67 : decode cX10_change 67 = .ok (.aload_n 0, 1) := by decide +kernel
theorem dX10_change_68 : decode cX10_change 68 = .ok (.getfield 240, 3) := by decide +kernel
theorem dX10_change_71 : decode cX10_change 71 = .ok (.iload_n 1, 1) := by decide +kernel
theorem dX10_change_72 : decode cX10_change 72 = .ok (.iastore, 1) := by decide +kernel
theorem dX10_change_73 : decode cX10_change 73 = .ok (.aload_n 0, 1) := by decide +kernel
theorem dX10_change_74 : decode cX10_change 74 = .ok (.dup, 1) := by decide +kernel
theorem dX10_change_75 : decode cX10_change 75 = .ok (.getfield 240, 3) := by decide +kernel
theorem dX10_change_78 : decode cX10_change 78 = .ok (.iconst 1, 1) := by decide +kernel
theorem dX10_change_79 : decode cX10_change 79 = .ok (.iadd, 1) := by decide +kernel
theorem dX10_change_80 : decode cX10_change 80 = .ok (.putfield 240, 3) := by decide +kernel
theorem dX10_change_83 : decode cX10_change 83 = .ok (.iinc 1 1, 3) := by decide +kernel
theorem dX10_change_86 : decode cX10_change 86 = .ok (.goto (-46), 3) := by decide +kernel
theorem dX10_change_89 : decode cX10_change 89 = .ok (.aload_n 0, 1) := by decide +kernel
theorem dX10_change_90 : decode cX10_change 90 = .ok (.invokevirtual 252, 3) := by decide +kernel
theorem dX10_change_93 : decode cX10_change 93 = .ok (.aload_n 0, 1) := by decide +kernel
theorem dX10_change_94 : decode cX10_change 94 = .ok (.getfield 90, 3) := by decide +kernel
theorem dX10_change_97 : decode cX10_change 97 = .ok (.iconst 0, 1) := by decide +kernel
theorem dX10_change_98 : decode cX10_change 98 = .ok (.baload, 1) := by decide +kernel
theorem dX10_change_99 : decode cX10_change 99 = .ok (.ifCond .ne 12, 3) := by decide +kernel
theorem dX10_change_102 : decode cX10_change 102 = .ok (.aload_n 0, 1) := by decide +kernel
theorem dX10_change_103 : decode cX10_change 103 = .ok (.bipush (-9), 2) := by decide +kernel
theorem dX10_change_105 : decode cX10_change 105 = .ok (.putfield 97, 3) := by decide +kernel
theorem dX10_change_108 : decode cX10_change 108 = .ok (.bipush (-9), 2) := by decide +kernel
theorem dX10_change_110 : decode cX10_change 110 = .ok (.ireturn, 1) := by decide +kernel
theorem dX10_change_111 : decode cX10_change 111 = .ok (.iconst 0, 1) := by decide +kernel
theorem dX10_change_112 : decode cX10_change 112 = .ok (.istore_n 1, 1) := by decide +kernel
theorem dX10_change_113 : decode cX10_change 113 = .ok (.aload_n 0, 1) := by decide +kernel
theorem dX10_change_114 : decode cX10_change 114 = .ok (.iconst 0, 1) := by decide +kernel
theorem dX10_change_115 : decode cX10_change 115 = .ok (.putfield 97, 3) := by decide +kernel
theorem dX10_change_118 : decode cX10_change 118 = .ok (.aload_n 0, 1) := by decide +kernel
theorem dX10_change_119 : decode cX10_change 119 = .ok (.getfield 97, 3) := by decide +kernel
theorem dX10_change_122 : decode cX10_change 122 = .ok (.aload_n 0, 1) := by decide +kernel
theorem dX10_change_123 : decode cX10_change 123 = .ok (.getfield 240, 3) := by decide +kernel
theorem dX10_change_126 : decode cX10_change 126 = .ok (.if_icmp .ge 67, 3) := by decide +kernel
theorem dX10_change_129 : decode cX10_change 129 = .ok (.iconst 0, 1) := by decide +kernel
theorem dX10_change_130 : decode cX10_change 130 = .ok (.istore_n 2, 1) := by decide +kernel
theorem dX10_change_131 : decode cX10_change 131 = .ok (.iload_n 1, 1) := by decide +kernel
theorem dX10_change_132 : decode cX10_change 132 = .ok (.iload_n 2, 1) := by decide +kernel
theorem dX10_change_133 : decode cX10_change 133 = .ok (.ishr, 1) := by decide +kernel
theorem dX10_change_134 : decode cX10_change 134 = .ok (.iconst 1, 1) := by decide +kernel
theorem dX10_change_135 : decode cX10_change 135 = .ok (.iand, 1) := by decide +kernel
theorem dX10_change_136 : decode cX10_change 136 = .ok (.iconst 1, 1) := by decide +kernel
theorem dX10_change_137 : decode cX10_change 137 = .ok (.if_icmp .eq 16, 3) := by decide +kernel
theorem dX10_change_140 : decode cX10_change 140 = .ok (.aload_n 0, 1) := by decide +kernel
theorem dX10_change_141 : decode cX10_change 141 = .ok (.getfield 90, 3) := by decide +kernel
theorem dX10_change_144 : decode cX10_change 144 = .ok (.iload_n 1, 1) := by decide +kernel
theorem dX10_change_145 : decode cX10_change 145 = .ok (.iconst 1, 1) := by decide +kernel
theorem dX10_change_146 : decode cX10_change 146 = .ok (.iload_n 2, 1) := by decide +kernel
theorem dX10_change_147 : decode cX10_change 147 = .ok (.ishl, 1) := by decide +kernel
theorem dX10_change_148 : decode cX10_change 148 = .ok (.ior, 1) := by decide +kernel
theorem dX10_change_149 : decode cX10_change 149 = .ok (.baload, 1) := by decide +kernel
theorem dX10_change_150 : decode cX10_change 150 = .ok (.ifCond .ne 9, 3) := by decide +kernel
theorem dX10_change_153 : decode cX10_change 153 = .ok (.iinc 2 1, 3) := by decide +kernel
theorem dX10_change_156 : decode cX10_change 156 = .ok (.goto (-25), 3) := by decide +kernel
theorem dX10_change_159 : decode cX10_change 159 = .ok (.aload_n 0, 1) := by decide +kernel
theorem dX10_change_160 : decode cX10_change 160 = .ok (.getfield 84, 3) := by decide +kernel
theorem dX10_change_163 : decode cX10_change 163 = .ok (.aload_n 0, 1) := by decide +kernel
theorem dX10_change_164 : decode cX10_change 164 = .ok (.getfield 97, 3) := by decide +kernel
theorem dX10_change_167 : decode cX10_change 167 = .ok (.aload_n 0, 1) := by decide +kernel
theorem dX10_change_168 : decode cX10_change 168 = .ok (.getfield 87, 3) := by decide +kernel
theorem dX10_change_171 : decode cX10_change 171 = .ok (.iload_n 2, 1) := by decide +kernel
theorem dX10_change_172 : decode cX10_change 172 = .ok (.iaload, 1) := by decide +kernel
theorem dX10_change_173 : decode cX10_change 173 = .ok (.iastore, 1) := by decide +kernel
theorem dX10_change_174 : decode cX10_change 174 = .ok (.aload_n 0, 1) := by decide +kernel
theorem dX10_change_175 : decode cX10_change 175 = .ok (.dup, 1) := by decide +kernel
theorem dX10_change_176 : decode cX10_change 176 = .ok (.getfield 97, 3) := by decide +kernel
theorem dX10_change_179 : decode cX10_change 179 = .ok (.iconst 1, 1) := by decide +kernel
theorem dX10_change_180 : decode cX10_change 180 = .ok (.iadd, 1) := by decide +kernel
theorem dX10_change_181 : decode cX10_change 181 = .ok (.putfield 97, 3) := by decide +kernel
theorem dX10_change_184 : decode cX10_change 184 = .ok (.iload_n 1, 1) := by decide +kernel
theorem dX10_change_185 : decode cX10_change 185 = .ok (.iconst 1, 1) := by decide +kernel
theorem dX10_change_186 : decode cX10_change 186 = .ok (.iload_n 2, 1) := by decide +kernel
theorem dX10_change_187 : decode cX10_change 187 = .ok (.ishl, 1) := by decide +kernel
theorem dX10_change_188 : decode cX10_change 188 = .ok (.ior, 1) := by decide +kernel
theorem dX10_change_189 : decode cX10_change 189 = .ok (.istore_n 1, 1) := by decide +kernel
theorem dX10_change_190 : decode cX10_change 190 = .ok (.goto (-72), 3) := by decide +kernel
theorem dX10_change_193 : decode cX10_change 193 = .ok (.aload_n 0, 1) := by decide +kernel
theorem dX10_change_194 : decode cX10_change 194 = .ok (.getfield 97, 3) := by decide +kernel
theorem dX10_change_197 : decode cX10_change 197 = .ok (.ireturn, 1) := by decide +kernel
theorem dX10_step_0 : decode cX10_step 0 = .ok (.iload_n 1, 1) := by decide +kernel
theorem dX10_step_1 : decode cX10_step 1 = .ok (.i2l, 1) := by decide +kernel
theorem dX10_step_2 : decode cX10_step 2 = .ok (.lconst 0, 1) := by decide +kernel
theorem dX10_step_3 : decode cX10_step 3 = .ok (.aload_n 0, 1) := by decide +kernel
theorem dX10_step_4 : decode cX10_step 4 = .ok (.getfield 97, 3) := by decide +kernel
theorem dX10_step_7 : decode cX10_step 7 = .ok (.i2l, 1) := by decide +kernel
theorem dX10_step_8 : decode cX10_step 8 = .ok (.lconst 1, 1) := by decide +kernel
theorem dX10_step_9 : decode cX10_step 9 = .ok (.lsub, 1) := by decide +kernel
theorem dX10_step_10 : decode cX10_step 10 = .ok (.invokestatic 112, 3) := by decide +kernel
theorem dX10_step_13 : decode cX10_step 13 = .ok (.ifCond .eq 12, 3) := by decide +kernel
theorem dX10_step_16 : decode cX10_step 16 = .ok (.aload_n 0, 1) := by decide +kernel
theorem dX10_step_17 : decode cX10_step 17 = .ok (.getfield 84, 3) := by decide +kernel
theorem dX10_step_20 : decode cX10_step 20 = .ok (.iload_n 1, 1) := by decide +kernel
theorem dX10_step_21 : decode cX10_step 21 = .ok (.iaload, 1) := by decide +kernel
theorem dX10_step_22 : decode cX10_step 22 = .ok (.goto 4, 3) := by decide +kernel
theorem dX10_step_25 : decode cX10_step 25 = .ok (.iconst (-1), 1) := by decide +kernel
theorem dX10_step_26 : decode cX10_step 26 = .ok (.ireturn, 1) := by decide +kernel
theorem dX10_go_0 : decode cX10_go 0 = .ok (.aload_n 0, 1) := by decide +kernel
theorem dX10_go_1 : decode cX10_go 1 = .ok (.getfield 97, 3) := by decide +kernel
theorem dX10_go_4 : decode cX10_go 4 = .ok (.ifCond .ge 6, 3) := by decide +kernel
theorem dX10_go_7 : decode cX10_go 7 = .ok (.bipush (-3), 2) := by decide +kernel
theorem dX10_go_9 : decode cX10_go 9 = .ok (.ireturn, 1) := by decide +kernel
theorem dX10_go_10 : decode cX10_go 10 = .ok (.aload_n 0, 1) := by decide +kernel
theorem dX10_go_11 : decode cX10_go 11 = .ok (.getfield 97, 3) := by decide +kernel
theorem dX10_go_14 : decode cX10_go 14 = .ok (.istore_n 1, 1) := by decide +kernel
theorem dX10_go_15 : decode cX10_go 15 = .ok (.iconst 0, 1) := by decide +kernel
theorem dX10_go_16 : decode cX10_go 16 = .ok (.istore_n 2, 1) := by decide +kernel
theorem dX10_go_17 : decode cX10_go 17 = .ok (.iload_n 2, 1) := by decide +kernel
theorem dX10_go_18 : decode cX10_go 18 = .ok (.iload_n 1, 1) := by decide +kernel
theorem dX10_go_19 : decode cX10_go 19 = .ok (.if_icmp .ge 31, 3) := by decide +kernel
theorem dX10_go_22 : decode cX10_go 22 = .ok (.aload_n 0, 1) := by decide +kernel
theorem dX10_go_23 : decode cX10_go 23 = .ok (.getfield 25, 3) := by decide +kernel
theorem dX10_go_26 : decode cX10_go 26 = .ok (.aload_n 0, 1) := by decide +kernel
theorem dX10_go_27 : decode cX10_go 27 = .ok (.getfield 84, 3) := by decide +kernel
theorem dX10_go_30 : decode cX10_go 30 = .ok (.iload_n 2, 1) := by decide +kernel
theorem dX10_go_31 : decode cX10_go 31 = .ok (.iaload, 1) := by decide +kernel
theorem dX10_go_32 : decode cX10_go 32 = .ok (.aload_n 0, 1) := by decide +kernel
theorem dX10_go_33 : decode cX10_go 33 = .ok (.getfield 66, 3) := by decide +kernel
theorem dX10_go_36 : decode cX10_go 36 = .ok (.aload_n 0, 1) := by decide +kernel
theorem dX10_go_37 : decode cX10_go 37 = .ok (.getfield 84, 3) := by decide +kernel
theorem dX10_go_40 : decode cX10_go 40 = .ok (.iload_n 2, 1) := by decide +kernel
theorem dX10_go_41 : decode cX10_go 41 = .ok (.iaload, 1) := by decide +kernel
theorem dX10_go_42 : decode cX10_go 42 = .ok (.iaload, 1) := by decide +kernel
theorem dX10_go_43 : decode cX10_go 43 = .ok (.iastore, 1) := by decide +kernel
theorem dX10_go_44 : decode cX10_go 44 = .ok (.iinc 2 1, 3) := by decide +kernel
theorem dX10_go_47 : decode cX10_go 47 = .ok (.goto (-30), 3) := by decide +kernel
theorem dX10_go_50 : decode cX10_go 50 = .ok (.aload_n 0, 1) := by decide +kernel
theorem dX10_go_51 : decode cX10_go 51 = .ok (.bipush (-9), 2) := by decide +kernel
theorem dX10_go_53 : decode cX10_go 53 = .ok (.putfield 97, 3) := by decide +kernel
theorem dX10_go_56 : decode cX10_go 56 = .ok (.iload_n 1, 1) := by decide +kernel
theorem dX10_go_57 : decode cX10_go 57 = .ok (.ireturn, 1) := by decide +kernel
theorem dX10_traced_0 : decode cX10_traced 0 = .ok (.aload_n 0, 1) := by decide +kernel
theorem dX10_traced_1 : decode cX10_traced 1 = .ok (.bipush 31, 2) := by decide +kernel
theorem dX10_traced_3 : decode cX10_traced 3 = .ok (.aload_n 0, 1) := by decide +kernel
theorem dX10_traced_4 : decode cX10_traced 4 = .ok (.getfield 255, 3) := by decide +kernel
theorem dX10_traced_7 : decode cX10_traced 7 = .ok (.imul, 1) := by decide +kernel
theorem dX10_traced_8 : decode cX10_traced 8 = .ok (.iload_n 1, 1) := by decide +kernel
theorem dX10_traced_9 : decode cX10_traced 9 = .ok (.iadd, 1) := by decide +kernel
theorem dX10_traced_10 : decode cX10_traced 10 = .ok (.putfield 255, 3) := by decide +kernel
theorem dX10_traced_13 : decode cX10_traced 13 = .ok (.return_, 1) := by decide +kernel
theorem dX10_tell_0 : decode cX10_tell 0 = .ok (.aload_n 0, 1) := by decide +kernel
theorem dX10_tell_1 : decode cX10_tell 1 = .ok (.iload_n 1, 1) := by decide +kernel
theorem dX10_tell_2 : decode cX10_tell 2 = .ok (.invokevirtual 124, 3) := by decide +kernel
theorem dX10_tell_5 : decode cX10_tell 5 = .ok (.ifCond .eq 5, 3) := by decide +kernel
theorem dX10_tell_8 : decode cX10_tell 8 = .ok (.iconst (-1), 1) := by decide +kernel
theorem dX10_tell_9 : decode cX10_tell 9 = .ok (.ireturn, 1) := by decide +kernel
theorem dX10_tell_10 : decode cX10_tell 10 = .ok (.aload_n 0, 1) := by decide +kernel
theorem dX10_tell_11 : decode cX10_tell 11 = .ok (.getfield 7, 3) := by decide +kernel
theorem dX10_tell_14 : decode cX10_tell 14 = .ok (.iload_n 1, 1) := by decide +kernel
theorem dX10_tell_15 : decode cX10_tell 15 = .ok (.iaload, 1) := by decide +kernel
theorem dX10_tell_16 : decode cX10_tell 16 = .ok (.istore_n 2, 1) := by decide +kernel
theorem dX10_tell_17 : decode cX10_tell 17 = .ok (.aload_n 0, 1) := by decide +kernel
theorem dX10_tell_18 : decode cX10_tell 18 = .ok (.iload_n 2, 1) := by decide +kernel
theorem dX10_tell_19 : decode cX10_tell 19 = .ok (.iconst 1, 1) := by decide +kernel
theorem dX10_tell_20 : decode cX10_tell 20 = .ok (.iadd, 1) := by decide +kernel
theorem dX10_tell_21 : decode cX10_tell 21 = .ok (.invokevirtual 258, 3) := by decide +kernel
theorem dX10_tell_24 : decode cX10_tell 24 = .ok (.iload_n 2, 1) := by decide +kernel
theorem dX10_tell_25 : decode cX10_tell 25 = .ok (.iconst 4, 1) := by decide +kernel
theorem dX10_tell_26 : decode cX10_tell 26 = .ok (.if_icmp .ne 8, 3) := by decide +kernel
theorem dX10_tell_29 : decode cX10_tell 29 = .ok (.aload_n 0, 1) := by decide +kernel
theorem dX10_tell_30 : decode cX10_tell 30 = .ok (.iconst 4, 1) := by decide +kernel
theorem dX10_tell_31 : decode cX10_tell 31 = .ok (.invokevirtual 258, 3) := by decide +kernel
theorem dX10_tell_34 : decode cX10_tell 34 = .ok (.iload_n 2, 1) := by decide +kernel
theorem dX10_tell_35 : decode cX10_tell 35 = .ok (.ifCond .ne 12, 3) := by decide +kernel
theorem dX10_tell_38 : decode cX10_tell 38 = .ok (.aload_n 0, 1) := by decide +kernel
theorem dX10_tell_39 : decode cX10_tell 39 = .ok (.getfield 13, 3) := by decide +kernel
theorem dX10_tell_42 : decode cX10_tell 42 = .ok (.iload_n 1, 1) := by decide +kernel
theorem dX10_tell_43 : decode cX10_tell 43 = .ok (.iaload, 1) := by decide +kernel
theorem dX10_tell_44 : decode cX10_tell 44 = .ok (.goto 60, 3) := by decide +kernel
theorem dX10_tell_47 : decode cX10_tell 47 = .ok (.iload_n 2, 1) := by decide +kernel
theorem dX10_tell_48 : decode cX10_tell 48 = .ok (.iconst 1, 1) := by decide +kernel
theorem dX10_tell_49 : decode cX10_tell 49 = .ok (.if_icmp .ne 12, 3) := by decide +kernel
theorem dX10_tell_52 : decode cX10_tell 52 = .ok (.aload_n 0, 1) := by decide +kernel
theorem dX10_tell_53 : decode cX10_tell 53 = .ok (.getfield 25, 3) := by decide +kernel
theorem dX10_tell_56 : decode cX10_tell 56 = .ok (.iload_n 1, 1) := by decide +kernel
theorem dX10_tell_57 : decode cX10_tell 57 = .ok (.iaload, 1) := by decide +kernel
theorem dX10_tell_58 : decode cX10_tell 58 = .ok (.goto 46, 3) := by decide +kernel
theorem dX10_tell_61 : decode cX10_tell 61 = .ok (.iload_n 2, 1) := by decide +kernel
theorem dX10_tell_62 : decode cX10_tell 62 = .ok (.iconst 2, 1) := by decide +kernel
theorem dX10_tell_63 : decode cX10_tell 63 = .ok (.if_icmp .ne 13, 3) := by decide +kernel
theorem dX10_tell_66 : decode cX10_tell 66 = .ok (.aload_n 0, 1) := by decide +kernel
theorem dX10_tell_67 : decode cX10_tell 67 = .ok (.getfield 25, 3) := by decide +kernel
theorem dX10_tell_70 : decode cX10_tell 70 = .ok (.iload_n 1, 1) := by decide +kernel
theorem dX10_tell_71 : decode cX10_tell 71 = .ok (.iaload, 1) := by decide +kernel
theorem dX10_tell_72 : decode cX10_tell 72 = .ok (.ineg, 1) := by decide +kernel
theorem dX10_tell_73 : decode cX10_tell 73 = .ok (.goto 31, 3) := by decide +kernel
theorem dX10_tell_76 : decode cX10_tell 76 = .ok (.iload_n 2, 1) := by decide +kernel
theorem dX10_tell_77 : decode cX10_tell 77 = .ok (.iconst 3, 1) := by decide +kernel
theorem dX10_tell_78 : decode cX10_tell 78 = .ok (.if_icmp .ne 15, 3) := by decide +kernel
theorem dX10_tell_81 : decode cX10_tell 81 = .ok (.bipush 100, 2) := by decide +kernel
theorem dX10_tell_83 : decode cX10_tell 83 = .ok (.aload_n 0, 1) := by decide +kernel
theorem dX10_tell_84 : decode cX10_tell 84 = .ok (.getfield 25, 3) := by decide +kernel
theorem dX10_tell_87 : decode cX10_tell 87 = .ok (.iload_n 1, 1) := by decide +kernel
theorem dX10_tell_88 : decode cX10_tell 88 = .ok (.iaload, 1) := by decide +kernel
theorem dX10_tell_89 : decode cX10_tell 89 = .ok (.iadd, 1) := by decide +kernel
theorem dX10_tell_90 : decode cX10_tell 90 = .ok (.goto 14, 3) := by decide +kernel
theorem dX10_tell_93 : decode cX10_tell 93 = .ok (.iconst 2, 1) := by decide +kernel
theorem dX10_tell_94 : decode cX10_tell 94 = .ok (.bipush 100, 2) := by decide +kernel
theorem dX10_tell_96 : decode cX10_tell 96 = .ok (.aload_n 0, 1) := by decide +kernel
theorem dX10_tell_97 : decode cX10_tell 97 = .ok (.getfield 25, 3) := by decide +kernel
theorem dX10_tell_100 : decode cX10_tell 100 = .ok (.iload_n 1, 1) := by decide +kernel
theorem dX10_tell_101 : decode cX10_tell 101 = .ok (.iaload, 1) := by decide +kernel
theorem dX10_tell_102 : decode cX10_tell 102 = .ok (.iadd, 1) := by decide +kernel
theorem dX10_tell_103 : decode cX10_tell 103 = .ok (.imul, 1) := by decide +kernel
theorem dX10_tell_104 : decode cX10_tell 104 = .ok (.ireturn, 1) := by decide +kernel
theorem dX10_spread_0 : decode cX10_spread 0 = .ok (.aload_n 0, 1) := by decide +kernel
theorem dX10_spread_1 : decode cX10_spread 1 = .ok (.iload_n 1, 1) := by decide +kernel
theorem dX10_spread_2 : decode cX10_spread 2 = .ok (.invokevirtual 124, 3) := by decide +kernel
theorem dX10_spread_5 : decode cX10_spread 5 = .ok (.ifCond .eq 5, 3) := by decide +kernel
theorem dX10_spread_8 : decode cX10_spread 8 = .ok (.iconst (-1), 1) := by decide +kernel
theorem dX10_spread_9 : decode cX10_spread 9 = .ok (.ireturn, 1) := by decide +kernel
theorem dX10_spread_10 : decode cX10_spread 10 = .ok (.aload_n 0, 1) := by decide +kernel
theorem dX10_spread_11 : decode cX10_spread 11 = .ok (.getfield 7, 3) := by decide +kernel
theorem dX10_spread_14 : decode cX10_spread 14 = .ok (.iload_n 1, 1) := by decide +kernel
theorem dX10_spread_15 : decode cX10_spread 15 = .ok (.iaload, 1) := by decide +kernel
theorem dX10_spread_16 : decode cX10_spread 16 = .ok (.iconst 4, 1) := by decide +kernel
theorem dX10_spread_17 : decode cX10_spread 17 = .ok (.if_icmp .ne 20, 3) := by decide +kernel
theorem dX10_spread_20 : decode cX10_spread 20 = .ok (.aload_n 0, 1) := by decide +kernel
theorem dX10_spread_21 : decode cX10_spread 21 = .ok (.bipush 7, 2) := by decide +kernel
theorem dX10_spread_23 : decode cX10_spread 23 = .ok (.invokevirtual 258, 3) := by decide +kernel
theorem dX10_spread_26 : decode cX10_spread 26 = .ok (.aload_n 0, 1) := by decide +kernel
theorem dX10_spread_27 : decode cX10_spread 27 = .ok (.getfield 28, 3) := by decide +kernel
theorem dX10_spread_30 : decode cX10_spread 30 = .ok (.iload_n 1, 1) := by decide +kernel
theorem dX10_spread_31 : decode cX10_spread 31 = .ok (.baload, 1) := by decide +kernel
theorem dX10_spread_32 : decode cX10_spread 32 = .ok (.ifCond .eq 5, 3) := by decide +kernel
theorem dX10_spread_35 : decode cX10_spread 35 = .ok (.iconst 0, 1) := by decide +kernel
theorem dX10_spread_36 : decode cX10_spread 36 = .ok (.ireturn, 1) := by decide +kernel
theorem dX10_spread_37 : decode cX10_spread 37 = .ok (.aload_n 0, 1) := by decide +kernel
theorem dX10_spread_38 : decode cX10_spread 38 = .ok (.bipush 6, 2) := by decide +kernel
theorem dX10_spread_40 : decode cX10_spread 40 = .ok (.invokevirtual 258, 3) := by decide +kernel
theorem dX10_spread_43 : decode cX10_spread 43 = .ok (.aload_n 0, 1) := by decide +kernel
theorem dX10_spread_44 : decode cX10_spread 44 = .ok (.getfield 22, 3) := by decide +kernel
theorem dX10_spread_47 : decode cX10_spread 47 = .ok (.iload_n 1, 1) := by decide +kernel
theorem dX10_spread_48 : decode cX10_spread 48 = .ok (.iaload, 1) := by decide +kernel
theorem dX10_spread_49 : decode cX10_spread 49 = .ok (.aload_n 0, 1) := by decide +kernel
theorem dX10_spread_50 : decode cX10_spread 50 = .ok (.getfield 19, 3) := by decide +kernel
theorem dX10_spread_53 : decode cX10_spread 53 = .ok (.iload_n 1, 1) := by decide +kernel
theorem dX10_spread_54 : decode cX10_spread 54 = .ok (.iaload, 1) := by decide +kernel
theorem dX10_spread_55 : decode cX10_spread 55 = .ok (.isub, 1) := by decide +kernel
theorem dX10_spread_56 : decode cX10_spread 56 = .ok (.iconst 1, 1) := by decide +kernel
theorem dX10_spread_57 : decode cX10_spread 57 = .ok (.iadd, 1) := by decide +kernel
theorem dX10_spread_58 : decode cX10_spread 58 = .ok (.ireturn, 1) := by decide +kernel
theorem dX10_as_0 : decode cX10_as 0 = .ok (.aload_n 0, 1) := by decide +kernel
theorem dX10_as_1 : decode cX10_as 1 = .ok (.iload_n 1, 1) := by decide +kernel
theorem dX10_as_2 : decode cX10_as 2 = .ok (.invokevirtual 124, 3) := by decide +kernel
theorem dX10_as_5 : decode cX10_as 5 = .ok (.ifCond .eq 9, 3) := by decide +kernel
theorem dX10_as_8 : decode cX10_as 8 = .ok (.aload_n 0, 1) := by decide +kernel
theorem dX10_as_9 : decode cX10_as 9 = .ok (.iconst (-1), 1) := by decide +kernel
theorem dX10_as_10 : decode cX10_as 10 = .ok (.invokevirtual 219, 3) := by decide +kernel
theorem dX10_as_13 : decode cX10_as 13 = .ok (.ireturn, 1) := by decide +kernel
theorem dX10_as_14 : decode cX10_as 14 = .ok (.iload_n 2, 1) := by decide +kernel
theorem dX10_as_15 : decode cX10_as 15 = .ok (.i2l, 1) := by decide +kernel
theorem dX10_as_16 : decode cX10_as 16 = .ok (.lconst 0, 1) := by decide +kernel
theorem dX10_as_17 : decode cX10_as 17 = .ok (.ldc2_w 261, 3) := by decide +kernel
theorem dX10_as_20 : decode cX10_as 20 = .ok (.invokestatic 112, 3) := by decide +kernel
theorem dX10_as_23 : decode cX10_as 23 = .ok (.ifCond .ne 10, 3) := by decide +kernel
theorem dX10_as_26 : decode cX10_as 26 = .ok (.aload_n 0, 1) := by decide +kernel
theorem dX10_as_27 : decode cX10_as 27 = .ok (.bipush (-2), 2) := by decide +kernel
theorem dX10_as_29 : decode cX10_as 29 = .ok (.invokevirtual 219, 3) := by decide +kernel
theorem dX10_as_32 : decode cX10_as 32 = .ok (.ireturn, 1) := by decide +kernel
theorem dX10_as_33 : decode cX10_as 33 = .ok (.aload_n 0, 1) := by decide +kernel
theorem dX10_as_34 : decode cX10_as 34 = .ok (.getfield 7, 3) := by decide +kernel
theorem dX10_as_37 : decode cX10_as 37 = .ok (.iload_n 1, 1) := by decide +kernel
theorem dX10_as_38 : decode cX10_as 38 = .ok (.iaload, 1) := by decide +kernel
theorem dX10_as_39 : decode cX10_as 39 = .ok (.iload_n 2, 1) := by decide +kernel
theorem dX10_as_40 : decode cX10_as 40 = .ok (.if_icmp .eq 18, 3) := by decide +kernel
theorem dX10_as_43 : decode cX10_as 43 = .ok (.aload_n 0, 1) := by decide +kernel
theorem dX10_as_44 : decode cX10_as 44 = .ok (.getfield 7, 3) := by decide +kernel
theorem dX10_as_47 : decode cX10_as 47 = .ok (.iload_n 1, 1) := by decide +kernel
theorem dX10_as_48 : decode cX10_as 48 = .ok (.iaload, 1) := by decide +kernel
theorem dX10_as_49 : decode cX10_as 49 = .ok (.iconst 4, 1) := by decide +kernel
theorem dX10_as_50 : decode cX10_as 50 = .ok (.if_icmp .ne 16, 3) := by decide +kernel
theorem dX10_as_53 : decode cX10_as 53 = .ok (.iload_n 2, 1) := by decide +kernel
theorem dX10_as_54 : decode cX10_as 54 = .ok (.iconst 3, 1) := by decide +kernel
theorem dX10_as_55 : decode cX10_as 55 = .ok (.if_icmp .ne 11, 3) := by decide +kernel
theorem dX10_as_58 : decode cX10_as 58 = .ok (.aload_n 0, 1) := by decide +kernel
theorem dX10_as_59 : decode cX10_as 59 = .ok (.iconst 1, 1) := by decide +kernel
theorem dX10_as_60 : decode cX10_as 60 = .ok (.invokevirtual 219, 3) := by decide +kernel
theorem dX10_as_63 : decode cX10_as 63 = .ok (.goto 8, 3) := by decide +kernel
theorem dX10_as_66 : decode cX10_as 66 = .ok (.aload_n 0, 1) := by decide +kernel
theorem dX10_as_67 : decode cX10_as 67 = .ok (.iconst 2, 1) := by decide +kernel
theorem dX10_as_68 : decode cX10_as 68 = .ok (.invokevirtual 222, 3) := by decide +kernel
theorem dX10_as_71 : decode cX10_as 71 = .ok (.ireturn, 1) := by decide +kernel
theorem dX10_trace_0 : decode cX10_trace 0 = .ok (.aload_n 0, 1) := by decide +kernel
theorem dX10_trace_1 : decode cX10_trace 1 = .ok (.getfield 255, 3) := by decide +kernel
theorem dX10_trace_4 : decode cX10_trace 4 = .ok (.ireturn, 1) := by decide +kernel
theorem dX10_fault_0 : decode cX10_fault 0 = .ok (.aload_n 0, 1) := by decide +kernel
theorem dX10_fault_1 : decode cX10_fault 1 = .ok (.getfield 102, 3) := by decide +kernel
theorem dX10_fault_4 : decode cX10_fault 4 = .ok (.ireturn, 1) := by decide +kernel
theorem dX10_told_0 : decode cX10_told 0 = .ok (.iconst 0, 1) := by decide +kernel
theorem dX10_told_1 : decode cX10_told 1 = .ok (.istore_n 2, 1) := by decide +kernel
theorem dX10_told_2 : decode cX10_told 2 = .ok (.iload_n 1, 1) := by decide +kernel
theorem dX10_told_3 : decode cX10_told 3 = .ok (.tableswitch 118 0 5 #[37, 42, 47, 91, 96, 113], 37) := by decide +kernel
theorem dX10_told_40 : decode cX10_told 40 = .ok (.aload_n 0, 1) := by decide +kernel
theorem dX10_told_41 : decode cX10_told 41 = .ok (.getfield 109, 3) := by decide +kernel
theorem dX10_told_44 : decode cX10_told 44 = .ok (.ireturn, 1) := by decide +kernel
theorem dX10_told_45 : decode cX10_told 45 = .ok (.aload_n 0, 1) := by decide +kernel
theorem dX10_told_46 : decode cX10_told 46 = .ok (.getfield 164, 3) := by decide +kernel
theorem dX10_told_49 : decode cX10_told 49 = .ok (.ireturn, 1) := by decide +kernel
theorem dX10_told_50 : decode cX10_told 50 = .ok (.aload_n 0, 1) := by decide +kernel
theorem dX10_told_51 : decode cX10_told 51 = .ok (.invokevirtual 154, 3) := by decide +kernel
theorem dX10_told_54 : decode cX10_told 54 = .ok (.iconst 0, 1) := by decide +kernel
theorem dX10_told_55 : decode cX10_told 55 = .ok (.istore_n 3, 1) := by decide +kernel
theorem dX10_told_56 : decode cX10_told 56 = .ok (.iload_n 3, 1) := by decide +kernel
theorem dX10_told_57 : decode cX10_told 57 = .ok (.aload_n 0, 1) := by decide +kernel
theorem dX10_told_58 : decode cX10_told 58 = .ok (.getfield 164, 3) := by decide +kernel
theorem dX10_told_61 : decode cX10_told 61 = .ok (.if_icmp .ge 31, 3) := by decide +kernel
theorem dX10_told_64 : decode cX10_told 64 = .ok (.iload_n 2, 1) := by decide +kernel
theorem dX10_told_65 : decode cX10_told 65 = .ok (.aload_n 0, 1) := by decide +kernel
theorem dX10_told_66 : decode cX10_told 66 = .ok (.iload_n 3, 1) := by decide +kernel
theorem dX10_told_67 : decode cX10_told 67 = .ok (.invokevirtual 184, 3) := by decide +kernel
theorem dX10_told_70 : decode cX10_told 70 = .ok (.aload_n 0, 1) := by decide +kernel
theorem dX10_told_71 : decode cX10_told 71 = .ok (.getfield 63, 3) := by decide +kernel
theorem dX10_told_74 : decode cX10_told 74 = .ok (.iload_n 3, 1) := by decide +kernel
theorem dX10_told_75 : decode cX10_told 75 = .ok (.iaload, 1) := by decide +kernel
theorem dX10_told_76 : decode cX10_told 76 = .ok (.if_icmp .gt 7, 3) := by decide +kernel
theorem dX10_told_79 : decode cX10_told 79 = .ok (.iconst 1, 1) := by decide +kernel
theorem dX10_told_80 : decode cX10_told 80 = .ok (.goto 4, 3) := by decide +kernel
theorem dX10_told_83 : decode cX10_told 83 = .ok (.iconst 0, 1) := by decide +kernel
theorem dX10_told_84 : decode cX10_told 84 = .ok (.iadd, 1) := by decide +kernel
theorem dX10_told_85 : decode cX10_told 85 = .ok (.istore_n 2, 1) := by decide +kernel
theorem dX10_told_86 : decode cX10_told 86 = .ok (.iinc 3 1, 3) := by decide +kernel
theorem dX10_told_89 : decode cX10_told 89 = .ok (.goto (-33), 3) := by decide +kernel
theorem dX10_told_92 : decode cX10_told 92 = .ok (.iload_n 2, 1) := by decide +kernel
theorem dX10_told_93 : decode cX10_told 93 = .ok (.ireturn, 1) := by decide +kernel
theorem dX10_told_94 : decode cX10_told 94 = .ok (.aload_n 0, 1) := by decide +kernel
theorem dX10_told_95 : decode cX10_told 95 = .ok (.invokevirtual 201, 3) := by decide +kernel
theorem dX10_told_98 : decode cX10_told 98 = .ok (.ireturn, 1) := by decide +kernel
theorem dX10_told_99 : decode cX10_told 99 = .ok (.aload_n 0, 1) := by decide +kernel
theorem dX10_told_100 : decode cX10_told 100 = .ok (.getfield 93, 3) := by decide +kernel
theorem dX10_told_103 : decode cX10_told 103 = .ok (.ifCond .ge 8, 3) := by decide +kernel
theorem dX10_told_106 : decode cX10_told 106 = .ok (.bipush (-9), 2) := by decide +kernel
theorem dX10_told_108 : decode cX10_told 108 = .ok (.goto 7, 3) := by decide +kernel
theorem dX10_told_111 : decode cX10_told 111 = .ok (.aload_n 0, 1) := by decide +kernel
theorem dX10_told_112 : decode cX10_told 112 = .ok (.invokevirtual 249, 3) := by decide +kernel
theorem dX10_told_115 : decode cX10_told 115 = .ok (.ireturn, 1) := by decide +kernel
theorem dX10_told_116 : decode cX10_told 116 = .ok (.aload_n 0, 1) := by decide +kernel
theorem dX10_told_117 : decode cX10_told 117 = .ok (.getfield 97, 3) := by decide +kernel
theorem dX10_told_120 : decode cX10_told 120 = .ok (.ireturn, 1) := by decide +kernel
theorem dX10_told_121 : decode cX10_told 121 = .ok (.bipush (-2), 2) := by decide +kernel
theorem dX10_told_123 : decode cX10_told 123 = .ok (.ireturn, 1) := by decide +kernel
theorem dJ9_abs_067f4_0 : decode cJ9_abs_067f4 0 = .ok (.lload_n 0, 1) := by decide +kernel
theorem dJ9_abs_067f4_1 : decode cJ9_abs_067f4 1 = .ok (.lconst 0, 1) := by decide +kernel
theorem dJ9_abs_067f4_2 : decode cJ9_abs_067f4 2 = .ok (.lcmp, 1) := by decide +kernel
theorem dJ9_abs_067f4_3 : decode cJ9_abs_067f4 3 = .ok (.ifCond .ge 8, 3) := by decide +kernel
theorem dJ9_abs_067f4_6 : decode cJ9_abs_067f4 6 = .ok (.lload_n 0, 1) := by decide +kernel
theorem dJ9_abs_067f4_7 : decode cJ9_abs_067f4 7 = .ok (.lneg, 1) := by decide +kernel
theorem dJ9_abs_067f4_8 : decode cJ9_abs_067f4 8 = .ok (.goto 4, 3) := by decide +kernel
theorem dJ9_abs_067f4_11 : decode cJ9_abs_067f4 11 = .ok (.lload_n 0, 1) := by decide +kernel
theorem dJ9_abs_067f4_12 : decode cJ9_abs_067f4 12 = .ok (.lreturn, 1) := by decide +kernel
theorem dJ9_max_7cf53_0 : decode cJ9_max_7cf53 0 = .ok (.iload_n 0, 1) := by decide +kernel
theorem dJ9_max_7cf53_1 : decode cJ9_max_7cf53 1 = .ok (.iload_n 1, 1) := by decide +kernel
theorem dJ9_max_7cf53_2 : decode cJ9_max_7cf53 2 = .ok (.if_icmp .lt 7, 3) := by decide +kernel
theorem dJ9_max_7cf53_5 : decode cJ9_max_7cf53 5 = .ok (.iload_n 0, 1) := by decide +kernel
theorem dJ9_max_7cf53_6 : decode cJ9_max_7cf53 6 = .ok (.goto 4, 3) := by decide +kernel
theorem dJ9_max_7cf53_9 : decode cJ9_max_7cf53 9 = .ok (.iload_n 1, 1) := by decide +kernel
theorem dJ9_max_7cf53_10 : decode cJ9_max_7cf53 10 = .ok (.ireturn, 1) := by decide +kernel
theorem dJ9_min_7cf53_0 : decode cJ9_min_7cf53 0 = .ok (.iload_n 0, 1) := by decide +kernel
theorem dJ9_min_7cf53_1 : decode cJ9_min_7cf53 1 = .ok (.iload_n 1, 1) := by decide +kernel
theorem dJ9_min_7cf53_2 : decode cJ9_min_7cf53 2 = .ok (.if_icmp .gt 7, 3) := by decide +kernel
theorem dJ9_min_7cf53_5 : decode cJ9_min_7cf53 5 = .ok (.iload_n 0, 1) := by decide +kernel
theorem dJ9_min_7cf53_6 : decode cJ9_min_7cf53 6 = .ok (.goto 4, 3) := by decide +kernel
theorem dJ9_min_7cf53_9 : decode cJ9_min_7cf53 9 = .ok (.iload_n 1, 1) := by decide +kernel
theorem dJ9_min_7cf53_10 : decode cJ9_min_7cf53 10 = .ok (.ireturn, 1) := by decide +kernel
theorem dJ9_min_f86c9_0 : decode cJ9_min_f86c9 0 = .ok (.lload_n 0, 1) := by decide +kernel
theorem dJ9_min_f86c9_1 : decode cJ9_min_f86c9 1 = .ok (.lload_n 2, 1) := by decide +kernel
theorem dJ9_min_f86c9_2 : decode cJ9_min_f86c9 2 = .ok (.lcmp, 1) := by decide +kernel
theorem dJ9_min_f86c9_3 : decode cJ9_min_f86c9 3 = .ok (.ifCond .gt 7, 3) := by decide +kernel
theorem dJ9_min_f86c9_6 : decode cJ9_min_f86c9 6 = .ok (.lload_n 0, 1) := by decide +kernel
theorem dJ9_min_f86c9_7 : decode cJ9_min_f86c9 7 = .ok (.goto 4, 3) := by decide +kernel
theorem dJ9_min_f86c9_10 : decode cJ9_min_f86c9 10 = .ok (.lload_n 2, 1) := by decide +kernel
theorem dJ9_min_f86c9_11 : decode cJ9_min_f86c9 11 = .ok (.lreturn, 1) := by decide +kernel
theorem dL_law_0 : decode cL_law 0 = .ok (.new 7, 3) := by decide +kernel
theorem dL_law_3 : decode cL_law 3 = .ok (.dup, 1) := by decide +kernel
theorem dL_law_4 : decode cL_law 4 = .ok (.invokespecial 9, 3) := by decide +kernel
theorem dL_law_7 : decode cL_law 7 = .ok (.astore_n 1, 1) := by decide +kernel
theorem dL_law_8 : decode cL_law 8 = .ok (.new 10, 3) := by decide +kernel
theorem dL_law_11 : decode cL_law 11 = .ok (.dup, 1) := by decide +kernel
theorem dL_law_12 : decode cL_law 12 = .ok (.invokespecial 12, 3) := by decide +kernel
theorem dL_law_15 : decode cL_law 15 = .ok (.astore_n 2, 1) := by decide +kernel
theorem dL_law_16 : decode cL_law 16 = .ok (.iconst 0, 1) := by decide +kernel
theorem dL_law_17 : decode cL_law 17 = .ok (.istore_n 3, 1) := by decide +kernel
theorem dL_law_18 : decode cL_law 18 = .ok (.iload_n 3, 1) := by decide +kernel
theorem dL_law_19 : decode cL_law 19 = .ok (.aload_n 0, 1) := by decide +kernel
theorem dL_law_20 : decode cL_law 20 = .ok (.arraylength, 1) := by decide +kernel
theorem dL_law_21 : decode cL_law 21 = .ok (.bipush 6, 2) := by decide +kernel
theorem dL_law_23 : decode cL_law 23 = .ok (.isub, 1) := by decide +kernel
theorem dL_law_24 : decode cL_law 24 = .ok (.if_icmp .gt 1207, 3) := by decide +kernel
theorem dL_law_27 : decode cL_law 27 = .ok (.aload_n 0, 1) := by decide +kernel
theorem dL_law_28 : decode cL_law 28 = .ok (.iload_n 3, 1) := by decide +kernel
theorem dL_law_29 : decode cL_law 29 = .ok (.iaload, 1) := by decide +kernel
theorem dL_law_30 : decode cL_law 30 = .ok (.bipush 63, 2) := by decide +kernel
theorem dL_law_32 : decode cL_law 32 = .ok (.iand, 1) := by decide +kernel
theorem dL_law_33 : decode cL_law 33 = .ok (.tableswitch 1192 0 33 #[151, 174, 227, 260, 283, 326, 359, 408, 442, 475, 488, 502, 565, 618, 641, 674, 697, 720, 743, 786, 799, 812, 835, 848, 891, 914, 957, 1001, 1064, 1087, 1110, 1143, 1156, 1169], 151) := by decide +kernel
theorem dL_law_184 : decode cL_law 184 = .ok (.aload_n 1, 1) := by decide +kernel
theorem dL_law_185 : decode cL_law 185 = .ok (.aload_n 0, 1) := by decide +kernel
theorem dL_law_186 : decode cL_law 186 = .ok (.iload_n 3, 1) := by decide +kernel
theorem dL_law_187 : decode cL_law 187 = .ok (.iconst 1, 1) := by decide +kernel
theorem dL_law_188 : decode cL_law 188 = .ok (.iadd, 1) := by decide +kernel
theorem dL_law_189 : decode cL_law 189 = .ok (.iaload, 1) := by decide +kernel
theorem dL_law_190 : decode cL_law 190 = .ok (.invokevirtual 13, 3) := by decide +kernel
theorem dL_law_193 : decode cL_law 193 = .ok (.aload_n 2, 1) := by decide +kernel
theorem dL_law_194 : decode cL_law 194 = .ok (.aload_n 0, 1) := by decide +kernel
theorem dL_law_195 : decode cL_law 195 = .ok (.iload_n 3, 1) := by decide +kernel
theorem dL_law_196 : decode cL_law 196 = .ok (.iconst 1, 1) := by decide +kernel
theorem dL_law_197 : decode cL_law 197 = .ok (.iadd, 1) := by decide +kernel
theorem dL_law_198 : decode cL_law 198 = .ok (.iaload, 1) := by decide +kernel
theorem dL_law_199 : decode cL_law 199 = .ok (.invokevirtual 17, 3) := by decide +kernel
theorem dL_law_202 : decode cL_law 202 = .ok (.if_icmp .eq 1023, 3) := by decide +kernel
theorem dL_law_205 : decode cL_law 205 = .ok (.iconst 0, 1) := by decide +kernel
theorem dL_law_206 : decode cL_law 206 = .ok (.ireturn, 1) := by decide +kernel
theorem dL_law_207 : decode cL_law 207 = .ok (.aload_n 1, 1) := by decide +kernel
theorem dL_law_208 : decode cL_law 208 = .ok (.aload_n 0, 1) := by decide +kernel
theorem dL_law_209 : decode cL_law 209 = .ok (.iload_n 3, 1) := by decide +kernel
theorem dL_law_210 : decode cL_law 210 = .ok (.iconst 1, 1) := by decide +kernel
theorem dL_law_211 : decode cL_law 211 = .ok (.iadd, 1) := by decide +kernel
theorem dL_law_212 : decode cL_law 212 = .ok (.iaload, 1) := by decide +kernel
theorem dL_law_213 : decode cL_law 213 = .ok (.aload_n 0, 1) := by decide +kernel
theorem dL_law_214 : decode cL_law 214 = .ok (.iload_n 3, 1) := by decide +kernel
theorem dL_law_215 : decode cL_law 215 = .ok (.iconst 2, 1) := by decide +kernel
theorem dL_law_216 : decode cL_law 216 = .ok (.iadd, 1) := by decide +kernel
theorem dL_law_217 : decode cL_law 217 = .ok (.iaload, 1) := by decide +kernel
theorem dL_law_218 : decode cL_law 218 = .ok (.aload_n 0, 1) := by decide +kernel
theorem dL_law_219 : decode cL_law 219 = .ok (.iload_n 3, 1) := by decide +kernel
theorem dL_law_220 : decode cL_law 220 = .ok (.iconst 3, 1) := by decide +kernel
theorem dL_law_221 : decode cL_law 221 = .ok (.iadd, 1) := by decide +kernel
theorem dL_law_222 : decode cL_law 222 = .ok (.iaload, 1) := by decide +kernel
theorem dL_law_223 : decode cL_law 223 = .ok (.aload_n 0, 1) := by decide +kernel
theorem dL_law_224 : decode cL_law 224 = .ok (.iload_n 3, 1) := by decide +kernel
theorem dL_law_225 : decode cL_law 225 = .ok (.iconst 4, 1) := by decide +kernel
theorem dL_law_226 : decode cL_law 226 = .ok (.iadd, 1) := by decide +kernel
theorem dL_law_227 : decode cL_law 227 = .ok (.iaload, 1) := by decide +kernel
theorem dL_law_228 : decode cL_law 228 = .ok (.invokevirtual 18, 3) := by decide +kernel
theorem dL_law_231 : decode cL_law 231 = .ok (.aload_n 2, 1) := by decide +kernel
theorem dL_law_232 : decode cL_law 232 = .ok (.aload_n 0, 1) := by decide +kernel
theorem dL_law_233 : decode cL_law 233 = .ok (.iload_n 3, 1) := by decide +kernel
theorem dL_law_234 : decode cL_law 234 = .ok (.iconst 1, 1) := by decide +kernel
theorem dL_law_235 : decode cL_law 235 = .ok (.iadd, 1) := by decide +kernel
theorem dL_law_236 : decode cL_law 236 = .ok (.iaload, 1) := by decide +kernel
theorem dL_law_237 : decode cL_law 237 = .ok (.aload_n 0, 1) := by decide +kernel
theorem dL_law_238 : decode cL_law 238 = .ok (.iload_n 3, 1) := by decide +kernel
theorem dL_law_239 : decode cL_law 239 = .ok (.iconst 2, 1) := by decide +kernel
theorem dL_law_240 : decode cL_law 240 = .ok (.iadd, 1) := by decide +kernel
theorem dL_law_241 : decode cL_law 241 = .ok (.iaload, 1) := by decide +kernel
theorem dL_law_242 : decode cL_law 242 = .ok (.aload_n 0, 1) := by decide +kernel
theorem dL_law_243 : decode cL_law 243 = .ok (.iload_n 3, 1) := by decide +kernel
theorem dL_law_244 : decode cL_law 244 = .ok (.iconst 3, 1) := by decide +kernel
theorem dL_law_245 : decode cL_law 245 = .ok (.iadd, 1) := by decide +kernel
theorem dL_law_246 : decode cL_law 246 = .ok (.iaload, 1) := by decide +kernel
theorem dL_law_247 : decode cL_law 247 = .ok (.aload_n 0, 1) := by decide +kernel
theorem dL_law_248 : decode cL_law 248 = .ok (.iload_n 3, 1) := by decide +kernel
theorem dL_law_249 : decode cL_law 249 = .ok (.iconst 4, 1) := by decide +kernel
theorem dL_law_250 : decode cL_law 250 = .ok (.iadd, 1) := by decide +kernel
theorem dL_law_251 : decode cL_law 251 = .ok (.iaload, 1) := by decide +kernel
theorem dL_law_252 : decode cL_law 252 = .ok (.invokevirtual 22, 3) := by decide +kernel
theorem dL_law_255 : decode cL_law 255 = .ok (.if_icmp .eq 970, 3) := by decide +kernel
theorem dL_law_258 : decode cL_law 258 = .ok (.iconst 0, 1) := by decide +kernel
theorem dL_law_259 : decode cL_law 259 = .ok (.ireturn, 1) := by decide +kernel
theorem dL_law_260 : decode cL_law 260 = .ok (.aload_n 1, 1) := by decide +kernel
theorem dL_law_261 : decode cL_law 261 = .ok (.aload_n 0, 1) := by decide +kernel
theorem dL_law_262 : decode cL_law 262 = .ok (.iload_n 3, 1) := by decide +kernel
theorem dL_law_263 : decode cL_law 263 = .ok (.iconst 1, 1) := by decide +kernel
theorem dL_law_264 : decode cL_law 264 = .ok (.iadd, 1) := by decide +kernel
theorem dL_law_265 : decode cL_law 265 = .ok (.iaload, 1) := by decide +kernel
theorem dL_law_266 : decode cL_law 266 = .ok (.aload_n 0, 1) := by decide +kernel
theorem dL_law_267 : decode cL_law 267 = .ok (.iload_n 3, 1) := by decide +kernel
theorem dL_law_268 : decode cL_law 268 = .ok (.iconst 2, 1) := by decide +kernel
theorem dL_law_269 : decode cL_law 269 = .ok (.iadd, 1) := by decide +kernel
theorem dL_law_270 : decode cL_law 270 = .ok (.iaload, 1) := by decide +kernel
theorem dL_law_271 : decode cL_law 271 = .ok (.invokevirtual 23, 3) := by decide +kernel
theorem dL_law_274 : decode cL_law 274 = .ok (.aload_n 2, 1) := by decide +kernel
theorem dL_law_275 : decode cL_law 275 = .ok (.aload_n 0, 1) := by decide +kernel
theorem dL_law_276 : decode cL_law 276 = .ok (.iload_n 3, 1) := by decide +kernel
theorem dL_law_277 : decode cL_law 277 = .ok (.iconst 1, 1) := by decide +kernel
theorem dL_law_278 : decode cL_law 278 = .ok (.iadd, 1) := by decide +kernel
theorem dL_law_279 : decode cL_law 279 = .ok (.iaload, 1) := by decide +kernel
theorem dL_law_280 : decode cL_law 280 = .ok (.aload_n 0, 1) := by decide +kernel
theorem dL_law_281 : decode cL_law 281 = .ok (.iload_n 3, 1) := by decide +kernel
theorem dL_law_282 : decode cL_law 282 = .ok (.iconst 2, 1) := by decide +kernel
theorem dL_law_283 : decode cL_law 283 = .ok (.iadd, 1) := by decide +kernel
theorem dL_law_284 : decode cL_law 284 = .ok (.iaload, 1) := by decide +kernel
theorem dL_law_285 : decode cL_law 285 = .ok (.invokevirtual 27, 3) := by decide +kernel
theorem dL_law_288 : decode cL_law 288 = .ok (.if_icmp .eq 937, 3) := by decide +kernel
theorem dL_law_291 : decode cL_law 291 = .ok (.iconst 0, 1) := by decide +kernel
theorem dL_law_292 : decode cL_law 292 = .ok (.ireturn, 1) := by decide +kernel
theorem dL_law_293 : decode cL_law 293 = .ok (.aload_n 1, 1) := by decide +kernel
theorem dL_law_294 : decode cL_law 294 = .ok (.aload_n 0, 1) := by decide +kernel
theorem dL_law_295 : decode cL_law 295 = .ok (.iload_n 3, 1) := by decide +kernel
theorem dL_law_296 : decode cL_law 296 = .ok (.iconst 1, 1) := by decide +kernel
theorem dL_law_297 : decode cL_law 297 = .ok (.iadd, 1) := by decide +kernel
theorem dL_law_298 : decode cL_law 298 = .ok (.iaload, 1) := by decide +kernel
theorem dL_law_299 : decode cL_law 299 = .ok (.invokevirtual 28, 3) := by decide +kernel
theorem dL_law_302 : decode cL_law 302 = .ok (.aload_n 2, 1) := by decide +kernel
theorem dL_law_303 : decode cL_law 303 = .ok (.aload_n 0, 1) := by decide +kernel
theorem dL_law_304 : decode cL_law 304 = .ok (.iload_n 3, 1) := by decide +kernel
theorem dL_law_305 : decode cL_law 305 = .ok (.iconst 1, 1) := by decide +kernel
theorem dL_law_306 : decode cL_law 306 = .ok (.iadd, 1) := by decide +kernel
theorem dL_law_307 : decode cL_law 307 = .ok (.iaload, 1) := by decide +kernel
theorem dL_law_308 : decode cL_law 308 = .ok (.invokevirtual 31, 3) := by decide +kernel
theorem dL_law_311 : decode cL_law 311 = .ok (.if_icmp .eq 914, 3) := by decide +kernel
theorem dL_law_314 : decode cL_law 314 = .ok (.iconst 0, 1) := by decide +kernel
theorem dL_law_315 : decode cL_law 315 = .ok (.ireturn, 1) := by decide +kernel
theorem dL_law_316 : decode cL_law 316 = .ok (.aload_n 1, 1) := by decide +kernel
theorem dL_law_317 : decode cL_law 317 = .ok (.aload_n 0, 1) := by decide +kernel
theorem dL_law_318 : decode cL_law 318 = .ok (.iload_n 3, 1) := by decide +kernel
theorem dL_law_319 : decode cL_law 319 = .ok (.iconst 1, 1) := by decide +kernel
theorem dL_law_320 : decode cL_law 320 = .ok (.iadd, 1) := by decide +kernel
theorem dL_law_321 : decode cL_law 321 = .ok (.iaload, 1) := by decide +kernel
theorem dL_law_322 : decode cL_law 322 = .ok (.aload_n 0, 1) := by decide +kernel
theorem dL_law_323 : decode cL_law 323 = .ok (.iload_n 3, 1) := by decide +kernel
theorem dL_law_324 : decode cL_law 324 = .ok (.iconst 2, 1) := by decide +kernel
theorem dL_law_325 : decode cL_law 325 = .ok (.iadd, 1) := by decide +kernel
theorem dL_law_326 : decode cL_law 326 = .ok (.iaload, 1) := by decide +kernel
theorem dL_law_327 : decode cL_law 327 = .ok (.aload_n 0, 1) := by decide +kernel
theorem dL_law_328 : decode cL_law 328 = .ok (.iload_n 3, 1) := by decide +kernel
theorem dL_law_329 : decode cL_law 329 = .ok (.iconst 3, 1) := by decide +kernel
theorem dL_law_330 : decode cL_law 330 = .ok (.iadd, 1) := by decide +kernel
theorem dL_law_331 : decode cL_law 331 = .ok (.iaload, 1) := by decide +kernel
theorem dL_law_332 : decode cL_law 332 = .ok (.invokevirtual 32, 3) := by decide +kernel
theorem dL_law_335 : decode cL_law 335 = .ok (.aload_n 2, 1) := by decide +kernel
theorem dL_law_336 : decode cL_law 336 = .ok (.aload_n 0, 1) := by decide +kernel
theorem dL_law_337 : decode cL_law 337 = .ok (.iload_n 3, 1) := by decide +kernel
theorem dL_law_338 : decode cL_law 338 = .ok (.iconst 1, 1) := by decide +kernel
theorem dL_law_339 : decode cL_law 339 = .ok (.iadd, 1) := by decide +kernel
theorem dL_law_340 : decode cL_law 340 = .ok (.iaload, 1) := by decide +kernel
theorem dL_law_341 : decode cL_law 341 = .ok (.aload_n 0, 1) := by decide +kernel
theorem dL_law_342 : decode cL_law 342 = .ok (.iload_n 3, 1) := by decide +kernel
theorem dL_law_343 : decode cL_law 343 = .ok (.iconst 2, 1) := by decide +kernel
theorem dL_law_344 : decode cL_law 344 = .ok (.iadd, 1) := by decide +kernel
theorem dL_law_345 : decode cL_law 345 = .ok (.iaload, 1) := by decide +kernel
theorem dL_law_346 : decode cL_law 346 = .ok (.aload_n 0, 1) := by decide +kernel
theorem dL_law_347 : decode cL_law 347 = .ok (.iload_n 3, 1) := by decide +kernel
theorem dL_law_348 : decode cL_law 348 = .ok (.iconst 3, 1) := by decide +kernel
theorem dL_law_349 : decode cL_law 349 = .ok (.iadd, 1) := by decide +kernel
theorem dL_law_350 : decode cL_law 350 = .ok (.iaload, 1) := by decide +kernel
theorem dL_law_351 : decode cL_law 351 = .ok (.invokevirtual 36, 3) := by decide +kernel
theorem dL_law_354 : decode cL_law 354 = .ok (.if_icmp .eq 871, 3) := by decide +kernel
theorem dL_law_357 : decode cL_law 357 = .ok (.iconst 0, 1) := by decide +kernel
theorem dL_law_358 : decode cL_law 358 = .ok (.ireturn, 1) := by decide +kernel
theorem dL_law_359 : decode cL_law 359 = .ok (.aload_n 1, 1) := by decide +kernel
theorem dL_law_360 : decode cL_law 360 = .ok (.aload_n 0, 1) := by decide +kernel
theorem dL_law_361 : decode cL_law 361 = .ok (.iload_n 3, 1) := by decide +kernel
theorem dL_law_362 : decode cL_law 362 = .ok (.iconst 1, 1) := by decide +kernel
theorem dL_law_363 : decode cL_law 363 = .ok (.iadd, 1) := by decide +kernel
theorem dL_law_364 : decode cL_law 364 = .ok (.iaload, 1) := by decide +kernel
theorem dL_law_365 : decode cL_law 365 = .ok (.aload_n 0, 1) := by decide +kernel
theorem dL_law_366 : decode cL_law 366 = .ok (.iload_n 3, 1) := by decide +kernel
theorem dL_law_367 : decode cL_law 367 = .ok (.iconst 2, 1) := by decide +kernel
theorem dL_law_368 : decode cL_law 368 = .ok (.iadd, 1) := by decide +kernel
theorem dL_law_369 : decode cL_law 369 = .ok (.iaload, 1) := by decide +kernel
theorem dL_law_370 : decode cL_law 370 = .ok (.invokevirtual 37, 3) := by decide +kernel
theorem dL_law_373 : decode cL_law 373 = .ok (.aload_n 2, 1) := by decide +kernel
theorem dL_law_374 : decode cL_law 374 = .ok (.aload_n 0, 1) := by decide +kernel
theorem dL_law_375 : decode cL_law 375 = .ok (.iload_n 3, 1) := by decide +kernel
theorem dL_law_376 : decode cL_law 376 = .ok (.iconst 1, 1) := by decide +kernel
theorem dL_law_377 : decode cL_law 377 = .ok (.iadd, 1) := by decide +kernel
theorem dL_law_378 : decode cL_law 378 = .ok (.iaload, 1) := by decide +kernel
theorem dL_law_379 : decode cL_law 379 = .ok (.aload_n 0, 1) := by decide +kernel
theorem dL_law_380 : decode cL_law 380 = .ok (.iload_n 3, 1) := by decide +kernel
theorem dL_law_381 : decode cL_law 381 = .ok (.iconst 2, 1) := by decide +kernel
theorem dL_law_382 : decode cL_law 382 = .ok (.iadd, 1) := by decide +kernel
theorem dL_law_383 : decode cL_law 383 = .ok (.iaload, 1) := by decide +kernel
theorem dL_law_384 : decode cL_law 384 = .ok (.invokevirtual 40, 3) := by decide +kernel
theorem dL_law_387 : decode cL_law 387 = .ok (.if_icmp .eq 838, 3) := by decide +kernel
theorem dL_law_390 : decode cL_law 390 = .ok (.iconst 0, 1) := by decide +kernel
theorem dL_law_391 : decode cL_law 391 = .ok (.ireturn, 1) := by decide +kernel
theorem dL_law_392 : decode cL_law 392 = .ok (.aload_n 1, 1) := by decide +kernel
theorem dL_law_393 : decode cL_law 393 = .ok (.aload_n 0, 1) := by decide +kernel
theorem dL_law_394 : decode cL_law 394 = .ok (.iload_n 3, 1) := by decide +kernel
theorem dL_law_395 : decode cL_law 395 = .ok (.iconst 1, 1) := by decide +kernel
theorem dL_law_396 : decode cL_law 396 = .ok (.iadd, 1) := by decide +kernel
theorem dL_law_397 : decode cL_law 397 = .ok (.iaload, 1) := by decide +kernel
theorem dL_law_398 : decode cL_law 398 = .ok (.aload_n 0, 1) := by decide +kernel
theorem dL_law_399 : decode cL_law 399 = .ok (.iload_n 3, 1) := by decide +kernel
theorem dL_law_400 : decode cL_law 400 = .ok (.iconst 2, 1) := by decide +kernel
theorem dL_law_401 : decode cL_law 401 = .ok (.iadd, 1) := by decide +kernel
theorem dL_law_402 : decode cL_law 402 = .ok (.iaload, 1) := by decide +kernel
theorem dL_law_403 : decode cL_law 403 = .ok (.ifCond .eq 7, 3) := by decide +kernel
theorem dL_law_406 : decode cL_law 406 = .ok (.iconst 1, 1) := by decide +kernel
theorem dL_law_407 : decode cL_law 407 = .ok (.goto 4, 3) := by decide +kernel
theorem dL_law_410 : decode cL_law 410 = .ok (.iconst 0, 1) := by decide +kernel
theorem dL_law_411 : decode cL_law 411 = .ok (.invokevirtual 41, 3) := by decide +kernel
theorem dL_law_414 : decode cL_law 414 = .ok (.aload_n 2, 1) := by decide +kernel
theorem dL_law_415 : decode cL_law 415 = .ok (.aload_n 0, 1) := by decide +kernel
theorem dL_law_416 : decode cL_law 416 = .ok (.iload_n 3, 1) := by decide +kernel
theorem dL_law_417 : decode cL_law 417 = .ok (.iconst 1, 1) := by decide +kernel
theorem dL_law_418 : decode cL_law 418 = .ok (.iadd, 1) := by decide +kernel
theorem dL_law_419 : decode cL_law 419 = .ok (.iaload, 1) := by decide +kernel
theorem dL_law_420 : decode cL_law 420 = .ok (.aload_n 0, 1) := by decide +kernel
theorem dL_law_421 : decode cL_law 421 = .ok (.iload_n 3, 1) := by decide +kernel
theorem dL_law_422 : decode cL_law 422 = .ok (.iconst 2, 1) := by decide +kernel
theorem dL_law_423 : decode cL_law 423 = .ok (.iadd, 1) := by decide +kernel
theorem dL_law_424 : decode cL_law 424 = .ok (.iaload, 1) := by decide +kernel
theorem dL_law_425 : decode cL_law 425 = .ok (.ifCond .eq 7, 3) := by decide +kernel
theorem dL_law_428 : decode cL_law 428 = .ok (.iconst 1, 1) := by decide +kernel
theorem dL_law_429 : decode cL_law 429 = .ok (.goto 4, 3) := by decide +kernel
theorem dL_law_432 : decode cL_law 432 = .ok (.iconst 0, 1) := by decide +kernel
theorem dL_law_433 : decode cL_law 433 = .ok (.invokevirtual 45, 3) := by decide +kernel
theorem dL_law_436 : decode cL_law 436 = .ok (.if_icmp .eq 789, 3) := by decide +kernel
theorem dL_law_439 : decode cL_law 439 = .ok (.iconst 0, 1) := by decide +kernel
theorem dL_law_440 : decode cL_law 440 = .ok (.ireturn, 1) := by decide +kernel
theorem dL_law_441 : decode cL_law 441 = .ok (.aload_n 1, 1) := by decide +kernel
theorem dL_law_442 : decode cL_law 442 = .ok (.aload_n 0, 1) := by decide +kernel
theorem dL_law_443 : decode cL_law 443 = .ok (.iload_n 3, 1) := by decide +kernel
theorem dL_law_444 : decode cL_law 444 = .ok (.iconst 1, 1) := by decide +kernel
theorem dL_law_445 : decode cL_law 445 = .ok (.iadd, 1) := by decide +kernel
theorem dL_law_446 : decode cL_law 446 = .ok (.iaload, 1) := by decide +kernel
theorem dL_law_447 : decode cL_law 447 = .ok (.aload_n 0, 1) := by decide +kernel
theorem dL_law_448 : decode cL_law 448 = .ok (.iload_n 3, 1) := by decide +kernel
theorem dL_law_449 : decode cL_law 449 = .ok (.iconst 2, 1) := by decide +kernel
theorem dL_law_450 : decode cL_law 450 = .ok (.iadd, 1) := by decide +kernel
theorem dL_law_451 : decode cL_law 451 = .ok (.iaload, 1) := by decide +kernel
theorem dL_law_452 : decode cL_law 452 = .ok (.invokevirtual 46, 3) := by decide +kernel
theorem dL_law_455 : decode cL_law 455 = .ok (.aload_n 2, 1) := by decide +kernel
theorem dL_law_456 : decode cL_law 456 = .ok (.aload_n 0, 1) := by decide +kernel
theorem dL_law_457 : decode cL_law 457 = .ok (.iload_n 3, 1) := by decide +kernel
theorem dL_law_458 : decode cL_law 458 = .ok (.iconst 1, 1) := by decide +kernel
theorem dL_law_459 : decode cL_law 459 = .ok (.iadd, 1) := by decide +kernel
theorem dL_law_460 : decode cL_law 460 = .ok (.iaload, 1) := by decide +kernel
theorem dL_law_461 : decode cL_law 461 = .ok (.aload_n 0, 1) := by decide +kernel
theorem dL_law_462 : decode cL_law 462 = .ok (.iload_n 3, 1) := by decide +kernel
theorem dL_law_463 : decode cL_law 463 = .ok (.iconst 2, 1) := by decide +kernel
theorem dL_law_464 : decode cL_law 464 = .ok (.iadd, 1) := by decide +kernel
theorem dL_law_465 : decode cL_law 465 = .ok (.iaload, 1) := by decide +kernel
theorem dL_law_466 : decode cL_law 466 = .ok (.invokevirtual 50, 3) := by decide +kernel
theorem dL_law_469 : decode cL_law 469 = .ok (.lcmp, 1) := by decide +kernel
theorem dL_law_470 : decode cL_law 470 = .ok (.ifCond .eq 755, 3) := by decide +kernel
theorem dL_law_473 : decode cL_law 473 = .ok (.iconst 0, 1) := by decide +kernel
theorem dL_law_474 : decode cL_law 474 = .ok (.ireturn, 1) := by decide +kernel
theorem dL_law_475 : decode cL_law 475 = .ok (.aload_n 1, 1) := by decide +kernel
theorem dL_law_476 : decode cL_law 476 = .ok (.aload_n 0, 1) := by decide +kernel
theorem dL_law_477 : decode cL_law 477 = .ok (.iload_n 3, 1) := by decide +kernel
theorem dL_law_478 : decode cL_law 478 = .ok (.iconst 1, 1) := by decide +kernel
theorem dL_law_479 : decode cL_law 479 = .ok (.iadd, 1) := by decide +kernel
theorem dL_law_480 : decode cL_law 480 = .ok (.iaload, 1) := by decide +kernel
theorem dL_law_481 : decode cL_law 481 = .ok (.aload_n 0, 1) := by decide +kernel
theorem dL_law_482 : decode cL_law 482 = .ok (.iload_n 3, 1) := by decide +kernel
theorem dL_law_483 : decode cL_law 483 = .ok (.iconst 2, 1) := by decide +kernel
theorem dL_law_484 : decode cL_law 484 = .ok (.iadd, 1) := by decide +kernel
theorem dL_law_485 : decode cL_law 485 = .ok (.iaload, 1) := by decide +kernel
theorem dL_law_486 : decode cL_law 486 = .ok (.invokevirtual 51, 3) := by decide +kernel
theorem dL_law_489 : decode cL_law 489 = .ok (.aload_n 2, 1) := by decide +kernel
theorem dL_law_490 : decode cL_law 490 = .ok (.aload_n 0, 1) := by decide +kernel
theorem dL_law_491 : decode cL_law 491 = .ok (.iload_n 3, 1) := by decide +kernel
theorem dL_law_492 : decode cL_law 492 = .ok (.iconst 1, 1) := by decide +kernel
theorem dL_law_493 : decode cL_law 493 = .ok (.iadd, 1) := by decide +kernel
theorem dL_law_494 : decode cL_law 494 = .ok (.iaload, 1) := by decide +kernel
theorem dL_law_495 : decode cL_law 495 = .ok (.aload_n 0, 1) := by decide +kernel
theorem dL_law_496 : decode cL_law 496 = .ok (.iload_n 3, 1) := by decide +kernel
theorem dL_law_497 : decode cL_law 497 = .ok (.iconst 2, 1) := by decide +kernel
theorem dL_law_498 : decode cL_law 498 = .ok (.iadd, 1) := by decide +kernel
theorem dL_law_499 : decode cL_law 499 = .ok (.iaload, 1) := by decide +kernel
theorem dL_law_500 : decode cL_law 500 = .ok (.invokevirtual 54, 3) := by decide +kernel
theorem dL_law_503 : decode cL_law 503 = .ok (.if_icmp .eq 722, 3) := by decide +kernel
theorem dL_law_506 : decode cL_law 506 = .ok (.iconst 0, 1) := by decide +kernel
theorem dL_law_507 : decode cL_law 507 = .ok (.ireturn, 1) := by decide +kernel
theorem dL_law_508 : decode cL_law 508 = .ok (.aload_n 1, 1) := by decide +kernel
theorem dL_law_509 : decode cL_law 509 = .ok (.invokevirtual 55, 3) := by decide +kernel
theorem dL_law_512 : decode cL_law 512 = .ok (.aload_n 2, 1) := by decide +kernel
theorem dL_law_513 : decode cL_law 513 = .ok (.invokevirtual 59, 3) := by decide +kernel
theorem dL_law_516 : decode cL_law 516 = .ok (.if_icmp .eq 709, 3) := by decide +kernel
theorem dL_law_519 : decode cL_law 519 = .ok (.iconst 0, 1) := by decide +kernel
theorem dL_law_520 : decode cL_law 520 = .ok (.ireturn, 1) := by decide +kernel
theorem dL_law_521 : decode cL_law 521 = .ok (.aload_n 1, 1) := by decide +kernel
theorem dL_law_522 : decode cL_law 522 = .ok (.invokevirtual 60, 3) := by decide +kernel
theorem dL_law_525 : decode cL_law 525 = .ok (.aload_n 2, 1) := by decide +kernel
theorem dL_law_526 : decode cL_law 526 = .ok (.invokevirtual 64, 3) := by decide +kernel
theorem dL_law_529 : decode cL_law 529 = .ok (.lcmp, 1) := by decide +kernel
theorem dL_law_530 : decode cL_law 530 = .ok (.ifCond .eq 695, 3) := by decide +kernel
theorem dL_law_533 : decode cL_law 533 = .ok (.iconst 0, 1) := by decide +kernel
theorem dL_law_534 : decode cL_law 534 = .ok (.ireturn, 1) := by decide +kernel
theorem dL_law_535 : decode cL_law 535 = .ok (.aload_n 1, 1) := by decide +kernel
theorem dL_law_536 : decode cL_law 536 = .ok (.aload_n 0, 1) := by decide +kernel
theorem dL_law_537 : decode cL_law 537 = .ok (.iload_n 3, 1) := by decide +kernel
theorem dL_law_538 : decode cL_law 538 = .ok (.iconst 1, 1) := by decide +kernel
theorem dL_law_539 : decode cL_law 539 = .ok (.iadd, 1) := by decide +kernel
theorem dL_law_540 : decode cL_law 540 = .ok (.iaload, 1) := by decide +kernel
theorem dL_law_541 : decode cL_law 541 = .ok (.aload_n 0, 1) := by decide +kernel
theorem dL_law_542 : decode cL_law 542 = .ok (.iload_n 3, 1) := by decide +kernel
theorem dL_law_543 : decode cL_law 543 = .ok (.iconst 2, 1) := by decide +kernel
theorem dL_law_544 : decode cL_law 544 = .ok (.iadd, 1) := by decide +kernel
theorem dL_law_545 : decode cL_law 545 = .ok (.iaload, 1) := by decide +kernel
theorem dL_law_546 : decode cL_law 546 = .ok (.aload_n 0, 1) := by decide +kernel
theorem dL_law_547 : decode cL_law 547 = .ok (.iload_n 3, 1) := by decide +kernel
theorem dL_law_548 : decode cL_law 548 = .ok (.iconst 3, 1) := by decide +kernel
theorem dL_law_549 : decode cL_law 549 = .ok (.iadd, 1) := by decide +kernel
theorem dL_law_550 : decode cL_law 550 = .ok (.iaload, 1) := by decide +kernel
theorem dL_law_551 : decode cL_law 551 = .ok (.aload_n 0, 1) := by decide +kernel
theorem dL_law_552 : decode cL_law 552 = .ok (.iload_n 3, 1) := by decide +kernel
theorem dL_law_553 : decode cL_law 553 = .ok (.iconst 4, 1) := by decide +kernel
theorem dL_law_554 : decode cL_law 554 = .ok (.iadd, 1) := by decide +kernel
theorem dL_law_555 : decode cL_law 555 = .ok (.iaload, 1) := by decide +kernel
theorem dL_law_556 : decode cL_law 556 = .ok (.aload_n 0, 1) := by decide +kernel
theorem dL_law_557 : decode cL_law 557 = .ok (.iload_n 3, 1) := by decide +kernel
theorem dL_law_558 : decode cL_law 558 = .ok (.iconst 5, 1) := by decide +kernel
theorem dL_law_559 : decode cL_law 559 = .ok (.iadd, 1) := by decide +kernel
theorem dL_law_560 : decode cL_law 560 = .ok (.iaload, 1) := by decide +kernel
theorem dL_law_561 : decode cL_law 561 = .ok (.invokevirtual 65, 3) := by decide +kernel
theorem dL_law_564 : decode cL_law 564 = .ok (.aload_n 2, 1) := by decide +kernel
theorem dL_law_565 : decode cL_law 565 = .ok (.aload_n 0, 1) := by decide +kernel
theorem dL_law_566 : decode cL_law 566 = .ok (.iload_n 3, 1) := by decide +kernel
theorem dL_law_567 : decode cL_law 567 = .ok (.iconst 1, 1) := by decide +kernel
theorem dL_law_568 : decode cL_law 568 = .ok (.iadd, 1) := by decide +kernel
theorem dL_law_569 : decode cL_law 569 = .ok (.iaload, 1) := by decide +kernel
theorem dL_law_570 : decode cL_law 570 = .ok (.aload_n 0, 1) := by decide +kernel
theorem dL_law_571 : decode cL_law 571 = .ok (.iload_n 3, 1) := by decide +kernel
theorem dL_law_572 : decode cL_law 572 = .ok (.iconst 2, 1) := by decide +kernel
theorem dL_law_573 : decode cL_law 573 = .ok (.iadd, 1) := by decide +kernel
theorem dL_law_574 : decode cL_law 574 = .ok (.iaload, 1) := by decide +kernel
theorem dL_law_575 : decode cL_law 575 = .ok (.aload_n 0, 1) := by decide +kernel
theorem dL_law_576 : decode cL_law 576 = .ok (.iload_n 3, 1) := by decide +kernel
theorem dL_law_577 : decode cL_law 577 = .ok (.iconst 3, 1) := by decide +kernel
theorem dL_law_578 : decode cL_law 578 = .ok (.iadd, 1) := by decide +kernel
theorem dL_law_579 : decode cL_law 579 = .ok (.iaload, 1) := by decide +kernel
theorem dL_law_580 : decode cL_law 580 = .ok (.aload_n 0, 1) := by decide +kernel
theorem dL_law_581 : decode cL_law 581 = .ok (.iload_n 3, 1) := by decide +kernel
theorem dL_law_582 : decode cL_law 582 = .ok (.iconst 4, 1) := by decide +kernel
theorem dL_law_583 : decode cL_law 583 = .ok (.iadd, 1) := by decide +kernel
theorem dL_law_584 : decode cL_law 584 = .ok (.iaload, 1) := by decide +kernel
theorem dL_law_585 : decode cL_law 585 = .ok (.aload_n 0, 1) := by decide +kernel
theorem dL_law_586 : decode cL_law 586 = .ok (.iload_n 3, 1) := by decide +kernel
theorem dL_law_587 : decode cL_law 587 = .ok (.iconst 5, 1) := by decide +kernel
theorem dL_law_588 : decode cL_law 588 = .ok (.iadd, 1) := by decide +kernel
theorem dL_law_589 : decode cL_law 589 = .ok (.iaload, 1) := by decide +kernel
theorem dL_law_590 : decode cL_law 590 = .ok (.invokevirtual 69, 3) := by decide +kernel
theorem dL_law_593 : decode cL_law 593 = .ok (.if_icmp .eq 632, 3) := by decide +kernel
theorem dL_law_596 : decode cL_law 596 = .ok (.iconst 0, 1) := by decide +kernel
theorem dL_law_597 : decode cL_law 597 = .ok (.ireturn, 1) := by decide +kernel
theorem dL_law_598 : decode cL_law 598 = .ok (.aload_n 1, 1) := by decide +kernel
theorem dL_law_599 : decode cL_law 599 = .ok (.aload_n 0, 1) := by decide +kernel
theorem dL_law_600 : decode cL_law 600 = .ok (.iload_n 3, 1) := by decide +kernel
theorem dL_law_601 : decode cL_law 601 = .ok (.iconst 1, 1) := by decide +kernel
theorem dL_law_602 : decode cL_law 602 = .ok (.iadd, 1) := by decide +kernel
theorem dL_law_603 : decode cL_law 603 = .ok (.iaload, 1) := by decide +kernel
theorem dL_law_604 : decode cL_law 604 = .ok (.aload_n 0, 1) := by decide +kernel
theorem dL_law_605 : decode cL_law 605 = .ok (.iload_n 3, 1) := by decide +kernel
theorem dL_law_606 : decode cL_law 606 = .ok (.iconst 2, 1) := by decide +kernel
theorem dL_law_607 : decode cL_law 607 = .ok (.iadd, 1) := by decide +kernel
theorem dL_law_608 : decode cL_law 608 = .ok (.iaload, 1) := by decide +kernel
theorem dL_law_609 : decode cL_law 609 = .ok (.aload_n 0, 1) := by decide +kernel
theorem dL_law_610 : decode cL_law 610 = .ok (.iload_n 3, 1) := by decide +kernel
theorem dL_law_611 : decode cL_law 611 = .ok (.iconst 3, 1) := by decide +kernel
theorem dL_law_612 : decode cL_law 612 = .ok (.iadd, 1) := by decide +kernel
theorem dL_law_613 : decode cL_law 613 = .ok (.iaload, 1) := by decide +kernel
theorem dL_law_614 : decode cL_law 614 = .ok (.aload_n 0, 1) := by decide +kernel
theorem dL_law_615 : decode cL_law 615 = .ok (.iload_n 3, 1) := by decide +kernel
theorem dL_law_616 : decode cL_law 616 = .ok (.iconst 4, 1) := by decide +kernel
theorem dL_law_617 : decode cL_law 617 = .ok (.iadd, 1) := by decide +kernel
theorem dL_law_618 : decode cL_law 618 = .ok (.iaload, 1) := by decide +kernel
theorem dL_law_619 : decode cL_law 619 = .ok (.invokevirtual 70, 3) := by decide +kernel
theorem dL_law_622 : decode cL_law 622 = .ok (.aload_n 2, 1) := by decide +kernel
theorem dL_law_623 : decode cL_law 623 = .ok (.aload_n 0, 1) := by decide +kernel
theorem dL_law_624 : decode cL_law 624 = .ok (.iload_n 3, 1) := by decide +kernel
theorem dL_law_625 : decode cL_law 625 = .ok (.iconst 1, 1) := by decide +kernel
theorem dL_law_626 : decode cL_law 626 = .ok (.iadd, 1) := by decide +kernel
theorem dL_law_627 : decode cL_law 627 = .ok (.iaload, 1) := by decide +kernel
theorem dL_law_628 : decode cL_law 628 = .ok (.aload_n 0, 1) := by decide +kernel
theorem dL_law_629 : decode cL_law 629 = .ok (.iload_n 3, 1) := by decide +kernel
theorem dL_law_630 : decode cL_law 630 = .ok (.iconst 2, 1) := by decide +kernel
theorem dL_law_631 : decode cL_law 631 = .ok (.iadd, 1) := by decide +kernel
theorem dL_law_632 : decode cL_law 632 = .ok (.iaload, 1) := by decide +kernel
theorem dL_law_633 : decode cL_law 633 = .ok (.aload_n 0, 1) := by decide +kernel
theorem dL_law_634 : decode cL_law 634 = .ok (.iload_n 3, 1) := by decide +kernel
theorem dL_law_635 : decode cL_law 635 = .ok (.iconst 3, 1) := by decide +kernel
theorem dL_law_636 : decode cL_law 636 = .ok (.iadd, 1) := by decide +kernel
theorem dL_law_637 : decode cL_law 637 = .ok (.iaload, 1) := by decide +kernel
theorem dL_law_638 : decode cL_law 638 = .ok (.aload_n 0, 1) := by decide +kernel
theorem dL_law_639 : decode cL_law 639 = .ok (.iload_n 3, 1) := by decide +kernel
theorem dL_law_640 : decode cL_law 640 = .ok (.iconst 4, 1) := by decide +kernel
theorem dL_law_641 : decode cL_law 641 = .ok (.iadd, 1) := by decide +kernel
theorem dL_law_642 : decode cL_law 642 = .ok (.iaload, 1) := by decide +kernel
theorem dL_law_643 : decode cL_law 643 = .ok (.invokevirtual 73, 3) := by decide +kernel
theorem dL_law_646 : decode cL_law 646 = .ok (.if_icmp .eq 579, 3) := by decide +kernel
theorem dL_law_649 : decode cL_law 649 = .ok (.iconst 0, 1) := by decide +kernel
theorem dL_law_650 : decode cL_law 650 = .ok (.ireturn, 1) := by decide +kernel
theorem dL_law_651 : decode cL_law 651 = .ok (.aload_n 1, 1) := by decide +kernel
theorem dL_law_652 : decode cL_law 652 = .ok (.aload_n 0, 1) := by decide +kernel
theorem dL_law_653 : decode cL_law 653 = .ok (.iload_n 3, 1) := by decide +kernel
theorem dL_law_654 : decode cL_law 654 = .ok (.iconst 1, 1) := by decide +kernel
theorem dL_law_655 : decode cL_law 655 = .ok (.iadd, 1) := by decide +kernel
theorem dL_law_656 : decode cL_law 656 = .ok (.iaload, 1) := by decide +kernel
theorem dL_law_657 : decode cL_law 657 = .ok (.invokevirtual 74, 3) := by decide +kernel
theorem dL_law_660 : decode cL_law 660 = .ok (.aload_n 2, 1) := by decide +kernel
theorem dL_law_661 : decode cL_law 661 = .ok (.aload_n 0, 1) := by decide +kernel
theorem dL_law_662 : decode cL_law 662 = .ok (.iload_n 3, 1) := by decide +kernel
theorem dL_law_663 : decode cL_law 663 = .ok (.iconst 1, 1) := by decide +kernel
theorem dL_law_664 : decode cL_law 664 = .ok (.iadd, 1) := by decide +kernel
theorem dL_law_665 : decode cL_law 665 = .ok (.iaload, 1) := by decide +kernel
theorem dL_law_666 : decode cL_law 666 = .ok (.invokevirtual 77, 3) := by decide +kernel
theorem dL_law_669 : decode cL_law 669 = .ok (.if_icmp .eq 556, 3) := by decide +kernel
theorem dL_law_672 : decode cL_law 672 = .ok (.iconst 0, 1) := by decide +kernel
theorem dL_law_673 : decode cL_law 673 = .ok (.ireturn, 1) := by decide +kernel
theorem dL_law_674 : decode cL_law 674 = .ok (.aload_n 1, 1) := by decide +kernel
theorem dL_law_675 : decode cL_law 675 = .ok (.aload_n 0, 1) := by decide +kernel
theorem dL_law_676 : decode cL_law 676 = .ok (.iload_n 3, 1) := by decide +kernel
theorem dL_law_677 : decode cL_law 677 = .ok (.iconst 1, 1) := by decide +kernel
theorem dL_law_678 : decode cL_law 678 = .ok (.iadd, 1) := by decide +kernel
theorem dL_law_679 : decode cL_law 679 = .ok (.iaload, 1) := by decide +kernel
theorem dL_law_680 : decode cL_law 680 = .ok (.aload_n 0, 1) := by decide +kernel
theorem dL_law_681 : decode cL_law 681 = .ok (.iload_n 3, 1) := by decide +kernel
theorem dL_law_682 : decode cL_law 682 = .ok (.iconst 2, 1) := by decide +kernel
theorem dL_law_683 : decode cL_law 683 = .ok (.iadd, 1) := by decide +kernel
theorem dL_law_684 : decode cL_law 684 = .ok (.iaload, 1) := by decide +kernel
theorem dL_law_685 : decode cL_law 685 = .ok (.invokevirtual 78, 3) := by decide +kernel
theorem dL_law_688 : decode cL_law 688 = .ok (.aload_n 2, 1) := by decide +kernel
theorem dL_law_689 : decode cL_law 689 = .ok (.aload_n 0, 1) := by decide +kernel
theorem dL_law_690 : decode cL_law 690 = .ok (.iload_n 3, 1) := by decide +kernel
theorem dL_law_691 : decode cL_law 691 = .ok (.iconst 1, 1) := by decide +kernel
theorem dL_law_692 : decode cL_law 692 = .ok (.iadd, 1) := by decide +kernel
theorem dL_law_693 : decode cL_law 693 = .ok (.iaload, 1) := by decide +kernel
theorem dL_law_694 : decode cL_law 694 = .ok (.aload_n 0, 1) := by decide +kernel
theorem dL_law_695 : decode cL_law 695 = .ok (.iload_n 3, 1) := by decide +kernel
theorem dL_law_696 : decode cL_law 696 = .ok (.iconst 2, 1) := by decide +kernel
theorem dL_law_697 : decode cL_law 697 = .ok (.iadd, 1) := by decide +kernel
theorem dL_law_698 : decode cL_law 698 = .ok (.iaload, 1) := by decide +kernel
theorem dL_law_699 : decode cL_law 699 = .ok (.invokevirtual 81, 3) := by decide +kernel
theorem dL_law_702 : decode cL_law 702 = .ok (.if_icmp .eq 523, 3) := by decide +kernel
theorem dL_law_705 : decode cL_law 705 = .ok (.iconst 0, 1) := by decide +kernel
theorem dL_law_706 : decode cL_law 706 = .ok (.ireturn, 1) := by decide +kernel
theorem dL_law_707 : decode cL_law 707 = .ok (.aload_n 1, 1) := by decide +kernel
theorem dL_law_708 : decode cL_law 708 = .ok (.aload_n 0, 1) := by decide +kernel
theorem dL_law_709 : decode cL_law 709 = .ok (.iload_n 3, 1) := by decide +kernel
theorem dL_law_710 : decode cL_law 710 = .ok (.iconst 1, 1) := by decide +kernel
theorem dL_law_711 : decode cL_law 711 = .ok (.iadd, 1) := by decide +kernel
theorem dL_law_712 : decode cL_law 712 = .ok (.iaload, 1) := by decide +kernel
theorem dL_law_713 : decode cL_law 713 = .ok (.invokevirtual 82, 3) := by decide +kernel
theorem dL_law_716 : decode cL_law 716 = .ok (.aload_n 2, 1) := by decide +kernel
theorem dL_law_717 : decode cL_law 717 = .ok (.aload_n 0, 1) := by decide +kernel
theorem dL_law_718 : decode cL_law 718 = .ok (.iload_n 3, 1) := by decide +kernel
theorem dL_law_719 : decode cL_law 719 = .ok (.iconst 1, 1) := by decide +kernel
theorem dL_law_720 : decode cL_law 720 = .ok (.iadd, 1) := by decide +kernel
theorem dL_law_721 : decode cL_law 721 = .ok (.iaload, 1) := by decide +kernel
theorem dL_law_722 : decode cL_law 722 = .ok (.invokevirtual 85, 3) := by decide +kernel
theorem dL_law_725 : decode cL_law 725 = .ok (.if_icmp .eq 500, 3) := by decide +kernel
theorem dL_law_728 : decode cL_law 728 = .ok (.iconst 0, 1) := by decide +kernel
theorem dL_law_729 : decode cL_law 729 = .ok (.ireturn, 1) := by decide +kernel
theorem dL_law_730 : decode cL_law 730 = .ok (.aload_n 1, 1) := by decide +kernel
theorem dL_law_731 : decode cL_law 731 = .ok (.aload_n 0, 1) := by decide +kernel
theorem dL_law_732 : decode cL_law 732 = .ok (.iload_n 3, 1) := by decide +kernel
theorem dL_law_733 : decode cL_law 733 = .ok (.iconst 1, 1) := by decide +kernel
theorem dL_law_734 : decode cL_law 734 = .ok (.iadd, 1) := by decide +kernel
theorem dL_law_735 : decode cL_law 735 = .ok (.iaload, 1) := by decide +kernel
theorem dL_law_736 : decode cL_law 736 = .ok (.invokevirtual 86, 3) := by decide +kernel
theorem dL_law_739 : decode cL_law 739 = .ok (.aload_n 2, 1) := by decide +kernel
theorem dL_law_740 : decode cL_law 740 = .ok (.aload_n 0, 1) := by decide +kernel
theorem dL_law_741 : decode cL_law 741 = .ok (.iload_n 3, 1) := by decide +kernel
theorem dL_law_742 : decode cL_law 742 = .ok (.iconst 1, 1) := by decide +kernel
theorem dL_law_743 : decode cL_law 743 = .ok (.iadd, 1) := by decide +kernel
theorem dL_law_744 : decode cL_law 744 = .ok (.iaload, 1) := by decide +kernel
theorem dL_law_745 : decode cL_law 745 = .ok (.invokevirtual 89, 3) := by decide +kernel
theorem dL_law_748 : decode cL_law 748 = .ok (.if_icmp .eq 477, 3) := by decide +kernel
theorem dL_law_751 : decode cL_law 751 = .ok (.iconst 0, 1) := by decide +kernel
theorem dL_law_752 : decode cL_law 752 = .ok (.ireturn, 1) := by decide +kernel
theorem dL_law_753 : decode cL_law 753 = .ok (.aload_n 1, 1) := by decide +kernel
theorem dL_law_754 : decode cL_law 754 = .ok (.aload_n 0, 1) := by decide +kernel
theorem dL_law_755 : decode cL_law 755 = .ok (.iload_n 3, 1) := by decide +kernel
theorem dL_law_756 : decode cL_law 756 = .ok (.iconst 1, 1) := by decide +kernel
theorem dL_law_757 : decode cL_law 757 = .ok (.iadd, 1) := by decide +kernel
theorem dL_law_758 : decode cL_law 758 = .ok (.iaload, 1) := by decide +kernel
theorem dL_law_759 : decode cL_law 759 = .ok (.invokevirtual 90, 3) := by decide +kernel
theorem dL_law_762 : decode cL_law 762 = .ok (.aload_n 2, 1) := by decide +kernel
theorem dL_law_763 : decode cL_law 763 = .ok (.aload_n 0, 1) := by decide +kernel
theorem dL_law_764 : decode cL_law 764 = .ok (.iload_n 3, 1) := by decide +kernel
theorem dL_law_765 : decode cL_law 765 = .ok (.iconst 1, 1) := by decide +kernel
theorem dL_law_766 : decode cL_law 766 = .ok (.iadd, 1) := by decide +kernel
theorem dL_law_767 : decode cL_law 767 = .ok (.iaload, 1) := by decide +kernel
theorem dL_law_768 : decode cL_law 768 = .ok (.invokevirtual 93, 3) := by decide +kernel
theorem dL_law_771 : decode cL_law 771 = .ok (.if_icmp .eq 454, 3) := by decide +kernel
theorem dL_law_774 : decode cL_law 774 = .ok (.iconst 0, 1) := by decide +kernel
theorem dL_law_775 : decode cL_law 775 = .ok (.ireturn, 1) := by decide +kernel
theorem dL_law_776 : decode cL_law 776 = .ok (.aload_n 1, 1) := by decide +kernel
theorem dL_law_777 : decode cL_law 777 = .ok (.aload_n 0, 1) := by decide +kernel
theorem dL_law_778 : decode cL_law 778 = .ok (.iload_n 3, 1) := by decide +kernel
theorem dL_law_779 : decode cL_law 779 = .ok (.iconst 1, 1) := by decide +kernel
theorem dL_law_780 : decode cL_law 780 = .ok (.iadd, 1) := by decide +kernel
theorem dL_law_781 : decode cL_law 781 = .ok (.iaload, 1) := by decide +kernel
theorem dL_law_782 : decode cL_law 782 = .ok (.aload_n 0, 1) := by decide +kernel
theorem dL_law_783 : decode cL_law 783 = .ok (.iload_n 3, 1) := by decide +kernel
theorem dL_law_784 : decode cL_law 784 = .ok (.iconst 2, 1) := by decide +kernel
theorem dL_law_785 : decode cL_law 785 = .ok (.iadd, 1) := by decide +kernel
theorem dL_law_786 : decode cL_law 786 = .ok (.iaload, 1) := by decide +kernel
theorem dL_law_787 : decode cL_law 787 = .ok (.aload_n 0, 1) := by decide +kernel
theorem dL_law_788 : decode cL_law 788 = .ok (.iload_n 3, 1) := by decide +kernel
theorem dL_law_789 : decode cL_law 789 = .ok (.iconst 3, 1) := by decide +kernel
theorem dL_law_790 : decode cL_law 790 = .ok (.iadd, 1) := by decide +kernel
theorem dL_law_791 : decode cL_law 791 = .ok (.iaload, 1) := by decide +kernel
theorem dL_law_792 : decode cL_law 792 = .ok (.invokevirtual 94, 3) := by decide +kernel
theorem dL_law_795 : decode cL_law 795 = .ok (.aload_n 2, 1) := by decide +kernel
theorem dL_law_796 : decode cL_law 796 = .ok (.aload_n 0, 1) := by decide +kernel
theorem dL_law_797 : decode cL_law 797 = .ok (.iload_n 3, 1) := by decide +kernel
theorem dL_law_798 : decode cL_law 798 = .ok (.iconst 1, 1) := by decide +kernel
theorem dL_law_799 : decode cL_law 799 = .ok (.iadd, 1) := by decide +kernel
theorem dL_law_800 : decode cL_law 800 = .ok (.iaload, 1) := by decide +kernel
theorem dL_law_801 : decode cL_law 801 = .ok (.aload_n 0, 1) := by decide +kernel
theorem dL_law_802 : decode cL_law 802 = .ok (.iload_n 3, 1) := by decide +kernel
theorem dL_law_803 : decode cL_law 803 = .ok (.iconst 2, 1) := by decide +kernel
theorem dL_law_804 : decode cL_law 804 = .ok (.iadd, 1) := by decide +kernel
theorem dL_law_805 : decode cL_law 805 = .ok (.iaload, 1) := by decide +kernel
theorem dL_law_806 : decode cL_law 806 = .ok (.aload_n 0, 1) := by decide +kernel
theorem dL_law_807 : decode cL_law 807 = .ok (.iload_n 3, 1) := by decide +kernel
theorem dL_law_808 : decode cL_law 808 = .ok (.iconst 3, 1) := by decide +kernel
theorem dL_law_809 : decode cL_law 809 = .ok (.iadd, 1) := by decide +kernel
theorem dL_law_810 : decode cL_law 810 = .ok (.iaload, 1) := by decide +kernel
theorem dL_law_811 : decode cL_law 811 = .ok (.invokevirtual 97, 3) := by decide +kernel
theorem dL_law_814 : decode cL_law 814 = .ok (.if_icmp .eq 411, 3) := by decide +kernel
theorem dL_law_817 : decode cL_law 817 = .ok (.iconst 0, 1) := by decide +kernel
theorem dL_law_818 : decode cL_law 818 = .ok (.ireturn, 1) := by decide +kernel
theorem dL_law_819 : decode cL_law 819 = .ok (.aload_n 1, 1) := by decide +kernel
theorem dL_law_820 : decode cL_law 820 = .ok (.invokevirtual 98, 3) := by decide +kernel
theorem dL_law_823 : decode cL_law 823 = .ok (.aload_n 2, 1) := by decide +kernel
theorem dL_law_824 : decode cL_law 824 = .ok (.invokevirtual 101, 3) := by decide +kernel
theorem dL_law_827 : decode cL_law 827 = .ok (.if_icmp .eq 398, 3) := by decide +kernel
theorem dL_law_830 : decode cL_law 830 = .ok (.iconst 0, 1) := by decide +kernel
theorem dL_law_831 : decode cL_law 831 = .ok (.ireturn, 1) := by decide +kernel
theorem dL_law_832 : decode cL_law 832 = .ok (.aload_n 1, 1) := by decide +kernel
theorem dL_law_833 : decode cL_law 833 = .ok (.invokevirtual 102, 3) := by decide +kernel
theorem dL_law_836 : decode cL_law 836 = .ok (.aload_n 2, 1) := by decide +kernel
theorem dL_law_837 : decode cL_law 837 = .ok (.invokevirtual 105, 3) := by decide +kernel
theorem dL_law_840 : decode cL_law 840 = .ok (.if_icmp .eq 385, 3) := by decide +kernel
theorem dL_law_843 : decode cL_law 843 = .ok (.iconst 0, 1) := by decide +kernel
theorem dL_law_844 : decode cL_law 844 = .ok (.ireturn, 1) := by decide +kernel
theorem dL_law_845 : decode cL_law 845 = .ok (.aload_n 1, 1) := by decide +kernel
theorem dL_law_846 : decode cL_law 846 = .ok (.aload_n 0, 1) := by decide +kernel
theorem dL_law_847 : decode cL_law 847 = .ok (.iload_n 3, 1) := by decide +kernel
theorem dL_law_848 : decode cL_law 848 = .ok (.iconst 1, 1) := by decide +kernel
theorem dL_law_849 : decode cL_law 849 = .ok (.iadd, 1) := by decide +kernel
theorem dL_law_850 : decode cL_law 850 = .ok (.iaload, 1) := by decide +kernel
theorem dL_law_851 : decode cL_law 851 = .ok (.invokevirtual 106, 3) := by decide +kernel
theorem dL_law_854 : decode cL_law 854 = .ok (.aload_n 2, 1) := by decide +kernel
theorem dL_law_855 : decode cL_law 855 = .ok (.aload_n 0, 1) := by decide +kernel
theorem dL_law_856 : decode cL_law 856 = .ok (.iload_n 3, 1) := by decide +kernel
theorem dL_law_857 : decode cL_law 857 = .ok (.iconst 1, 1) := by decide +kernel
theorem dL_law_858 : decode cL_law 858 = .ok (.iadd, 1) := by decide +kernel
theorem dL_law_859 : decode cL_law 859 = .ok (.iaload, 1) := by decide +kernel
theorem dL_law_860 : decode cL_law 860 = .ok (.invokevirtual 109, 3) := by decide +kernel
theorem dL_law_863 : decode cL_law 863 = .ok (.if_icmp .eq 362, 3) := by decide +kernel
theorem dL_law_866 : decode cL_law 866 = .ok (.iconst 0, 1) := by decide +kernel
theorem dL_law_867 : decode cL_law 867 = .ok (.ireturn, 1) := by decide +kernel
theorem dL_law_868 : decode cL_law 868 = .ok (.aload_n 1, 1) := by decide +kernel
theorem dL_law_869 : decode cL_law 869 = .ok (.invokevirtual 110, 3) := by decide +kernel
theorem dL_law_872 : decode cL_law 872 = .ok (.aload_n 2, 1) := by decide +kernel
theorem dL_law_873 : decode cL_law 873 = .ok (.invokevirtual 113, 3) := by decide +kernel
theorem dL_law_876 : decode cL_law 876 = .ok (.if_icmp .eq 349, 3) := by decide +kernel
theorem dL_law_879 : decode cL_law 879 = .ok (.iconst 0, 1) := by decide +kernel
theorem dL_law_880 : decode cL_law 880 = .ok (.ireturn, 1) := by decide +kernel
theorem dL_law_881 : decode cL_law 881 = .ok (.aload_n 1, 1) := by decide +kernel
theorem dL_law_882 : decode cL_law 882 = .ok (.aload_n 0, 1) := by decide +kernel
theorem dL_law_883 : decode cL_law 883 = .ok (.iload_n 3, 1) := by decide +kernel
theorem dL_law_884 : decode cL_law 884 = .ok (.iconst 1, 1) := by decide +kernel
theorem dL_law_885 : decode cL_law 885 = .ok (.iadd, 1) := by decide +kernel
theorem dL_law_886 : decode cL_law 886 = .ok (.iaload, 1) := by decide +kernel
theorem dL_law_887 : decode cL_law 887 = .ok (.aload_n 0, 1) := by decide +kernel
theorem dL_law_888 : decode cL_law 888 = .ok (.iload_n 3, 1) := by decide +kernel
theorem dL_law_889 : decode cL_law 889 = .ok (.iconst 2, 1) := by decide +kernel
theorem dL_law_890 : decode cL_law 890 = .ok (.iadd, 1) := by decide +kernel
theorem dL_law_891 : decode cL_law 891 = .ok (.iaload, 1) := by decide +kernel
theorem dL_law_892 : decode cL_law 892 = .ok (.aload_n 0, 1) := by decide +kernel
theorem dL_law_893 : decode cL_law 893 = .ok (.iload_n 3, 1) := by decide +kernel
theorem dL_law_894 : decode cL_law 894 = .ok (.iconst 3, 1) := by decide +kernel
theorem dL_law_895 : decode cL_law 895 = .ok (.iadd, 1) := by decide +kernel
theorem dL_law_896 : decode cL_law 896 = .ok (.iaload, 1) := by decide +kernel
theorem dL_law_897 : decode cL_law 897 = .ok (.invokevirtual 114, 3) := by decide +kernel
theorem dL_law_900 : decode cL_law 900 = .ok (.aload_n 2, 1) := by decide +kernel
theorem dL_law_901 : decode cL_law 901 = .ok (.aload_n 0, 1) := by decide +kernel
theorem dL_law_902 : decode cL_law 902 = .ok (.iload_n 3, 1) := by decide +kernel
theorem dL_law_903 : decode cL_law 903 = .ok (.iconst 1, 1) := by decide +kernel
theorem dL_law_904 : decode cL_law 904 = .ok (.iadd, 1) := by decide +kernel
theorem dL_law_905 : decode cL_law 905 = .ok (.iaload, 1) := by decide +kernel
theorem dL_law_906 : decode cL_law 906 = .ok (.aload_n 0, 1) := by decide +kernel
theorem dL_law_907 : decode cL_law 907 = .ok (.iload_n 3, 1) := by decide +kernel
theorem dL_law_908 : decode cL_law 908 = .ok (.iconst 2, 1) := by decide +kernel
theorem dL_law_909 : decode cL_law 909 = .ok (.iadd, 1) := by decide +kernel
theorem dL_law_910 : decode cL_law 910 = .ok (.iaload, 1) := by decide +kernel
theorem dL_law_911 : decode cL_law 911 = .ok (.aload_n 0, 1) := by decide +kernel
theorem dL_law_912 : decode cL_law 912 = .ok (.iload_n 3, 1) := by decide +kernel
theorem dL_law_913 : decode cL_law 913 = .ok (.iconst 3, 1) := by decide +kernel
theorem dL_law_914 : decode cL_law 914 = .ok (.iadd, 1) := by decide +kernel
theorem dL_law_915 : decode cL_law 915 = .ok (.iaload, 1) := by decide +kernel
theorem dL_law_916 : decode cL_law 916 = .ok (.invokevirtual 117, 3) := by decide +kernel
theorem dL_law_919 : decode cL_law 919 = .ok (.if_icmp .eq 306, 3) := by decide +kernel
theorem dL_law_922 : decode cL_law 922 = .ok (.iconst 0, 1) := by decide +kernel
theorem dL_law_923 : decode cL_law 923 = .ok (.ireturn, 1) := by decide +kernel
theorem dL_law_924 : decode cL_law 924 = .ok (.aload_n 1, 1) := by decide +kernel
theorem dL_law_925 : decode cL_law 925 = .ok (.aload_n 0, 1) := by decide +kernel
theorem dL_law_926 : decode cL_law 926 = .ok (.iload_n 3, 1) := by decide +kernel
theorem dL_law_927 : decode cL_law 927 = .ok (.iconst 1, 1) := by decide +kernel
theorem dL_law_928 : decode cL_law 928 = .ok (.iadd, 1) := by decide +kernel
theorem dL_law_929 : decode cL_law 929 = .ok (.iaload, 1) := by decide +kernel
theorem dL_law_930 : decode cL_law 930 = .ok (.invokevirtual 118, 3) := by decide +kernel
theorem dL_law_933 : decode cL_law 933 = .ok (.aload_n 2, 1) := by decide +kernel
theorem dL_law_934 : decode cL_law 934 = .ok (.aload_n 0, 1) := by decide +kernel
theorem dL_law_935 : decode cL_law 935 = .ok (.iload_n 3, 1) := by decide +kernel
theorem dL_law_936 : decode cL_law 936 = .ok (.iconst 1, 1) := by decide +kernel
theorem dL_law_937 : decode cL_law 937 = .ok (.iadd, 1) := by decide +kernel
theorem dL_law_938 : decode cL_law 938 = .ok (.iaload, 1) := by decide +kernel
theorem dL_law_939 : decode cL_law 939 = .ok (.invokevirtual 121, 3) := by decide +kernel
theorem dL_law_942 : decode cL_law 942 = .ok (.if_icmp .eq 283, 3) := by decide +kernel
theorem dL_law_945 : decode cL_law 945 = .ok (.iconst 0, 1) := by decide +kernel
theorem dL_law_946 : decode cL_law 946 = .ok (.ireturn, 1) := by decide +kernel
theorem dL_law_947 : decode cL_law 947 = .ok (.aload_n 1, 1) := by decide +kernel
theorem dL_law_948 : decode cL_law 948 = .ok (.aload_n 0, 1) := by decide +kernel
theorem dL_law_949 : decode cL_law 949 = .ok (.iload_n 3, 1) := by decide +kernel
theorem dL_law_950 : decode cL_law 950 = .ok (.iconst 1, 1) := by decide +kernel
theorem dL_law_951 : decode cL_law 951 = .ok (.iadd, 1) := by decide +kernel
theorem dL_law_952 : decode cL_law 952 = .ok (.iaload, 1) := by decide +kernel
theorem dL_law_953 : decode cL_law 953 = .ok (.aload_n 0, 1) := by decide +kernel
theorem dL_law_954 : decode cL_law 954 = .ok (.iload_n 3, 1) := by decide +kernel
theorem dL_law_955 : decode cL_law 955 = .ok (.iconst 2, 1) := by decide +kernel
theorem dL_law_956 : decode cL_law 956 = .ok (.iadd, 1) := by decide +kernel
theorem dL_law_957 : decode cL_law 957 = .ok (.iaload, 1) := by decide +kernel
theorem dL_law_958 : decode cL_law 958 = .ok (.aload_n 0, 1) := by decide +kernel
theorem dL_law_959 : decode cL_law 959 = .ok (.iload_n 3, 1) := by decide +kernel
theorem dL_law_960 : decode cL_law 960 = .ok (.iconst 3, 1) := by decide +kernel
theorem dL_law_961 : decode cL_law 961 = .ok (.iadd, 1) := by decide +kernel
theorem dL_law_962 : decode cL_law 962 = .ok (.iaload, 1) := by decide +kernel
theorem dL_law_963 : decode cL_law 963 = .ok (.invokevirtual 122, 3) := by decide +kernel
theorem dL_law_966 : decode cL_law 966 = .ok (.aload_n 2, 1) := by decide +kernel
theorem dL_law_967 : decode cL_law 967 = .ok (.aload_n 0, 1) := by decide +kernel
theorem dL_law_968 : decode cL_law 968 = .ok (.iload_n 3, 1) := by decide +kernel
theorem dL_law_969 : decode cL_law 969 = .ok (.iconst 1, 1) := by decide +kernel
theorem dL_law_970 : decode cL_law 970 = .ok (.iadd, 1) := by decide +kernel
theorem dL_law_971 : decode cL_law 971 = .ok (.iaload, 1) := by decide +kernel
theorem dL_law_972 : decode cL_law 972 = .ok (.aload_n 0, 1) := by decide +kernel
theorem dL_law_973 : decode cL_law 973 = .ok (.iload_n 3, 1) := by decide +kernel
theorem dL_law_974 : decode cL_law 974 = .ok (.iconst 2, 1) := by decide +kernel
theorem dL_law_975 : decode cL_law 975 = .ok (.iadd, 1) := by decide +kernel
theorem dL_law_976 : decode cL_law 976 = .ok (.iaload, 1) := by decide +kernel
theorem dL_law_977 : decode cL_law 977 = .ok (.aload_n 0, 1) := by decide +kernel
theorem dL_law_978 : decode cL_law 978 = .ok (.iload_n 3, 1) := by decide +kernel
theorem dL_law_979 : decode cL_law 979 = .ok (.iconst 3, 1) := by decide +kernel
theorem dL_law_980 : decode cL_law 980 = .ok (.iadd, 1) := by decide +kernel
theorem dL_law_981 : decode cL_law 981 = .ok (.iaload, 1) := by decide +kernel
theorem dL_law_982 : decode cL_law 982 = .ok (.invokevirtual 125, 3) := by decide +kernel
theorem dL_law_985 : decode cL_law 985 = .ok (.if_icmp .eq 240, 3) := by decide +kernel
theorem dL_law_988 : decode cL_law 988 = .ok (.iconst 0, 1) := by decide +kernel
theorem dL_law_989 : decode cL_law 989 = .ok (.ireturn, 1) := by decide +kernel
theorem dL_law_990 : decode cL_law 990 = .ok (.aload_n 1, 1) := by decide +kernel
theorem dL_law_991 : decode cL_law 991 = .ok (.aload_n 0, 1) := by decide +kernel
theorem dL_law_992 : decode cL_law 992 = .ok (.iload_n 3, 1) := by decide +kernel
theorem dL_law_993 : decode cL_law 993 = .ok (.iconst 1, 1) := by decide +kernel
theorem dL_law_994 : decode cL_law 994 = .ok (.iadd, 1) := by decide +kernel
theorem dL_law_995 : decode cL_law 995 = .ok (.iaload, 1) := by decide +kernel
theorem dL_law_996 : decode cL_law 996 = .ok (.aload_n 0, 1) := by decide +kernel
theorem dL_law_997 : decode cL_law 997 = .ok (.iload_n 3, 1) := by decide +kernel
theorem dL_law_998 : decode cL_law 998 = .ok (.iconst 2, 1) := by decide +kernel
theorem dL_law_999 : decode cL_law 999 = .ok (.iadd, 1) := by decide +kernel
theorem dL_law_1000 : decode cL_law 1000 = .ok (.iaload, 1) := by decide +kernel
theorem dL_law_1001 : decode cL_law 1001 = .ok (.aload_n 0, 1) := by decide +kernel
theorem dL_law_1002 : decode cL_law 1002 = .ok (.iload_n 3, 1) := by decide +kernel
theorem dL_law_1003 : decode cL_law 1003 = .ok (.iconst 3, 1) := by decide +kernel
theorem dL_law_1004 : decode cL_law 1004 = .ok (.iadd, 1) := by decide +kernel
theorem dL_law_1005 : decode cL_law 1005 = .ok (.iaload, 1) := by decide +kernel
theorem dL_law_1006 : decode cL_law 1006 = .ok (.invokevirtual 126, 3) := by decide +kernel
theorem dL_law_1009 : decode cL_law 1009 = .ok (.aload_n 2, 1) := by decide +kernel
theorem dL_law_1010 : decode cL_law 1010 = .ok (.aload_n 0, 1) := by decide +kernel
theorem dL_law_1011 : decode cL_law 1011 = .ok (.iload_n 3, 1) := by decide +kernel
theorem dL_law_1012 : decode cL_law 1012 = .ok (.iconst 1, 1) := by decide +kernel
theorem dL_law_1013 : decode cL_law 1013 = .ok (.iadd, 1) := by decide +kernel
theorem dL_law_1014 : decode cL_law 1014 = .ok (.iaload, 1) := by decide +kernel
theorem dL_law_1015 : decode cL_law 1015 = .ok (.aload_n 0, 1) := by decide +kernel
theorem dL_law_1016 : decode cL_law 1016 = .ok (.iload_n 3, 1) := by decide +kernel
theorem dL_law_1017 : decode cL_law 1017 = .ok (.iconst 2, 1) := by decide +kernel
theorem dL_law_1018 : decode cL_law 1018 = .ok (.iadd, 1) := by decide +kernel
theorem dL_law_1019 : decode cL_law 1019 = .ok (.iaload, 1) := by decide +kernel
theorem dL_law_1020 : decode cL_law 1020 = .ok (.aload_n 0, 1) := by decide +kernel
theorem dL_law_1021 : decode cL_law 1021 = .ok (.iload_n 3, 1) := by decide +kernel
theorem dL_law_1022 : decode cL_law 1022 = .ok (.iconst 3, 1) := by decide +kernel
theorem dL_law_1023 : decode cL_law 1023 = .ok (.iadd, 1) := by decide +kernel
theorem dL_law_1024 : decode cL_law 1024 = .ok (.iaload, 1) := by decide +kernel
theorem dL_law_1025 : decode cL_law 1025 = .ok (.invokevirtual 130, 3) := by decide +kernel
theorem dL_law_1028 : decode cL_law 1028 = .ok (.lcmp, 1) := by decide +kernel
theorem dL_law_1029 : decode cL_law 1029 = .ok (.ifCond .eq 196, 3) := by decide +kernel
theorem dL_law_1032 : decode cL_law 1032 = .ok (.iconst 0, 1) := by decide +kernel
theorem dL_law_1033 : decode cL_law 1033 = .ok (.ireturn, 1) := by decide +kernel
theorem dL_law_1034 : decode cL_law 1034 = .ok (.aload_n 1, 1) := by decide +kernel
theorem dL_law_1035 : decode cL_law 1035 = .ok (.aload_n 0, 1) := by decide +kernel
theorem dL_law_1036 : decode cL_law 1036 = .ok (.iload_n 3, 1) := by decide +kernel
theorem dL_law_1037 : decode cL_law 1037 = .ok (.iconst 1, 1) := by decide +kernel
theorem dL_law_1038 : decode cL_law 1038 = .ok (.iadd, 1) := by decide +kernel
theorem dL_law_1039 : decode cL_law 1039 = .ok (.iaload, 1) := by decide +kernel
theorem dL_law_1040 : decode cL_law 1040 = .ok (.aload_n 0, 1) := by decide +kernel
theorem dL_law_1041 : decode cL_law 1041 = .ok (.iload_n 3, 1) := by decide +kernel
theorem dL_law_1042 : decode cL_law 1042 = .ok (.iconst 2, 1) := by decide +kernel
theorem dL_law_1043 : decode cL_law 1043 = .ok (.iadd, 1) := by decide +kernel
theorem dL_law_1044 : decode cL_law 1044 = .ok (.iaload, 1) := by decide +kernel
theorem dL_law_1045 : decode cL_law 1045 = .ok (.aload_n 0, 1) := by decide +kernel
theorem dL_law_1046 : decode cL_law 1046 = .ok (.iload_n 3, 1) := by decide +kernel
theorem dL_law_1047 : decode cL_law 1047 = .ok (.iconst 3, 1) := by decide +kernel
theorem dL_law_1048 : decode cL_law 1048 = .ok (.iadd, 1) := by decide +kernel
theorem dL_law_1049 : decode cL_law 1049 = .ok (.iaload, 1) := by decide +kernel
theorem dL_law_1050 : decode cL_law 1050 = .ok (.aload_n 0, 1) := by decide +kernel
theorem dL_law_1051 : decode cL_law 1051 = .ok (.iload_n 3, 1) := by decide +kernel
theorem dL_law_1052 : decode cL_law 1052 = .ok (.iconst 4, 1) := by decide +kernel
theorem dL_law_1053 : decode cL_law 1053 = .ok (.iadd, 1) := by decide +kernel
theorem dL_law_1054 : decode cL_law 1054 = .ok (.iaload, 1) := by decide +kernel
theorem dL_law_1055 : decode cL_law 1055 = .ok (.aload_n 0, 1) := by decide +kernel
theorem dL_law_1056 : decode cL_law 1056 = .ok (.iload_n 3, 1) := by decide +kernel
theorem dL_law_1057 : decode cL_law 1057 = .ok (.iconst 5, 1) := by decide +kernel
theorem dL_law_1058 : decode cL_law 1058 = .ok (.iadd, 1) := by decide +kernel
theorem dL_law_1059 : decode cL_law 1059 = .ok (.iaload, 1) := by decide +kernel
theorem dL_law_1060 : decode cL_law 1060 = .ok (.invokevirtual 131, 3) := by decide +kernel
theorem dL_law_1063 : decode cL_law 1063 = .ok (.aload_n 2, 1) := by decide +kernel
theorem dL_law_1064 : decode cL_law 1064 = .ok (.aload_n 0, 1) := by decide +kernel
theorem dL_law_1065 : decode cL_law 1065 = .ok (.iload_n 3, 1) := by decide +kernel
theorem dL_law_1066 : decode cL_law 1066 = .ok (.iconst 1, 1) := by decide +kernel
theorem dL_law_1067 : decode cL_law 1067 = .ok (.iadd, 1) := by decide +kernel
theorem dL_law_1068 : decode cL_law 1068 = .ok (.iaload, 1) := by decide +kernel
theorem dL_law_1069 : decode cL_law 1069 = .ok (.aload_n 0, 1) := by decide +kernel
theorem dL_law_1070 : decode cL_law 1070 = .ok (.iload_n 3, 1) := by decide +kernel
theorem dL_law_1071 : decode cL_law 1071 = .ok (.iconst 2, 1) := by decide +kernel
theorem dL_law_1072 : decode cL_law 1072 = .ok (.iadd, 1) := by decide +kernel
theorem dL_law_1073 : decode cL_law 1073 = .ok (.iaload, 1) := by decide +kernel
theorem dL_law_1074 : decode cL_law 1074 = .ok (.aload_n 0, 1) := by decide +kernel
theorem dL_law_1075 : decode cL_law 1075 = .ok (.iload_n 3, 1) := by decide +kernel
theorem dL_law_1076 : decode cL_law 1076 = .ok (.iconst 3, 1) := by decide +kernel
theorem dL_law_1077 : decode cL_law 1077 = .ok (.iadd, 1) := by decide +kernel
theorem dL_law_1078 : decode cL_law 1078 = .ok (.iaload, 1) := by decide +kernel
theorem dL_law_1079 : decode cL_law 1079 = .ok (.aload_n 0, 1) := by decide +kernel
theorem dL_law_1080 : decode cL_law 1080 = .ok (.iload_n 3, 1) := by decide +kernel
theorem dL_law_1081 : decode cL_law 1081 = .ok (.iconst 4, 1) := by decide +kernel
theorem dL_law_1082 : decode cL_law 1082 = .ok (.iadd, 1) := by decide +kernel
theorem dL_law_1083 : decode cL_law 1083 = .ok (.iaload, 1) := by decide +kernel
theorem dL_law_1084 : decode cL_law 1084 = .ok (.aload_n 0, 1) := by decide +kernel
theorem dL_law_1085 : decode cL_law 1085 = .ok (.iload_n 3, 1) := by decide +kernel
theorem dL_law_1086 : decode cL_law 1086 = .ok (.iconst 5, 1) := by decide +kernel
theorem dL_law_1087 : decode cL_law 1087 = .ok (.iadd, 1) := by decide +kernel
theorem dL_law_1088 : decode cL_law 1088 = .ok (.iaload, 1) := by decide +kernel
theorem dL_law_1089 : decode cL_law 1089 = .ok (.invokevirtual 134, 3) := by decide +kernel
theorem dL_law_1092 : decode cL_law 1092 = .ok (.if_icmp .eq 133, 3) := by decide +kernel
theorem dL_law_1095 : decode cL_law 1095 = .ok (.iconst 0, 1) := by decide +kernel
theorem dL_law_1096 : decode cL_law 1096 = .ok (.ireturn, 1) := by decide +kernel
theorem dL_law_1097 : decode cL_law 1097 = .ok (.aload_n 1, 1) := by decide +kernel
theorem dL_law_1098 : decode cL_law 1098 = .ok (.aload_n 0, 1) := by decide +kernel
theorem dL_law_1099 : decode cL_law 1099 = .ok (.iload_n 3, 1) := by decide +kernel
theorem dL_law_1100 : decode cL_law 1100 = .ok (.iconst 1, 1) := by decide +kernel
theorem dL_law_1101 : decode cL_law 1101 = .ok (.iadd, 1) := by decide +kernel
theorem dL_law_1102 : decode cL_law 1102 = .ok (.iaload, 1) := by decide +kernel
theorem dL_law_1103 : decode cL_law 1103 = .ok (.invokevirtual 135, 3) := by decide +kernel
theorem dL_law_1106 : decode cL_law 1106 = .ok (.aload_n 2, 1) := by decide +kernel
theorem dL_law_1107 : decode cL_law 1107 = .ok (.aload_n 0, 1) := by decide +kernel
theorem dL_law_1108 : decode cL_law 1108 = .ok (.iload_n 3, 1) := by decide +kernel
theorem dL_law_1109 : decode cL_law 1109 = .ok (.iconst 1, 1) := by decide +kernel
theorem dL_law_1110 : decode cL_law 1110 = .ok (.iadd, 1) := by decide +kernel
theorem dL_law_1111 : decode cL_law 1111 = .ok (.iaload, 1) := by decide +kernel
theorem dL_law_1112 : decode cL_law 1112 = .ok (.invokevirtual 138, 3) := by decide +kernel
theorem dL_law_1115 : decode cL_law 1115 = .ok (.if_icmp .eq 110, 3) := by decide +kernel
theorem dL_law_1118 : decode cL_law 1118 = .ok (.iconst 0, 1) := by decide +kernel
theorem dL_law_1119 : decode cL_law 1119 = .ok (.ireturn, 1) := by decide +kernel
theorem dL_law_1120 : decode cL_law 1120 = .ok (.aload_n 1, 1) := by decide +kernel
theorem dL_law_1121 : decode cL_law 1121 = .ok (.aload_n 0, 1) := by decide +kernel
theorem dL_law_1122 : decode cL_law 1122 = .ok (.iload_n 3, 1) := by decide +kernel
theorem dL_law_1123 : decode cL_law 1123 = .ok (.iconst 1, 1) := by decide +kernel
theorem dL_law_1124 : decode cL_law 1124 = .ok (.iadd, 1) := by decide +kernel
theorem dL_law_1125 : decode cL_law 1125 = .ok (.iaload, 1) := by decide +kernel
theorem dL_law_1126 : decode cL_law 1126 = .ok (.invokevirtual 139, 3) := by decide +kernel
theorem dL_law_1129 : decode cL_law 1129 = .ok (.aload_n 2, 1) := by decide +kernel
theorem dL_law_1130 : decode cL_law 1130 = .ok (.aload_n 0, 1) := by decide +kernel
theorem dL_law_1131 : decode cL_law 1131 = .ok (.iload_n 3, 1) := by decide +kernel
theorem dL_law_1132 : decode cL_law 1132 = .ok (.iconst 1, 1) := by decide +kernel
theorem dL_law_1133 : decode cL_law 1133 = .ok (.iadd, 1) := by decide +kernel
theorem dL_law_1134 : decode cL_law 1134 = .ok (.iaload, 1) := by decide +kernel
theorem dL_law_1135 : decode cL_law 1135 = .ok (.invokevirtual 142, 3) := by decide +kernel
theorem dL_law_1138 : decode cL_law 1138 = .ok (.if_icmp .eq 87, 3) := by decide +kernel
theorem dL_law_1141 : decode cL_law 1141 = .ok (.iconst 0, 1) := by decide +kernel
theorem dL_law_1142 : decode cL_law 1142 = .ok (.ireturn, 1) := by decide +kernel
theorem dL_law_1143 : decode cL_law 1143 = .ok (.aload_n 1, 1) := by decide +kernel
theorem dL_law_1144 : decode cL_law 1144 = .ok (.aload_n 0, 1) := by decide +kernel
theorem dL_law_1145 : decode cL_law 1145 = .ok (.iload_n 3, 1) := by decide +kernel
theorem dL_law_1146 : decode cL_law 1146 = .ok (.iconst 1, 1) := by decide +kernel
theorem dL_law_1147 : decode cL_law 1147 = .ok (.iadd, 1) := by decide +kernel
theorem dL_law_1148 : decode cL_law 1148 = .ok (.iaload, 1) := by decide +kernel
theorem dL_law_1149 : decode cL_law 1149 = .ok (.aload_n 0, 1) := by decide +kernel
theorem dL_law_1150 : decode cL_law 1150 = .ok (.iload_n 3, 1) := by decide +kernel
theorem dL_law_1151 : decode cL_law 1151 = .ok (.iconst 2, 1) := by decide +kernel
theorem dL_law_1152 : decode cL_law 1152 = .ok (.iadd, 1) := by decide +kernel
theorem dL_law_1153 : decode cL_law 1153 = .ok (.iaload, 1) := by decide +kernel
theorem dL_law_1154 : decode cL_law 1154 = .ok (.invokevirtual 143, 3) := by decide +kernel
theorem dL_law_1157 : decode cL_law 1157 = .ok (.aload_n 2, 1) := by decide +kernel
theorem dL_law_1158 : decode cL_law 1158 = .ok (.aload_n 0, 1) := by decide +kernel
theorem dL_law_1159 : decode cL_law 1159 = .ok (.iload_n 3, 1) := by decide +kernel
theorem dL_law_1160 : decode cL_law 1160 = .ok (.iconst 1, 1) := by decide +kernel
theorem dL_law_1161 : decode cL_law 1161 = .ok (.iadd, 1) := by decide +kernel
theorem dL_law_1162 : decode cL_law 1162 = .ok (.iaload, 1) := by decide +kernel
theorem dL_law_1163 : decode cL_law 1163 = .ok (.aload_n 0, 1) := by decide +kernel
theorem dL_law_1164 : decode cL_law 1164 = .ok (.iload_n 3, 1) := by decide +kernel
theorem dL_law_1165 : decode cL_law 1165 = .ok (.iconst 2, 1) := by decide +kernel
theorem dL_law_1166 : decode cL_law 1166 = .ok (.iadd, 1) := by decide +kernel
theorem dL_law_1167 : decode cL_law 1167 = .ok (.iaload, 1) := by decide +kernel
theorem dL_law_1168 : decode cL_law 1168 = .ok (.invokevirtual 146, 3) := by decide +kernel
theorem dL_law_1171 : decode cL_law 1171 = .ok (.if_icmp .eq 54, 3) := by decide +kernel
theorem dL_law_1174 : decode cL_law 1174 = .ok (.iconst 0, 1) := by decide +kernel
theorem dL_law_1175 : decode cL_law 1175 = .ok (.ireturn, 1) := by decide +kernel
theorem dL_law_1176 : decode cL_law 1176 = .ok (.aload_n 1, 1) := by decide +kernel
theorem dL_law_1177 : decode cL_law 1177 = .ok (.invokevirtual 147, 3) := by decide +kernel
theorem dL_law_1180 : decode cL_law 1180 = .ok (.aload_n 2, 1) := by decide +kernel
theorem dL_law_1181 : decode cL_law 1181 = .ok (.invokevirtual 150, 3) := by decide +kernel
theorem dL_law_1184 : decode cL_law 1184 = .ok (.if_icmp .eq 41, 3) := by decide +kernel
theorem dL_law_1187 : decode cL_law 1187 = .ok (.iconst 0, 1) := by decide +kernel
theorem dL_law_1188 : decode cL_law 1188 = .ok (.ireturn, 1) := by decide +kernel
theorem dL_law_1189 : decode cL_law 1189 = .ok (.aload_n 1, 1) := by decide +kernel
theorem dL_law_1190 : decode cL_law 1190 = .ok (.invokevirtual 151, 3) := by decide +kernel
theorem dL_law_1193 : decode cL_law 1193 = .ok (.aload_n 2, 1) := by decide +kernel
theorem dL_law_1194 : decode cL_law 1194 = .ok (.invokevirtual 154, 3) := by decide +kernel
theorem dL_law_1197 : decode cL_law 1197 = .ok (.if_icmp .eq 28, 3) := by decide +kernel
theorem dL_law_1200 : decode cL_law 1200 = .ok (.iconst 0, 1) := by decide +kernel
theorem dL_law_1201 : decode cL_law 1201 = .ok (.ireturn, 1) := by decide +kernel
theorem dL_law_1202 : decode cL_law 1202 = .ok (.aload_n 1, 1) := by decide +kernel
theorem dL_law_1203 : decode cL_law 1203 = .ok (.aload_n 0, 1) := by decide +kernel
theorem dL_law_1204 : decode cL_law 1204 = .ok (.iload_n 3, 1) := by decide +kernel
theorem dL_law_1205 : decode cL_law 1205 = .ok (.iconst 1, 1) := by decide +kernel
theorem dL_law_1206 : decode cL_law 1206 = .ok (.iadd, 1) := by decide +kernel
theorem dL_law_1207 : decode cL_law 1207 = .ok (.iaload, 1) := by decide +kernel
theorem dL_law_1208 : decode cL_law 1208 = .ok (.invokevirtual 155, 3) := by decide +kernel
theorem dL_law_1211 : decode cL_law 1211 = .ok (.aload_n 2, 1) := by decide +kernel
theorem dL_law_1212 : decode cL_law 1212 = .ok (.aload_n 0, 1) := by decide +kernel
theorem dL_law_1213 : decode cL_law 1213 = .ok (.iload_n 3, 1) := by decide +kernel
theorem dL_law_1214 : decode cL_law 1214 = .ok (.iconst 1, 1) := by decide +kernel
theorem dL_law_1215 : decode cL_law 1215 = .ok (.iadd, 1) := by decide +kernel
theorem dL_law_1216 : decode cL_law 1216 = .ok (.iaload, 1) := by decide +kernel
theorem dL_law_1217 : decode cL_law 1217 = .ok (.invokevirtual 158, 3) := by decide +kernel
theorem dL_law_1220 : decode cL_law 1220 = .ok (.if_icmp .eq 5, 3) := by decide +kernel
theorem dL_law_1223 : decode cL_law 1223 = .ok (.iconst 0, 1) := by decide +kernel
theorem dL_law_1224 : decode cL_law 1224 = .ok (.ireturn, 1) := by decide +kernel
theorem dL_law_1225 : decode cL_law 1225 = .ok (.iinc 3 6, 3) := by decide +kernel
theorem dL_law_1228 : decode cL_law 1228 = .ok (.goto (-1210), 3) := by decide +kernel
theorem dL_law_1231 : decode cL_law 1231 = .ok (.iconst 1, 1) := by decide +kernel
theorem dL_law_1232 : decode cL_law 1232 = .ok (.ireturn, 1) := by decide +kernel
